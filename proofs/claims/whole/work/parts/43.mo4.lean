theorem fa_or (a b : Nat) : nI a ||| nI b = nI (a ||| b) := by
  apply Int32.toBitVec_inj.1
  show BitVec.ofNat 32 a ||| BitVec.ofNat 32 b = BitVec.ofNat 32 (a ||| b)
  apply BitVec.eq_of_getLsbD_eq
  intro i hi
  simp [hi]
theorem fb_xorI (a b : Nat) : nI a ^^^ nI b = nI (a ^^^ b) := by
  apply Int32.toBitVec_inj.1
  show BitVec.ofNat 32 a ^^^ BitVec.ofNat 32 b = BitVec.ofNat 32 (a ^^^ b)
  apply BitVec.eq_of_getLsbD_eq
  intro i hi
  simp [hi]
theorem sm_tab : ∀ i : Fin 12, ((nI i.val &&& 31 : Int32).toBitVec.smod 32).toNat = i.val := by decide +kernel
theorem shr_bit {s i : Nat} (hs : s < 4096) (hi : i < 12) : (nI s >>> (nI i &&& 31)) &&& 1 = nI (s / 2 ^ i % 2) := by
  rw [pk_shrN (by omega) (nI i &&& 31) i (sm_tab ⟨i, hi⟩)]
  have h : s / 2 ^ i ≤ s := Nat.div_le_self _ _
  have := pk_andN (n := s / 2 ^ i) (by omega) (m := 1) 1 (by decide)
  rw [this, Nat.pow_one]
def dsM (gof myf dyf wof : Nat → Int32) (i : Nat) : Int32 := myf i * wof (10 * gof i + dyf i / 360).toNatClampNeg
def balS (byf tof gof myf dyf pdf wof : Nat → Int32) (m d : Int32) (i : Nat) (a : Int32) : Int32 :=
  if dyf i ≤ d ∧ (pdf i < 0 ∨ d < pdf i) then a + (if tof i = m then dsM gof myf dyf wof i else if byf i = m then -(dsM gof myf dyf wof i) else 0) else a
def balO (byf tof gof myf dyf pdf wof : Nat → Int32) (m d : Int32) : Nat → Nat → Int32 → Int32
  | 0, _, a => a
  | k + 1, i, a => balO byf tof gof myf dyf pdf wof m d k (i + 1) (balS byf tof gof myf dyf pdf wof m d i a)
def dbtInM (n : Nat) (gof dyf : Nat → Int32) : Prop := ∀ i, i < n → vp_in (10 * gof i + dyf i / 360) 50
def smL (v : Int32) (n : Nat) : Nat → Nat → (Nat → Int32) → (Nat → Int32)
  | 0, _, f => f
  | k + 1, s, f => smL v n k (s + 1) (upd f (s ||| 2 ^ n) ((if s = 0 then 0 else f s) + v))
def smA (B : Nat → Int32) : Nat → Nat → Nat → (Nat → Int32) → Nat × (Nat → Int32)
  | 0, _, n, f => (n, f)
  | k + 1, i, n, f => if B i = 0 then smA B k (i + 1) n f else smA B k (i + 1) (n + 1) (smL (B i) n (2 ^ n) 0 f)
theorem smA_le (B : Nat → Int32) : ∀ (k i n : Nat) (f : Nat → Int32), (smA B k i n f).1 ≤ n + k
  | 0, _, n, _ => Nat.le_refl n
  | k + 1, i, n, f => by
    unfold smA
    split
    · have := smA_le B k (i + 1) n f; omega
    · have := smA_le B k (i + 1) (n + 1) (smL (B i) n (2 ^ n) 0 f); omega
def gbL (gr : Nat → Int32) (s : Nat) : Nat → Nat → Int32 → Int32
  | 0, _, b => b
  | k + 1, i, b => gbL gr s k (i + 1) (if s / 2 ^ i % 2 = 1 ∧ b < gr (s ^^^ 2 ^ i) then gr (s ^^^ 2 ^ i) else b)
def grL (sm : Nat → Int32) (n : Nat) : Nat → Nat → (Nat → Int32) → (Nat → Int32)
  | 0, _, f => f
  | k + 1, s, f => grL sm n k (s + 1) (upd f s (gbL f s n 0 0 + (if sm s = 0 then 1 else 0)))
theorem pow12 {m : Nat} (h : m ≤ 12) : 2 ^ m ≤ 4096 := Nat.pow_le_pow_right (n := 2) (by decide) h
set_option maxHeartbeats 4000000 in
set_option maxRecDepth 100000 in
theorem lp_Mo_balanceOf (l : Launch) (g : Gx) {κ : Kx} {E : Ex} {P : va_W} (h r0 r1 r2 r5 r6 r16 r17 r18 r19 r20 r21 r22 r23 r25 r27 r28 r29 r30 r31 r33 r34 r35 r36 r37 r38 r39 r40 c : Nat) (mn dt tp sz fk fp at1 en tk nu fl wa co : Int32) (nm : Int64) (wof byf tof gof myf dyf pdf : Nat → Int32) (p0 p1 : Int32) (hc : c ≤ 60) (hd : dbtInM c gof dyf) (C : zC κ l g ({ frames := 0, cells := 0, slots := 0, locals := 0 }) b_Mo_balanceOf 6 "TombLaneModel" "balanceOf" (some FieldType.int) E) : ∀ (k : Nat) (i : Nat) (a : Int32), (i + k = c) → (E (some (.int (balO byf tof gof myf dyf pdf wof p0 p1 k i a))) [(h, .inr (13, [.ref r0, .ref r1, .ref r2, .int mn, .int dt, .ref r5, .ref r6, .int tp, .int sz, .int fk, .int fp, .int at1, .int en, .int tk, .int nu, .long nm, .ref r16, .ref r17, .ref r18, .ref r19, .ref r20, .ref r21, .ref r22, .ref r23, .int fl, .ref r25, .int wa, .ref r27, .ref r28, .ref r29, .ref r30, .ref r31, .int co, .ref r33, .ref r34, .ref r35, .ref r36, .ref r37, .ref r38, .ref r39, .ref r40, .int (nI c)])), (r31, .inl (g.2.1 0, 50, .inl wof)), (r33, .inl (g.2.1 0, 60, .inl byf)), (r34, .inl (g.2.1 0, 60, .inl tof)), (r35, .inl (g.2.1 0, 60, .inl gof)), (r36, .inl (g.2.1 0, 60, .inl myf)), (r37, .inl (g.2.1 0, 60, .inl dyf)), (r38, .inl (g.2.1 0, 60, .inl pdf))] P) → G κ 6 0 0 5 [(0, .ref h), (1, .int p0), (2, .int p1), (3, .int a), (4, .int (nI i))] [] [(h, .inr (13, [.ref r0, .ref r1, .ref r2, .int mn, .int dt, .ref r5, .ref r6, .int tp, .int sz, .int fk, .int fp, .int at1, .int en, .int tk, .int nu, .long nm, .ref r16, .ref r17, .ref r18, .ref r19, .ref r20, .ref r21, .ref r22, .ref r23, .int fl, .ref r25, .int wa, .ref r27, .ref r28, .ref r29, .ref r30, .ref r31, .int co, .ref r33, .ref r34, .ref r35, .ref r36, .ref r37, .ref r38, .ref r39, .ref r40, .int (nI c)])), (r31, .inl (g.2.1 0, 50, .inl wof)), (r33, .inl (g.2.1 0, 60, .inl byf)), (r34, .inl (g.2.1 0, 60, .inl tof)), (r35, .inl (g.2.1 0, 60, .inl gof)), (r36, .inl (g.2.1 0, 60, .inl myf)), (r37, .inl (g.2.1 0, 60, .inl dyf)), (r38, .inl (g.2.1 0, 60, .inl pdf))] P := by
  intro k
  induction k with
  | zero =>
    intro i a hi hE
    refine g_iload C 4 rfl d_Mo_balanceOf_5 ?_
    refine g_aload_n C 0 rfl d_Mo_balanceOf_7 ?_
    refine g_get C 0 rfl rfl in_Mo 41 (by decide) kw_1061 rfl d_Mo_balanceOf_8 ?_
    refine g_icmp_ge C d_Mo_balanceOf_11 (fun _ => ?_) (fun c_1 => absurd (nI_le (by omega) (by omega)) c_1)
    refine g_iload_n C 3 rfl d_Mo_balanceOf_129 ?_
    exact g_iret C rfl hE (by decide) (by decide) d_Mo_balanceOf_130
  | succ k ih =>
    intro i a hi hE
    refine g_iload C 4 rfl d_Mo_balanceOf_5 ?_
    refine g_aload_n C 0 rfl d_Mo_balanceOf_7 ?_
    refine g_get C 0 rfl rfl in_Mo 41 (by decide) kw_1061 rfl d_Mo_balanceOf_8 ?_
    refine g_icmp_ge C d_Mo_balanceOf_11 (fun c_1 => absurd c_1 (nI_ge (by omega) (by omega))) (fun _ => ?_)
    refine g_aload_n C 0 rfl d_Mo_balanceOf_14 ?_
    refine g_get C 0 rfl rfl in_Mo 37 (by decide) kw_1057 rfl d_Mo_balanceOf_15 ?_
    refine g_iload C 4 rfl d_Mo_balanceOf_18 ?_
    refine g_iald C 6 rfl (vp_in_nI (by omega) (by decide)) d_Mo_balanceOf_20 ?_
    refine g_eq (st1 := [.int (dyf i)]) (congrArg (fun z => Value.int z :: []) (congrArg dyf (nI_clamp (by omega)))) rfl ?_
    refine g_iload_n C 2 rfl d_Mo_balanceOf_21 ?_
    refine g_icmp_gt C d_Mo_balanceOf_22 (fun c_2 => ?_) (fun c_2 => ?_)
    · skip
      refine g_iinc (v := nI (i + 1)) (lv1 := [(0, .ref h), (1, .int p0), (2, .int p1), (3, .int a), (4, .int (nI (i + 1)))]) C d_Mo_balanceOf_123 4 rfl (nI_1 _) [1, 2, 3, 4, 0] (by decide) rfl ?_
      refine g_goto C d_Mo_balanceOf_126 ?_
      exact ih (i + 1) _ (by omega) (by simpa [balO, balS, dsM, c_2, Int32.not_le.mpr c_2] using hE)
    · skip
      refine g_aload_n C 0 rfl d_Mo_balanceOf_25 ?_
      refine g_get C 0 rfl rfl in_Mo 38 (by decide) kw_1058 rfl d_Mo_balanceOf_26 ?_
      refine g_iload C 4 rfl d_Mo_balanceOf_29 ?_
      refine g_iald C 7 rfl (vp_in_nI (by omega) (by decide)) d_Mo_balanceOf_31 ?_
      refine g_eq (st1 := [.int (pdf i)]) (congrArg (fun z => Value.int z :: []) (congrArg pdf (nI_clamp (by omega)))) rfl ?_
      refine g_if_lt C d_Mo_balanceOf_32 (fun c_3 => ?_) (fun c_3 => ?_)
      · skip
        refine g_aload_n C 0 rfl d_Mo_balanceOf_49 ?_
        refine g_get C 0 rfl rfl in_Mo 36 (by decide) kw_1056 rfl d_Mo_balanceOf_50 ?_
        refine g_iload C 4 rfl d_Mo_balanceOf_53 ?_
        refine g_iald C 5 rfl (vp_in_nI (by omega) (by decide)) d_Mo_balanceOf_55 ?_
        refine g_eq (st1 := [.int (myf i)]) (congrArg (fun z => Value.int z :: []) (congrArg myf (nI_clamp (by omega)))) rfl ?_
        refine g_aload_n C 0 rfl d_Mo_balanceOf_56 ?_
        refine g_get C 0 rfl rfl in_Mo 31 (by decide) kw_1051 rfl d_Mo_balanceOf_57 ?_
        refine g_bipush (v := 10) C rfl d_Mo_balanceOf_60 ?_
        refine g_aload_n C 0 rfl d_Mo_balanceOf_62 ?_
        refine g_get C 0 rfl rfl in_Mo 35 (by decide) kw_1055 rfl d_Mo_balanceOf_63 ?_
        refine g_iload C 4 rfl d_Mo_balanceOf_66 ?_
        refine g_iald C 4 rfl (vp_in_nI (by omega) (by decide)) d_Mo_balanceOf_68 ?_
        refine g_eq (st1 := [.int (gof i), .int 10, .ref r31, .int (myf i)]) (congrArg (fun z => Value.int z :: [.int 10, .ref r31, .int (myf i)]) (congrArg gof (nI_clamp (by omega)))) rfl ?_
        refine g_imul C d_Mo_balanceOf_69 ?_
        refine g_aload_n C 0 rfl d_Mo_balanceOf_70 ?_
        refine g_get C 0 rfl rfl in_Mo 37 (by decide) kw_1057 rfl d_Mo_balanceOf_71 ?_
        refine g_iload C 4 rfl d_Mo_balanceOf_74 ?_
        refine g_iald C 6 rfl (vp_in_nI (by omega) (by decide)) d_Mo_balanceOf_76 ?_
        refine g_eq (st1 := [.int (dyf i), .int (10 * (gof i)), .ref r31, .int (myf i)]) (congrArg (fun z => Value.int z :: [.int (10 * (gof i)), .ref r31, .int (myf i)]) (congrArg dyf (nI_clamp (by omega)))) rfl ?_
        refine g_sipush (v := 360) C rfl d_Mo_balanceOf_77 ?_
        refine g_idiv C (by decide) d_Mo_balanceOf_80 ?_
        refine g_iadd C d_Mo_balanceOf_81 ?_
        refine g_iald C 1 rfl (hd i (by omega)) d_Mo_balanceOf_82 ?_
        refine g_imul C d_Mo_balanceOf_83 ?_
        refine g_istore (lv1 := [(0, .ref h), (1, .int p0), (2, .int p1), (3, .int a), (4, .int (nI i)), (5, .int ((myf i) * (wof (Int32.toNatClampNeg ((10 * (gof i)) + ((dyf i) / 360))))))]) C d_Mo_balanceOf_84 [1, 2, 3, 4, 5, 0] (by decide) rfl ?_
        refine g_iload_n C 3 rfl d_Mo_balanceOf_86 ?_
        refine g_aload_n C 0 rfl d_Mo_balanceOf_87 ?_
        refine g_get C 0 rfl rfl in_Mo 34 (by decide) kw_1054 rfl d_Mo_balanceOf_88 ?_
        refine g_iload C 4 rfl d_Mo_balanceOf_91 ?_
        refine g_iald C 3 rfl (vp_in_nI (by omega) (by decide)) d_Mo_balanceOf_93 ?_
        refine g_eq (st1 := [.int (tof i), .int a]) (congrArg (fun z => Value.int z :: [.int a]) (congrArg tof (nI_clamp (by omega)))) rfl ?_
        refine g_iload_n C 1 rfl d_Mo_balanceOf_94 ?_
        refine g_icmp_ne C d_Mo_balanceOf_95 (fun c_4 => ?_) (fun c_4 => ?_)
        · skip
          refine g_aload_n C 0 rfl d_Mo_balanceOf_103 ?_
          refine g_get C 0 rfl rfl in_Mo 33 (by decide) kw_1053 rfl d_Mo_balanceOf_104 ?_
          refine g_iload C 4 rfl d_Mo_balanceOf_107 ?_
          refine g_iald C 2 rfl (vp_in_nI (by omega) (by decide)) d_Mo_balanceOf_109 ?_
          refine g_eq (st1 := [.int (byf i), .int a]) (congrArg (fun z => Value.int z :: [.int a]) (congrArg byf (nI_clamp (by omega)))) rfl ?_
          refine g_iload_n C 1 rfl d_Mo_balanceOf_110 ?_
          refine g_icmp_ne C d_Mo_balanceOf_111 (fun c_5 => ?_) (fun c_5 => ?_)
          · skip
            refine g_iconst (v := 0) C rfl d_Mo_balanceOf_120 ?_
            refine g_iadd C d_Mo_balanceOf_121 ?_
            refine g_istore_n (lv1 := [(0, .ref h), (1, .int p0), (2, .int p1), (3, .int (a + 0)), (4, .int (nI i)), (5, .int ((myf i) * (wof (Int32.toNatClampNeg ((10 * (gof i)) + ((dyf i) / 360))))))]) C d_Mo_balanceOf_122 [1, 2, 3, 0, 4, 5] (by decide) rfl ?_
            refine g_iinc (v := nI (i + 1)) (lv1 := [(0, .ref h), (1, .int p0), (2, .int p1), (3, .int (a + 0)), (4, .int (nI (i + 1))), (5, .int ((myf i) * (wof (Int32.toNatClampNeg ((10 * (gof i)) + ((dyf i) / 360))))))]) C d_Mo_balanceOf_123 4 rfl (nI_1 _) [1, 2, 3, 4, 0, 5] (by decide) rfl ?_
            refine g_goto C d_Mo_balanceOf_126 ?_
            refine g_lv (lv1 := [(0, .ref h), (1, .int p0), (2, .int p1), (3, .int (a + 0)), (4, .int (nI (i + 1)))]) [0, 1, 2, 3, 4] rfl ?_
            exact ih (i + 1) _ (by omega) (by simpa [balO, balS, dsM, c_2, Int32.not_lt.mp c_2, c_3, Int32.not_le.mpr c_3, c_4, c_5] using hE)
          · skip
            refine g_iload C 5 rfl d_Mo_balanceOf_114 ?_
            refine g_ineg C d_Mo_balanceOf_116 ?_
            refine g_goto C d_Mo_balanceOf_117 ?_
            refine g_iadd C d_Mo_balanceOf_121 ?_
            refine g_istore_n (lv1 := [(0, .ref h), (1, .int p0), (2, .int p1), (3, .int (a + (-((myf i) * (wof (Int32.toNatClampNeg ((10 * (gof i)) + ((dyf i) / 360)))))))), (4, .int (nI i)), (5, .int ((myf i) * (wof (Int32.toNatClampNeg ((10 * (gof i)) + ((dyf i) / 360))))))]) C d_Mo_balanceOf_122 [1, 2, 3, 0, 4, 5] (by decide) rfl ?_
            refine g_iinc (v := nI (i + 1)) (lv1 := [(0, .ref h), (1, .int p0), (2, .int p1), (3, .int (a + (-((myf i) * (wof (Int32.toNatClampNeg ((10 * (gof i)) + ((dyf i) / 360)))))))), (4, .int (nI (i + 1))), (5, .int ((myf i) * (wof (Int32.toNatClampNeg ((10 * (gof i)) + ((dyf i) / 360))))))]) C d_Mo_balanceOf_123 4 rfl (nI_1 _) [1, 2, 3, 4, 0, 5] (by decide) rfl ?_
            refine g_goto C d_Mo_balanceOf_126 ?_
            refine g_lv (lv1 := [(0, .ref h), (1, .int p0), (2, .int p1), (3, .int (a + (-((myf i) * (wof (Int32.toNatClampNeg ((10 * (gof i)) + ((dyf i) / 360)))))))), (4, .int (nI (i + 1)))]) [0, 1, 2, 3, 4] rfl ?_
            exact ih (i + 1) _ (by omega) (by simpa [balO, balS, dsM, c_2, Int32.not_lt.mp c_2, c_3, Int32.not_le.mpr c_3, c_4, eq_true c_5] using hE)
        · skip
          refine g_iload C 5 rfl d_Mo_balanceOf_98 ?_
          refine g_goto C d_Mo_balanceOf_100 ?_
          refine g_iadd C d_Mo_balanceOf_121 ?_
          refine g_istore_n (lv1 := [(0, .ref h), (1, .int p0), (2, .int p1), (3, .int (a + ((myf i) * (wof (Int32.toNatClampNeg ((10 * (gof i)) + ((dyf i) / 360))))))), (4, .int (nI i)), (5, .int ((myf i) * (wof (Int32.toNatClampNeg ((10 * (gof i)) + ((dyf i) / 360))))))]) C d_Mo_balanceOf_122 [1, 2, 3, 0, 4, 5] (by decide) rfl ?_
          refine g_iinc (v := nI (i + 1)) (lv1 := [(0, .ref h), (1, .int p0), (2, .int p1), (3, .int (a + ((myf i) * (wof (Int32.toNatClampNeg ((10 * (gof i)) + ((dyf i) / 360))))))), (4, .int (nI (i + 1))), (5, .int ((myf i) * (wof (Int32.toNatClampNeg ((10 * (gof i)) + ((dyf i) / 360))))))]) C d_Mo_balanceOf_123 4 rfl (nI_1 _) [1, 2, 3, 4, 0, 5] (by decide) rfl ?_
          refine g_goto C d_Mo_balanceOf_126 ?_
          refine g_lv (lv1 := [(0, .ref h), (1, .int p0), (2, .int p1), (3, .int (a + ((myf i) * (wof (Int32.toNatClampNeg ((10 * (gof i)) + ((dyf i) / 360))))))), (4, .int (nI (i + 1)))]) [0, 1, 2, 3, 4] rfl ?_
          exact ih (i + 1) _ (by omega) (by simpa [balO, balS, dsM, c_2, Int32.not_lt.mp c_2, c_3, Int32.not_le.mpr c_3, eq_true c_4] using hE)
      · skip
        refine g_aload_n C 0 rfl d_Mo_balanceOf_35 ?_
        refine g_get C 0 rfl rfl in_Mo 38 (by decide) kw_1058 rfl d_Mo_balanceOf_36 ?_
        refine g_iload C 4 rfl d_Mo_balanceOf_39 ?_
        refine g_iald C 7 rfl (vp_in_nI (by omega) (by decide)) d_Mo_balanceOf_41 ?_
        refine g_eq (st1 := [.int (pdf i)]) (congrArg (fun z => Value.int z :: []) (congrArg pdf (nI_clamp (by omega)))) rfl ?_
        refine g_iload_n C 2 rfl d_Mo_balanceOf_42 ?_
        refine g_icmp_gt C d_Mo_balanceOf_43 (fun c_6 => ?_) (fun c_6 => ?_)
        · skip
          refine g_aload_n C 0 rfl d_Mo_balanceOf_49 ?_
          refine g_get C 0 rfl rfl in_Mo 36 (by decide) kw_1056 rfl d_Mo_balanceOf_50 ?_
          refine g_iload C 4 rfl d_Mo_balanceOf_53 ?_
          refine g_iald C 5 rfl (vp_in_nI (by omega) (by decide)) d_Mo_balanceOf_55 ?_
          refine g_eq (st1 := [.int (myf i)]) (congrArg (fun z => Value.int z :: []) (congrArg myf (nI_clamp (by omega)))) rfl ?_
          refine g_aload_n C 0 rfl d_Mo_balanceOf_56 ?_
          refine g_get C 0 rfl rfl in_Mo 31 (by decide) kw_1051 rfl d_Mo_balanceOf_57 ?_
          refine g_bipush (v := 10) C rfl d_Mo_balanceOf_60 ?_
          refine g_aload_n C 0 rfl d_Mo_balanceOf_62 ?_
          refine g_get C 0 rfl rfl in_Mo 35 (by decide) kw_1055 rfl d_Mo_balanceOf_63 ?_
          refine g_iload C 4 rfl d_Mo_balanceOf_66 ?_
          refine g_iald C 4 rfl (vp_in_nI (by omega) (by decide)) d_Mo_balanceOf_68 ?_
          refine g_eq (st1 := [.int (gof i), .int 10, .ref r31, .int (myf i)]) (congrArg (fun z => Value.int z :: [.int 10, .ref r31, .int (myf i)]) (congrArg gof (nI_clamp (by omega)))) rfl ?_
          refine g_imul C d_Mo_balanceOf_69 ?_
          refine g_aload_n C 0 rfl d_Mo_balanceOf_70 ?_
          refine g_get C 0 rfl rfl in_Mo 37 (by decide) kw_1057 rfl d_Mo_balanceOf_71 ?_
          refine g_iload C 4 rfl d_Mo_balanceOf_74 ?_
          refine g_iald C 6 rfl (vp_in_nI (by omega) (by decide)) d_Mo_balanceOf_76 ?_
          refine g_eq (st1 := [.int (dyf i), .int (10 * (gof i)), .ref r31, .int (myf i)]) (congrArg (fun z => Value.int z :: [.int (10 * (gof i)), .ref r31, .int (myf i)]) (congrArg dyf (nI_clamp (by omega)))) rfl ?_
          refine g_sipush (v := 360) C rfl d_Mo_balanceOf_77 ?_
          refine g_idiv C (by decide) d_Mo_balanceOf_80 ?_
          refine g_iadd C d_Mo_balanceOf_81 ?_
          refine g_iald C 1 rfl (hd i (by omega)) d_Mo_balanceOf_82 ?_
          refine g_imul C d_Mo_balanceOf_83 ?_
          refine g_istore (lv1 := [(0, .ref h), (1, .int p0), (2, .int p1), (3, .int a), (4, .int (nI i)), (5, .int ((myf i) * (wof (Int32.toNatClampNeg ((10 * (gof i)) + ((dyf i) / 360))))))]) C d_Mo_balanceOf_84 [1, 2, 3, 4, 5, 0] (by decide) rfl ?_
          refine g_iload_n C 3 rfl d_Mo_balanceOf_86 ?_
          refine g_aload_n C 0 rfl d_Mo_balanceOf_87 ?_
          refine g_get C 0 rfl rfl in_Mo 34 (by decide) kw_1054 rfl d_Mo_balanceOf_88 ?_
          refine g_iload C 4 rfl d_Mo_balanceOf_91 ?_
          refine g_iald C 3 rfl (vp_in_nI (by omega) (by decide)) d_Mo_balanceOf_93 ?_
          refine g_eq (st1 := [.int (tof i), .int a]) (congrArg (fun z => Value.int z :: [.int a]) (congrArg tof (nI_clamp (by omega)))) rfl ?_
          refine g_iload_n C 1 rfl d_Mo_balanceOf_94 ?_
          refine g_icmp_ne C d_Mo_balanceOf_95 (fun c_7 => ?_) (fun c_7 => ?_)
          · skip
            refine g_aload_n C 0 rfl d_Mo_balanceOf_103 ?_
            refine g_get C 0 rfl rfl in_Mo 33 (by decide) kw_1053 rfl d_Mo_balanceOf_104 ?_
            refine g_iload C 4 rfl d_Mo_balanceOf_107 ?_
            refine g_iald C 2 rfl (vp_in_nI (by omega) (by decide)) d_Mo_balanceOf_109 ?_
            refine g_eq (st1 := [.int (byf i), .int a]) (congrArg (fun z => Value.int z :: [.int a]) (congrArg byf (nI_clamp (by omega)))) rfl ?_
            refine g_iload_n C 1 rfl d_Mo_balanceOf_110 ?_
            refine g_icmp_ne C d_Mo_balanceOf_111 (fun c_8 => ?_) (fun c_8 => ?_)
            · skip
              refine g_iconst (v := 0) C rfl d_Mo_balanceOf_120 ?_
              refine g_iadd C d_Mo_balanceOf_121 ?_
              refine g_istore_n (lv1 := [(0, .ref h), (1, .int p0), (2, .int p1), (3, .int (a + 0)), (4, .int (nI i)), (5, .int ((myf i) * (wof (Int32.toNatClampNeg ((10 * (gof i)) + ((dyf i) / 360))))))]) C d_Mo_balanceOf_122 [1, 2, 3, 0, 4, 5] (by decide) rfl ?_
              refine g_iinc (v := nI (i + 1)) (lv1 := [(0, .ref h), (1, .int p0), (2, .int p1), (3, .int (a + 0)), (4, .int (nI (i + 1))), (5, .int ((myf i) * (wof (Int32.toNatClampNeg ((10 * (gof i)) + ((dyf i) / 360))))))]) C d_Mo_balanceOf_123 4 rfl (nI_1 _) [1, 2, 3, 4, 0, 5] (by decide) rfl ?_
              refine g_goto C d_Mo_balanceOf_126 ?_
              refine g_lv (lv1 := [(0, .ref h), (1, .int p0), (2, .int p1), (3, .int (a + 0)), (4, .int (nI (i + 1)))]) [0, 1, 2, 3, 4] rfl ?_
              exact ih (i + 1) _ (by omega) (by simpa [balO, balS, dsM, c_2, Int32.not_lt.mp c_2, c_3, Int32.not_lt.mp c_3, c_6, Int32.not_le.mpr c_6, c_7, c_8] using hE)
            · skip
              refine g_iload C 5 rfl d_Mo_balanceOf_114 ?_
              refine g_ineg C d_Mo_balanceOf_116 ?_
              refine g_goto C d_Mo_balanceOf_117 ?_
              refine g_iadd C d_Mo_balanceOf_121 ?_
              refine g_istore_n (lv1 := [(0, .ref h), (1, .int p0), (2, .int p1), (3, .int (a + (-((myf i) * (wof (Int32.toNatClampNeg ((10 * (gof i)) + ((dyf i) / 360)))))))), (4, .int (nI i)), (5, .int ((myf i) * (wof (Int32.toNatClampNeg ((10 * (gof i)) + ((dyf i) / 360))))))]) C d_Mo_balanceOf_122 [1, 2, 3, 0, 4, 5] (by decide) rfl ?_
              refine g_iinc (v := nI (i + 1)) (lv1 := [(0, .ref h), (1, .int p0), (2, .int p1), (3, .int (a + (-((myf i) * (wof (Int32.toNatClampNeg ((10 * (gof i)) + ((dyf i) / 360)))))))), (4, .int (nI (i + 1))), (5, .int ((myf i) * (wof (Int32.toNatClampNeg ((10 * (gof i)) + ((dyf i) / 360))))))]) C d_Mo_balanceOf_123 4 rfl (nI_1 _) [1, 2, 3, 4, 0, 5] (by decide) rfl ?_
              refine g_goto C d_Mo_balanceOf_126 ?_
              refine g_lv (lv1 := [(0, .ref h), (1, .int p0), (2, .int p1), (3, .int (a + (-((myf i) * (wof (Int32.toNatClampNeg ((10 * (gof i)) + ((dyf i) / 360)))))))), (4, .int (nI (i + 1)))]) [0, 1, 2, 3, 4] rfl ?_
              exact ih (i + 1) _ (by omega) (by simpa [balO, balS, dsM, c_2, Int32.not_lt.mp c_2, c_3, Int32.not_lt.mp c_3, c_6, Int32.not_le.mpr c_6, c_7, eq_true c_8] using hE)
          · skip
            refine g_iload C 5 rfl d_Mo_balanceOf_98 ?_
            refine g_goto C d_Mo_balanceOf_100 ?_
            refine g_iadd C d_Mo_balanceOf_121 ?_
            refine g_istore_n (lv1 := [(0, .ref h), (1, .int p0), (2, .int p1), (3, .int (a + ((myf i) * (wof (Int32.toNatClampNeg ((10 * (gof i)) + ((dyf i) / 360))))))), (4, .int (nI i)), (5, .int ((myf i) * (wof (Int32.toNatClampNeg ((10 * (gof i)) + ((dyf i) / 360))))))]) C d_Mo_balanceOf_122 [1, 2, 3, 0, 4, 5] (by decide) rfl ?_
            refine g_iinc (v := nI (i + 1)) (lv1 := [(0, .ref h), (1, .int p0), (2, .int p1), (3, .int (a + ((myf i) * (wof (Int32.toNatClampNeg ((10 * (gof i)) + ((dyf i) / 360))))))), (4, .int (nI (i + 1))), (5, .int ((myf i) * (wof (Int32.toNatClampNeg ((10 * (gof i)) + ((dyf i) / 360))))))]) C d_Mo_balanceOf_123 4 rfl (nI_1 _) [1, 2, 3, 4, 0, 5] (by decide) rfl ?_
            refine g_goto C d_Mo_balanceOf_126 ?_
            refine g_lv (lv1 := [(0, .ref h), (1, .int p0), (2, .int p1), (3, .int (a + ((myf i) * (wof (Int32.toNatClampNeg ((10 * (gof i)) + ((dyf i) / 360))))))), (4, .int (nI (i + 1)))]) [0, 1, 2, 3, 4] rfl ?_
            exact ih (i + 1) _ (by omega) (by simpa [balO, balS, dsM, c_2, Int32.not_lt.mp c_2, c_3, Int32.not_lt.mp c_3, c_6, Int32.not_le.mpr c_6, eq_true c_7] using hE)
        · skip
          refine g_goto C d_Mo_balanceOf_46 ?_
          refine g_iinc (v := nI (i + 1)) (lv1 := [(0, .ref h), (1, .int p0), (2, .int p1), (3, .int a), (4, .int (nI (i + 1)))]) C d_Mo_balanceOf_123 4 rfl (nI_1 _) [1, 2, 3, 4, 0] (by decide) rfl ?_
          refine g_goto C d_Mo_balanceOf_126 ?_
          exact ih (i + 1) _ (by omega) (by simpa [balO, balS, dsM, c_2, Int32.not_lt.mp c_2, c_3, Int32.not_lt.mp c_3, c_6, Int32.not_lt.mp c_6] using hE)

set_option maxHeartbeats 4000000 in
set_option maxRecDepth 100000 in
theorem c_Mo_balanceOf (l : Launch) (g : Gx) (h r0 r1 r2 r5 r6 r16 r17 r18 r19 r20 r21 r22 r23 r25 r27 r28 r29 r30 r31 r33 r34 r35 r36 r37 r38 r39 r40 c : Nat) (mn dt tp sz fk fp at1 en tk nu fl wa co : Int32) (nm : Int64) (wof byf tof gof myf dyf pdf : Nat → Int32) (p0 p1 : Int32) (hc : c ≤ 60) (hd : dbtInM c gof dyf) : M0 l g y_Mo_balanceOf b_Mo_balanceOf 6 (some FieldType.int) ({ frames := 0, cells := 0, slots := 0, locals := 0 }) [.ref h, .int p0, .int p1] [(h, .inr (13, [.ref r0, .ref r1, .ref r2, .int mn, .int dt, .ref r5, .ref r6, .int tp, .int sz, .int fk, .int fp, .int at1, .int en, .int tk, .int nu, .long nm, .ref r16, .ref r17, .ref r18, .ref r19, .ref r20, .ref r21, .ref r22, .ref r23, .int fl, .ref r25, .int wa, .ref r27, .ref r28, .ref r29, .ref r30, .ref r31, .int co, .ref r33, .ref r34, .ref r35, .ref r36, .ref r37, .ref r38, .ref r39, .ref r40, .int (nI c)])), (r31, .inl (g.2.1 0, 50, .inl wof)), (r33, .inl (g.2.1 0, 60, .inl byf)), (r34, .inl (g.2.1 0, 60, .inl tof)), (r35, .inl (g.2.1 0, 60, .inl gof)), (r36, .inl (g.2.1 0, 60, .inl myf)), (r37, .inl (g.2.1 0, 60, .inl dyf)), (r38, .inl (g.2.1 0, 60, .inl pdf))] (some (.int (balO byf tof gof myf dyf pdf wof p0 p1 c 0 0))) [(h, .inr (13, [.ref r0, .ref r1, .ref r2, .int mn, .int dt, .ref r5, .ref r6, .int tp, .int sz, .int fk, .int fp, .int at1, .int en, .int tk, .int nu, .long nm, .ref r16, .ref r17, .ref r18, .ref r19, .ref r20, .ref r21, .ref r22, .ref r23, .int fl, .ref r25, .int wa, .ref r27, .ref r28, .ref r29, .ref r30, .ref r31, .int co, .ref r33, .ref r34, .ref r35, .ref r36, .ref r37, .ref r38, .ref r39, .ref r40, .int (nI c)])), (r31, .inl (g.2.1 0, 50, .inl wof)), (r33, .inl (g.2.1 0, 60, .inl byf)), (r34, .inl (g.2.1 0, 60, .inl tof)), (r35, .inl (g.2.1 0, 60, .inl gof)), (r36, .inl (g.2.1 0, 60, .inl myf)), (r37, .inl (g.2.1 0, 60, .inl dyf)), (r38, .inl (g.2.1 0, 60, .inl pdf))] := by
  refine MP.of (by decide) (Nat.le_of_ble_eq_true rfl) (fun κ C => ?_)
  have C : zC κ l g ({ frames := 0, cells := 0, slots := 0, locals := 0 }) b_Mo_balanceOf 6 "TombLaneModel" "balanceOf" (some FieldType.int) _ := C
  refine g_lv (lv1 := [(0, .ref h), (1, .int p0), (2, .int p1)]) [0, 1, 2] rfl ?_
  refine g_iconst (v := 0) C rfl d_Mo_balanceOf_0 ?_
  refine g_istore_n (lv1 := [(0, .ref h), (1, .int p0), (2, .int p1), (3, .int 0)]) C d_Mo_balanceOf_1 [1, 2, 3, 0] (by decide) rfl ?_
  refine g_iconst (v := 0) C rfl d_Mo_balanceOf_2 ?_
  refine g_istore (lv1 := [(0, .ref h), (1, .int p0), (2, .int p1), (3, .int 0), (4, .int 0)]) C d_Mo_balanceOf_3 [1, 2, 3, 4, 0] (by decide) rfl ?_
  exact lp_Mo_balanceOf l g h r0 r1 r2 r5 r6 r16 r17 r18 r19 r20 r21 r22 r23 r25 r27 r28 r29 r30 r31 r33 r34 r35 r36 r37 r38 r39 r40 c mn dt tp sz fk fp at1 en tk nu fl wa co nm wof byf tof gof myf dyf pdf p0 p1 hc hd C c 0 0 (by omega) ⟨rfl, rfl, rfl⟩

set_option maxHeartbeats 4000000 in
set_option maxRecDepth 100000 in
theorem c_Mo_balance (l : Launch) (g : Gx) (h r0 r1 r2 r5 r6 r16 r17 r18 r19 r20 r21 r22 r23 r25 r27 r28 r29 r30 r31 r33 r34 r35 r36 r37 r38 r39 r40 c : Nat) (mn dt tp sz fk fp at1 en tk nu fl wa co : Int32) (nm : Int64) (wof byf tof gof myf dyf pdf : Nat → Int32) (p0 p1 : Int32) (hc : c ≤ 60) (hd : dbtInM c gof dyf) : M0 l g y_Mo_balance b_Mo_balance 3 (some FieldType.int) ({ frames := 1, cells := 0, slots := 0, locals := 25 }) [.ref h, .int p0, .int p1] [(h, .inr (13, [.ref r0, .ref r1, .ref r2, .int mn, .int dt, .ref r5, .ref r6, .int tp, .int sz, .int fk, .int fp, .int at1, .int en, .int tk, .int nu, .long nm, .ref r16, .ref r17, .ref r18, .ref r19, .ref r20, .ref r21, .ref r22, .ref r23, .int fl, .ref r25, .int wa, .ref r27, .ref r28, .ref r29, .ref r30, .ref r31, .int co, .ref r33, .ref r34, .ref r35, .ref r36, .ref r37, .ref r38, .ref r39, .ref r40, .int (nI c)])), (r31, .inl (g.2.1 0, 50, .inl wof)), (r33, .inl (g.2.1 0, 60, .inl byf)), (r34, .inl (g.2.1 0, 60, .inl tof)), (r35, .inl (g.2.1 0, 60, .inl gof)), (r36, .inl (g.2.1 0, 60, .inl myf)), (r37, .inl (g.2.1 0, 60, .inl dyf)), (r38, .inl (g.2.1 0, 60, .inl pdf))] (some (.int (if inB p0 mn = true ∧ inB p1 3600 = true then balO byf tof gof myf dyf pdf wof p0 p1 c 0 0 else (-2000000001)))) [(h, .inr (13, [.ref r0, .ref r1, .ref r2, .int mn, .int dt, .ref r5, .ref r6, .int tp, .int sz, .int fk, .int fp, .int at1, .int en, .int tk, .int nu, .long nm, .ref r16, .ref r17, .ref r18, .ref r19, .ref r20, .ref r21, .ref r22, .ref r23, .int fl, .ref r25, .int wa, .ref r27, .ref r28, .ref r29, .ref r30, .ref r31, .int co, .ref r33, .ref r34, .ref r35, .ref r36, .ref r37, .ref r38, .ref r39, .ref r40, .int (nI c)])), (r31, .inl (g.2.1 0, 50, .inl wof)), (r33, .inl (g.2.1 0, 60, .inl byf)), (r34, .inl (g.2.1 0, 60, .inl tof)), (r35, .inl (g.2.1 0, 60, .inl gof)), (r36, .inl (g.2.1 0, 60, .inl myf)), (r37, .inl (g.2.1 0, 60, .inl dyf)), (r38, .inl (g.2.1 0, 60, .inl pdf))] := by
  refine MP.of (by decide) (Nat.le_of_ble_eq_true rfl) (fun κ C => ?_)
  have C : zC κ l g ({ frames := 1, cells := 0, slots := 0, locals := 25 }) b_Mo_balance 3 "TombLaneModel" "balance" (some FieldType.int) _ := C
  refine g_lv (lv1 := [(0, .ref h), (1, .int p0), (2, .int p1)]) [0, 1, 2] rfl ?_
  refine g_aload_n C 0 rfl d_Mo_balance_0 ?_
  refine g_iload_n C 1 rfl d_Mo_balance_1 ?_
  refine g_callV0 (rest := []) (Xn := [(h, .inr (13, [.ref r0, .ref r1, .ref r2, .int mn, .int dt, .ref r5, .ref r6, .int tp, .int sz, .int fk, .int fp, .int at1, .int en, .int tk, .int nu, .long nm, .ref r16, .ref r17, .ref r18, .ref r19, .ref r20, .ref r21, .ref r22, .ref r23, .int fl, .ref r25, .int wa, .ref r27, .ref r28, .ref r29, .ref r30, .ref r31, .int co, .ref r33, .ref r34, .ref r35, .ref r36, .ref r37, .ref r38, .ref r39, .ref r40, .int (nI c)])), (r31, .inl (g.2.1 0, 50, .inl wof)), (r33, .inl (g.2.1 0, 60, .inl byf)), (r34, .inl (g.2.1 0, 60, .inl tof)), (r35, .inl (g.2.1 0, 60, .inl gof)), (r36, .inl (g.2.1 0, 60, .inl myf)), (r37, .inl (g.2.1 0, 60, .inl dyf)), (r38, .inl (g.2.1 0, 60, .inl pdf))]) C (c_Mo_isMan l g h r0 r1 r2 r5 r6 r16 r17 r18 r19 r20 r21 r22 r23 r25 r27 r28 r29 r30 r31 r33 r34 r35 r36 r37 r38 r39 r40 mn dt tp sz fk fp at1 en tk nu fl wa co (nI c) nm p0) [0] [1, 2, 3, 4, 5, 6, 7] [7, 0, 1, 2, 3, 4, 5, 6] rfl (by decide) (by decide) rfl mo_Mo_isMan mv_Mo_isMan kw_902 (by decide) (rcX 0 rfl rfl) rfl (Nat.le_of_ble_eq_true rfl) ⟨Nat.le_of_ble_eq_true rfl, Nat.le_of_ble_eq_true rfl⟩ d_Mo_balance_2 ?_
  refine g_if_eq C d_Mo_balance_5 (fun c_1 => ?_) (fun c_1 => ?_)
  · have c_1 := zb_0.mp c_1
    refine g_ldcw C kw_1182 d_Mo_balance_24 ?_
    exact g_iret C rfl ⟨congrArg (fun z => some (Value.int z)) (by simp [c_1]), rfl, rfl⟩ (by decide) (by decide) d_Mo_balance_27
  · have c_1 := zb_n0.mp c_1
    refine g_iload_n C 2 rfl d_Mo_balance_8 ?_
    refine g_callS0 (rest := []) (Xn := [(h, .inr (13, [.ref r0, .ref r1, .ref r2, .int mn, .int dt, .ref r5, .ref r6, .int tp, .int sz, .int fk, .int fp, .int at1, .int en, .int tk, .int nu, .long nm, .ref r16, .ref r17, .ref r18, .ref r19, .ref r20, .ref r21, .ref r22, .ref r23, .int fl, .ref r25, .int wa, .ref r27, .ref r28, .ref r29, .ref r30, .ref r31, .int co, .ref r33, .ref r34, .ref r35, .ref r36, .ref r37, .ref r38, .ref r39, .ref r40, .int (nI c)])), (r31, .inl (g.2.1 0, 50, .inl wof)), (r33, .inl (g.2.1 0, 60, .inl byf)), (r34, .inl (g.2.1 0, 60, .inl tof)), (r35, .inl (g.2.1 0, 60, .inl gof)), (r36, .inl (g.2.1 0, 60, .inl myf)), (r37, .inl (g.2.1 0, 60, .inl dyf)), (r38, .inl (g.2.1 0, 60, .inl pdf))]) C (c_Mo_isDay l g p1) [] [0, 1, 2, 3, 4, 5, 6, 7] [0, 1, 2, 3, 4, 5, 6, 7] rfl (by decide) (by decide) rfl mo_Mo_isDay ms_Mo_isDay kw_974 (by decide) rfl (Nat.le_of_ble_eq_true rfl) ⟨Nat.le_of_ble_eq_true rfl, Nat.le_of_ble_eq_true rfl⟩ d_Mo_balance_9 ?_
    refine g_if_eq C d_Mo_balance_12 (fun c_2 => ?_) (fun c_2 => ?_)
    · have c_2 := zb_0.mp c_2
      refine g_ldcw C kw_1182 d_Mo_balance_24 ?_
      exact g_iret C rfl ⟨congrArg (fun z => some (Value.int z)) (by simp [c_1, c_2]), rfl, rfl⟩ (by decide) (by decide) d_Mo_balance_27
    · have c_2 := zb_n0.mp c_2
      refine g_aload_n C 0 rfl d_Mo_balance_15 ?_
      refine g_iload_n C 1 rfl d_Mo_balance_16 ?_
      refine g_iload_n C 2 rfl d_Mo_balance_17 ?_
      refine g_callV0 (rest := []) (Xn := [(h, .inr (13, [.ref r0, .ref r1, .ref r2, .int mn, .int dt, .ref r5, .ref r6, .int tp, .int sz, .int fk, .int fp, .int at1, .int en, .int tk, .int nu, .long nm, .ref r16, .ref r17, .ref r18, .ref r19, .ref r20, .ref r21, .ref r22, .ref r23, .int fl, .ref r25, .int wa, .ref r27, .ref r28, .ref r29, .ref r30, .ref r31, .int co, .ref r33, .ref r34, .ref r35, .ref r36, .ref r37, .ref r38, .ref r39, .ref r40, .int (nI c)])), (r31, .inl (g.2.1 0, 50, .inl wof)), (r33, .inl (g.2.1 0, 60, .inl byf)), (r34, .inl (g.2.1 0, 60, .inl tof)), (r35, .inl (g.2.1 0, 60, .inl gof)), (r36, .inl (g.2.1 0, 60, .inl myf)), (r37, .inl (g.2.1 0, 60, .inl dyf)), (r38, .inl (g.2.1 0, 60, .inl pdf))]) C (c_Mo_balanceOf l g h r0 r1 r2 r5 r6 r16 r17 r18 r19 r20 r21 r22 r23 r25 r27 r28 r29 r30 r31 r33 r34 r35 r36 r37 r38 r39 r40 c mn dt tp sz fk fp at1 en tk nu fl wa co nm wof byf tof gof myf dyf pdf p0 p1 (by assumption) (by assumption)) [0, 1, 2, 3, 4, 5, 6, 7] [] [0, 1, 2, 3, 4, 5, 6, 7] rfl (by decide) (by decide) rfl mo_Mo_balanceOf mv_Mo_balanceOf kw_1178 (by decide) (rcX 0 rfl rfl) rfl (Nat.le_of_ble_eq_true rfl) ⟨Nat.le_of_ble_eq_true rfl, Nat.le_of_ble_eq_true rfl⟩ d_Mo_balance_18 ?_
      refine g_goto C d_Mo_balance_21 ?_
      exact g_iret C rfl ⟨congrArg (fun z => some (Value.int z)) (by simp [c_1, c_2]), rfl, rfl⟩ (by decide) (by decide) d_Mo_balance_27

set_option maxHeartbeats 4000000 in
set_option maxRecDepth 100000 in
theorem lp_Mo_fewest2 (l : Launch) (g : Gx) {κ : Kx} {E : Ex} {P : va_W} (h r0 r1 r2 r5 r6 r16 r17 r18 r19 r20 r21 r22 r23 r25 r27 r28 r29 r30 r31 r33 r34 r35 r36 r37 r38 r39 r40 m c : Nat) (dt tp sz fk fp at1 en tk nu fl wa co : Int32) (nm : Int64) (wof byf tof gof myf dyf pdf : Nat → Int32) (p0 : Int32) (grf : Nat → Int32) (n i : Nat) (v : Int32) (hn : n ≤ 11) (C : zC κ l g ({ frames := 1, cells := 0, slots := 0, locals := 25 }) b_Mo_fewest 6 "TombLaneModel" "fewest" (some FieldType.int) E) : ∀ (k : Nat) (s : Nat) (smf : Nat → Int32), (s + k = 2 ^ n) → (G κ 6 0 0 84 [(0, .ref h), (1, .int p0), (2, .int (nI n)), (3, .int (nI i)), (4, .int v)] [] [(h, .inr (13, [.ref r0, .ref r1, .ref r2, .int (nI m), .int dt, .ref r5, .ref r6, .int tp, .int sz, .int fk, .int fp, .int at1, .int en, .int tk, .int nu, .long nm, .ref r16, .ref r17, .ref r18, .ref r19, .ref r20, .ref r21, .ref r22, .ref r23, .int fl, .ref r25, .int wa, .ref r27, .ref r28, .ref r29, .ref r30, .ref r31, .int co, .ref r33, .ref r34, .ref r35, .ref r36, .ref r37, .ref r38, .ref r39, .ref r40, .int (nI c)])), (r31, .inl (g.2.1 0, 50, .inl wof)), (r33, .inl (g.2.1 0, 60, .inl byf)), (r34, .inl (g.2.1 0, 60, .inl tof)), (r35, .inl (g.2.1 0, 60, .inl gof)), (r36, .inl (g.2.1 0, 60, .inl myf)), (r37, .inl (g.2.1 0, 60, .inl dyf)), (r38, .inl (g.2.1 0, 60, .inl pdf)), (r39, .inl (g.2.1 0, 4096, .inl (smL v n k s smf))), (r40, .inl (g.2.1 0, 4096, .inl grf))] P) → G κ 6 0 0 40 [(0, .ref h), (1, .int p0), (2, .int (nI n)), (3, .int (nI i)), (4, .int v), (5, .int (nI s))] [] [(h, .inr (13, [.ref r0, .ref r1, .ref r2, .int (nI m), .int dt, .ref r5, .ref r6, .int tp, .int sz, .int fk, .int fp, .int at1, .int en, .int tk, .int nu, .long nm, .ref r16, .ref r17, .ref r18, .ref r19, .ref r20, .ref r21, .ref r22, .ref r23, .int fl, .ref r25, .int wa, .ref r27, .ref r28, .ref r29, .ref r30, .ref r31, .int co, .ref r33, .ref r34, .ref r35, .ref r36, .ref r37, .ref r38, .ref r39, .ref r40, .int (nI c)])), (r31, .inl (g.2.1 0, 50, .inl wof)), (r33, .inl (g.2.1 0, 60, .inl byf)), (r34, .inl (g.2.1 0, 60, .inl tof)), (r35, .inl (g.2.1 0, 60, .inl gof)), (r36, .inl (g.2.1 0, 60, .inl myf)), (r37, .inl (g.2.1 0, 60, .inl dyf)), (r38, .inl (g.2.1 0, 60, .inl pdf)), (r39, .inl (g.2.1 0, 4096, .inl smf)), (r40, .inl (g.2.1 0, 4096, .inl grf))] P := by
  intro k
  induction k with
  | zero =>
    intro s smf hs hE
    have hp := pow12 (m := n) (by omega)
    refine g_iload C 5 rfl d_Mo_fewest_40 ?_
    refine g_iconst (v := 1) C rfl d_Mo_fewest_42 ?_
    refine g_iload_n C 2 rfl d_Mo_fewest_43 ?_
    refine g_ishl C d_Mo_fewest_44 ?_
    refine g_eq (st1 := [.int (nI (2 ^ n)), .int (nI s)]) (congrArg (fun z => Value.int z :: [.int (nI s)]) (shl_nI (by omega))) rfl ?_
    refine g_icmp_ge C d_Mo_fewest_45 (fun _ => ?_) (fun c_1 => absurd (nI_le (by omega) (by omega)) c_1)
    refine g_lv (lv1 := [(0, .ref h), (1, .int p0), (2, .int (nI n)), (3, .int (nI i)), (4, .int v)]) [0, 1, 2, 3, 4] rfl ?_
    exact hE
  | succ k ih =>
    intro s smf hs hE
    have hp := pow12 (m := n) (by omega)
    have hor : s ||| 2 ^ n < 2 ^ 12 := Nat.or_lt_two_pow (by omega) (Nat.pow_lt_pow_right (by decide) (by omega))
    refine g_iload C 5 rfl d_Mo_fewest_40 ?_
    refine g_iconst (v := 1) C rfl d_Mo_fewest_42 ?_
    refine g_iload_n C 2 rfl d_Mo_fewest_43 ?_
    refine g_ishl C d_Mo_fewest_44 ?_
    refine g_eq (st1 := [.int (nI (2 ^ n)), .int (nI s)]) (congrArg (fun z => Value.int z :: [.int (nI s)]) (shl_nI (by omega))) rfl ?_
    refine g_icmp_ge C d_Mo_fewest_45 (fun c_1 => absurd c_1 (nI_ge (by omega) (by omega))) (fun _ => ?_)
    refine g_aload_n C 0 rfl d_Mo_fewest_48 ?_
    refine g_get C 0 rfl rfl in_Mo 39 (by decide) kw_1059 rfl d_Mo_fewest_49 ?_
    refine g_iload C 5 rfl d_Mo_fewest_52 ?_
    refine g_iconst (v := 1) C rfl d_Mo_fewest_54 ?_
    refine g_iload_n C 2 rfl d_Mo_fewest_55 ?_
    refine g_ishl C d_Mo_fewest_56 ?_
    refine g_eq (st1 := [.int (nI (2 ^ n)), .int (nI s), .ref r39]) (congrArg (fun z => Value.int z :: [.int (nI s), .ref r39]) (shl_nI (by omega))) rfl ?_
    refine g_ior C d_Mo_fewest_57 ?_
    refine g_eq (st1 := [.int (nI (s ||| 2 ^ n)), .ref r39]) (congrArg (fun z => Value.int z :: [.ref r39]) (fa_or _ _)) rfl ?_
    refine g_iload C 5 rfl d_Mo_fewest_58 ?_
    refine g_if_ne C d_Mo_fewest_60 (fun c_2 => ?_) (fun c_2 => ?_)
    · skip
      have n_2 : ¬ (s = 0) := fun z => c_2 ((nI_eq (a := s) (b := 0) (by omega) (by omega)).mpr z)
      refine g_aload_n C 0 rfl d_Mo_fewest_67 ?_
      refine g_get C 0 rfl rfl in_Mo 39 (by decide) kw_1059 rfl d_Mo_fewest_68 ?_
      refine g_iload C 5 rfl d_Mo_fewest_71 ?_
      refine g_iald C 8 rfl (vp_in_nI (by omega) (by decide)) d_Mo_fewest_73 ?_
      refine g_eq (st1 := [.int (smf s), .int (nI (s ||| 2 ^ n)), .ref r39]) (congrArg (fun z => Value.int z :: [.int (nI (s ||| 2 ^ n)), .ref r39]) (congrArg smf (nI_clamp (by omega)))) rfl ?_
      refine g_iload C 4 rfl d_Mo_fewest_74 ?_
      refine g_iadd C d_Mo_fewest_76 ?_
      refine g_iast (X1 := [(h, .inr (13, [.ref r0, .ref r1, .ref r2, .int (nI m), .int dt, .ref r5, .ref r6, .int tp, .int sz, .int fk, .int fp, .int at1, .int en, .int tk, .int nu, .long nm, .ref r16, .ref r17, .ref r18, .ref r19, .ref r20, .ref r21, .ref r22, .ref r23, .int fl, .ref r25, .int wa, .ref r27, .ref r28, .ref r29, .ref r30, .ref r31, .int co, .ref r33, .ref r34, .ref r35, .ref r36, .ref r37, .ref r38, .ref r39, .ref r40, .int (nI c)])), (r31, .inl (g.2.1 0, 50, .inl wof)), (r33, .inl (g.2.1 0, 60, .inl byf)), (r34, .inl (g.2.1 0, 60, .inl tof)), (r35, .inl (g.2.1 0, 60, .inl gof)), (r36, .inl (g.2.1 0, 60, .inl myf)), (r37, .inl (g.2.1 0, 60, .inl dyf)), (r38, .inl (g.2.1 0, 60, .inl pdf)), (r39, .inl (g.2.1 0, 4096, .inl (upd smf (Int32.toNatClampNeg (nI (s ||| 2 ^ n))) ((smf s) + v)))), (r40, .inl (g.2.1 0, 4096, .inl grf))]) C 8 rfl (vp_in_nI (by omega) (by decide)) rfl d_Mo_fewest_77 ?_
      refine g_eq (X1 := [(h, .inr (13, [.ref r0, .ref r1, .ref r2, .int (nI m), .int dt, .ref r5, .ref r6, .int tp, .int sz, .int fk, .int fp, .int at1, .int en, .int tk, .int nu, .long nm, .ref r16, .ref r17, .ref r18, .ref r19, .ref r20, .ref r21, .ref r22, .ref r23, .int fl, .ref r25, .int wa, .ref r27, .ref r28, .ref r29, .ref r30, .ref r31, .int co, .ref r33, .ref r34, .ref r35, .ref r36, .ref r37, .ref r38, .ref r39, .ref r40, .int (nI c)])), (r31, .inl (g.2.1 0, 50, .inl wof)), (r33, .inl (g.2.1 0, 60, .inl byf)), (r34, .inl (g.2.1 0, 60, .inl tof)), (r35, .inl (g.2.1 0, 60, .inl gof)), (r36, .inl (g.2.1 0, 60, .inl myf)), (r37, .inl (g.2.1 0, 60, .inl dyf)), (r38, .inl (g.2.1 0, 60, .inl pdf)), (r39, .inl (g.2.1 0, 4096, .inl (upd smf (s ||| 2 ^ n) ((smf s) + v)))), (r40, .inl (g.2.1 0, 4096, .inl grf))]) rfl (by rw [nI_clamp (by omega)]) ?_
      refine g_iinc (v := nI (s + 1)) (lv1 := [(0, .ref h), (1, .int p0), (2, .int (nI n)), (3, .int (nI i)), (4, .int v), (5, .int (nI (s + 1)))]) C d_Mo_fewest_78 5 rfl (nI_1 _) [1, 2, 3, 4, 5, 0] (by decide) rfl ?_
      refine g_goto C d_Mo_fewest_81 ?_
      exact ih (s + 1) _ (by omega) (by simpa [smL, c_2, n_2] using hE)
    · skip
      have n_2 : s = 0 := (nI_eq (a := s) (b := 0) (by omega) (by omega)).mp c_2
      refine g_iconst (v := 0) C rfl d_Mo_fewest_63 ?_
      refine g_goto C d_Mo_fewest_64 ?_
      refine g_iload C 4 rfl d_Mo_fewest_74 ?_
      refine g_iadd C d_Mo_fewest_76 ?_
      refine g_iast (X1 := [(h, .inr (13, [.ref r0, .ref r1, .ref r2, .int (nI m), .int dt, .ref r5, .ref r6, .int tp, .int sz, .int fk, .int fp, .int at1, .int en, .int tk, .int nu, .long nm, .ref r16, .ref r17, .ref r18, .ref r19, .ref r20, .ref r21, .ref r22, .ref r23, .int fl, .ref r25, .int wa, .ref r27, .ref r28, .ref r29, .ref r30, .ref r31, .int co, .ref r33, .ref r34, .ref r35, .ref r36, .ref r37, .ref r38, .ref r39, .ref r40, .int (nI c)])), (r31, .inl (g.2.1 0, 50, .inl wof)), (r33, .inl (g.2.1 0, 60, .inl byf)), (r34, .inl (g.2.1 0, 60, .inl tof)), (r35, .inl (g.2.1 0, 60, .inl gof)), (r36, .inl (g.2.1 0, 60, .inl myf)), (r37, .inl (g.2.1 0, 60, .inl dyf)), (r38, .inl (g.2.1 0, 60, .inl pdf)), (r39, .inl (g.2.1 0, 4096, .inl (upd smf (Int32.toNatClampNeg (nI (s ||| 2 ^ n))) (0 + v)))), (r40, .inl (g.2.1 0, 4096, .inl grf))]) C 8 rfl (vp_in_nI (by omega) (by decide)) rfl d_Mo_fewest_77 ?_
      refine g_eq (X1 := [(h, .inr (13, [.ref r0, .ref r1, .ref r2, .int (nI m), .int dt, .ref r5, .ref r6, .int tp, .int sz, .int fk, .int fp, .int at1, .int en, .int tk, .int nu, .long nm, .ref r16, .ref r17, .ref r18, .ref r19, .ref r20, .ref r21, .ref r22, .ref r23, .int fl, .ref r25, .int wa, .ref r27, .ref r28, .ref r29, .ref r30, .ref r31, .int co, .ref r33, .ref r34, .ref r35, .ref r36, .ref r37, .ref r38, .ref r39, .ref r40, .int (nI c)])), (r31, .inl (g.2.1 0, 50, .inl wof)), (r33, .inl (g.2.1 0, 60, .inl byf)), (r34, .inl (g.2.1 0, 60, .inl tof)), (r35, .inl (g.2.1 0, 60, .inl gof)), (r36, .inl (g.2.1 0, 60, .inl myf)), (r37, .inl (g.2.1 0, 60, .inl dyf)), (r38, .inl (g.2.1 0, 60, .inl pdf)), (r39, .inl (g.2.1 0, 4096, .inl (upd smf (s ||| 2 ^ n) (0 + v)))), (r40, .inl (g.2.1 0, 4096, .inl grf))]) rfl (by rw [nI_clamp (by omega)]) ?_
      refine g_iinc (v := nI (s + 1)) (lv1 := [(0, .ref h), (1, .int p0), (2, .int (nI n)), (3, .int (nI i)), (4, .int v), (5, .int (nI (s + 1)))]) C d_Mo_fewest_78 5 rfl (nI_1 _) [1, 2, 3, 4, 5, 0] (by decide) rfl ?_
      refine g_goto C d_Mo_fewest_81 ?_
      exact ih (s + 1) _ (by omega) (by simpa [smL, eq_true c_2, eq_true n_2] using hE)

set_option maxHeartbeats 4000000 in
set_option maxRecDepth 100000 in
theorem lp_Mo_fewest1 (l : Launch) (g : Gx) {κ : Kx} {E : Ex} {P : va_W} (h r0 r1 r2 r5 r6 r16 r17 r18 r19 r20 r21 r22 r23 r25 r27 r28 r29 r30 r31 r33 r34 r35 r36 r37 r38 r39 r40 m c : Nat) (dt tp sz fk fp at1 en tk nu fl wa co : Int32) (nm : Int64) (wof byf tof gof myf dyf pdf : Nat → Int32) (p0 : Int32) (grf : Nat → Int32) (hm : m ≤ 12) (hc : c ≤ 60) (hd : dbtInM c gof dyf) (C : zC κ l g ({ frames := 1, cells := 0, slots := 0, locals := 25 }) b_Mo_fewest 6 "TombLaneModel" "fewest" (some FieldType.int) E) : ∀ (k : Nat) (i : Nat) (n : Nat) (smf : Nat → Int32), (i + k = m) → (n ≤ i) → (G κ 6 0 0 93 [(0, .ref h), (1, .int p0), (2, .int (nI ((smA (fun i => balO byf tof gof myf dyf pdf wof (nI i) p0 c 0 0) k i n smf).1)))] [] [(h, .inr (13, [.ref r0, .ref r1, .ref r2, .int (nI m), .int dt, .ref r5, .ref r6, .int tp, .int sz, .int fk, .int fp, .int at1, .int en, .int tk, .int nu, .long nm, .ref r16, .ref r17, .ref r18, .ref r19, .ref r20, .ref r21, .ref r22, .ref r23, .int fl, .ref r25, .int wa, .ref r27, .ref r28, .ref r29, .ref r30, .ref r31, .int co, .ref r33, .ref r34, .ref r35, .ref r36, .ref r37, .ref r38, .ref r39, .ref r40, .int (nI c)])), (r31, .inl (g.2.1 0, 50, .inl wof)), (r33, .inl (g.2.1 0, 60, .inl byf)), (r34, .inl (g.2.1 0, 60, .inl tof)), (r35, .inl (g.2.1 0, 60, .inl gof)), (r36, .inl (g.2.1 0, 60, .inl myf)), (r37, .inl (g.2.1 0, 60, .inl dyf)), (r38, .inl (g.2.1 0, 60, .inl pdf)), (r39, .inl (g.2.1 0, 4096, .inl ((smA (fun i => balO byf tof gof myf dyf pdf wof (nI i) p0 c 0 0) k i n smf).2))), (r40, .inl (g.2.1 0, 4096, .inl grf))] P) → G κ 6 0 0 13 [(0, .ref h), (1, .int p0), (2, .int (nI n)), (3, .int (nI i))] [] [(h, .inr (13, [.ref r0, .ref r1, .ref r2, .int (nI m), .int dt, .ref r5, .ref r6, .int tp, .int sz, .int fk, .int fp, .int at1, .int en, .int tk, .int nu, .long nm, .ref r16, .ref r17, .ref r18, .ref r19, .ref r20, .ref r21, .ref r22, .ref r23, .int fl, .ref r25, .int wa, .ref r27, .ref r28, .ref r29, .ref r30, .ref r31, .int co, .ref r33, .ref r34, .ref r35, .ref r36, .ref r37, .ref r38, .ref r39, .ref r40, .int (nI c)])), (r31, .inl (g.2.1 0, 50, .inl wof)), (r33, .inl (g.2.1 0, 60, .inl byf)), (r34, .inl (g.2.1 0, 60, .inl tof)), (r35, .inl (g.2.1 0, 60, .inl gof)), (r36, .inl (g.2.1 0, 60, .inl myf)), (r37, .inl (g.2.1 0, 60, .inl dyf)), (r38, .inl (g.2.1 0, 60, .inl pdf)), (r39, .inl (g.2.1 0, 4096, .inl smf)), (r40, .inl (g.2.1 0, 4096, .inl grf))] P := by
  intro k
  induction k with
  | zero =>
    intro i n smf hi hn hE
    refine g_iload_n C 3 rfl d_Mo_fewest_13 ?_
    refine g_aload_n C 0 rfl d_Mo_fewest_14 ?_
    refine g_get C 0 rfl rfl in_Mo 3 (by decide) kw_1023 rfl d_Mo_fewest_15 ?_
    refine g_icmp_ge C d_Mo_fewest_18 (fun _ => ?_) (fun c_1 => absurd (nI_le (by omega) (by omega)) c_1)
    refine g_lv (lv1 := [(0, .ref h), (1, .int p0), (2, .int (nI n))]) [0, 1, 2] rfl ?_
    exact hE
  | succ k ih =>
    intro i n smf hi hn hE
    refine g_iload_n C 3 rfl d_Mo_fewest_13 ?_
    refine g_aload_n C 0 rfl d_Mo_fewest_14 ?_
    refine g_get C 0 rfl rfl in_Mo 3 (by decide) kw_1023 rfl d_Mo_fewest_15 ?_
    refine g_icmp_ge C d_Mo_fewest_18 (fun c_1 => absurd c_1 (nI_ge (by omega) (by omega))) (fun _ => ?_)
    refine g_aload_n C 0 rfl d_Mo_fewest_21 ?_
    refine g_iload_n C 3 rfl d_Mo_fewest_22 ?_
    refine g_iload_n C 1 rfl d_Mo_fewest_23 ?_
    refine g_callV0 (rest := []) (Xn := [(h, .inr (13, [.ref r0, .ref r1, .ref r2, .int (nI m), .int dt, .ref r5, .ref r6, .int tp, .int sz, .int fk, .int fp, .int at1, .int en, .int tk, .int nu, .long nm, .ref r16, .ref r17, .ref r18, .ref r19, .ref r20, .ref r21, .ref r22, .ref r23, .int fl, .ref r25, .int wa, .ref r27, .ref r28, .ref r29, .ref r30, .ref r31, .int co, .ref r33, .ref r34, .ref r35, .ref r36, .ref r37, .ref r38, .ref r39, .ref r40, .int (nI c)])), (r31, .inl (g.2.1 0, 50, .inl wof)), (r33, .inl (g.2.1 0, 60, .inl byf)), (r34, .inl (g.2.1 0, 60, .inl tof)), (r35, .inl (g.2.1 0, 60, .inl gof)), (r36, .inl (g.2.1 0, 60, .inl myf)), (r37, .inl (g.2.1 0, 60, .inl dyf)), (r38, .inl (g.2.1 0, 60, .inl pdf)), (r39, .inl (g.2.1 0, 4096, .inl smf)), (r40, .inl (g.2.1 0, 4096, .inl grf))]) C (c_Mo_balanceOf l g h r0 r1 r2 r5 r6 r16 r17 r18 r19 r20 r21 r22 r23 r25 r27 r28 r29 r30 r31 r33 r34 r35 r36 r37 r38 r39 r40 c (nI m) dt tp sz fk fp at1 en tk nu fl wa co nm wof byf tof gof myf dyf pdf (nI i) p0 (by assumption) (by assumption)) [0, 1, 2, 3, 4, 5, 6, 7] [8, 9] [2, 3, 4, 5, 6, 7, 8, 9, 0, 1] rfl (by decide) (by decide) rfl mo_Mo_balanceOf mv_Mo_balanceOf kw_1178 (by decide) (rcX 0 rfl rfl) rfl (Nat.le_of_ble_eq_true rfl) ⟨Nat.le_of_ble_eq_true rfl, Nat.le_of_ble_eq_true rfl⟩ d_Mo_fewest_24 ?_
    refine g_istore (lv1 := [(0, .ref h), (1, .int p0), (2, .int (nI n)), (3, .int (nI i)), (4, .int (balO byf tof gof myf dyf pdf wof (nI i) p0 c 0 0))]) C d_Mo_fewest_27 [1, 2, 3, 4, 0] (by decide) rfl ?_
    refine g_iload C 4 rfl d_Mo_fewest_29 ?_
    refine g_if_ne C d_Mo_fewest_31 (fun c_2 => ?_) (fun c_2 => ?_)
    · skip
      refine g_iconst (v := 0) C rfl d_Mo_fewest_37 ?_
      refine g_istore (lv1 := [(0, .ref h), (1, .int p0), (2, .int (nI n)), (3, .int (nI i)), (4, .int (balO byf tof gof myf dyf pdf wof (nI i) p0 c 0 0)), (5, .int 0)]) C d_Mo_fewest_38 [1, 2, 3, 4, 5, 0] (by decide) rfl ?_
      refine lp_Mo_fewest2 l g h r0 r1 r2 r5 r6 r16 r17 r18 r19 r20 r21 r22 r23 r25 r27 r28 r29 r30 r31 r33 r34 r35 r36 r37 r38 r39 r40 m c dt tp sz fk fp at1 en tk nu fl wa co nm wof byf tof gof myf dyf pdf p0 grf n i (balO byf tof gof myf dyf pdf wof (nI i) p0 c 0 0) (by omega) C (2 ^ n) 0 smf (by omega) ?_
      refine g_iinc (v := nI (n + 1)) (lv1 := [(0, .ref h), (1, .int p0), (2, .int (nI (n + 1))), (3, .int (nI i)), (4, .int (balO byf tof gof myf dyf pdf wof (nI i) p0 c 0 0))]) C d_Mo_fewest_84 2 rfl (nI_1 _) [1, 2, 0, 3, 4] (by decide) rfl ?_
      refine g_iinc (v := nI (i + 1)) (lv1 := [(0, .ref h), (1, .int p0), (2, .int (nI (n + 1))), (3, .int (nI (i + 1))), (4, .int (balO byf tof gof myf dyf pdf wof (nI i) p0 c 0 0))]) C d_Mo_fewest_87 3 rfl (nI_1 _) [1, 2, 3, 0, 4] (by decide) rfl ?_
      refine g_goto C d_Mo_fewest_90 ?_
      refine g_lv (lv1 := [(0, .ref h), (1, .int p0), (2, .int (nI (n + 1))), (3, .int (nI (i + 1)))]) [0, 1, 2, 3] rfl ?_
      exact ih (i + 1) _ _ (by omega) (by omega) (by simpa [smA, c_2] using hE)
    · skip
      refine g_goto C d_Mo_fewest_34 ?_
      refine g_iinc (v := nI (i + 1)) (lv1 := [(0, .ref h), (1, .int p0), (2, .int (nI n)), (3, .int (nI (i + 1))), (4, .int (balO byf tof gof myf dyf pdf wof (nI i) p0 c 0 0))]) C d_Mo_fewest_87 3 rfl (nI_1 _) [1, 2, 3, 0, 4] (by decide) rfl ?_
      refine g_goto C d_Mo_fewest_90 ?_
      refine g_lv (lv1 := [(0, .ref h), (1, .int p0), (2, .int (nI n)), (3, .int (nI (i + 1)))]) [0, 1, 2, 3] rfl ?_
      exact ih (i + 1) _ _ (by omega) (by omega) (by simpa [smA, eq_true c_2] using hE)

set_option maxHeartbeats 4000000 in
set_option maxRecDepth 100000 in
theorem lp_Mo_fewest4 (l : Launch) (g : Gx) {κ : Kx} {E : Ex} {P : va_W} (h r0 r1 r2 r5 r6 r16 r17 r18 r19 r20 r21 r22 r23 r25 r27 r28 r29 r30 r31 r33 r34 r35 r36 r37 r38 r39 r40 m c : Nat) (dt tp sz fk fp at1 en tk nu fl wa co : Int32) (nm : Int64) (wof byf tof gof myf dyf pdf : Nat → Int32) (p0 : Int32) (smf grf : Nat → Int32) (n s : Nat) (hn : n ≤ 12) (hs : s < 4096) (C : zC κ l g ({ frames := 1, cells := 0, slots := 0, locals := 25 }) b_Mo_fewest 6 "TombLaneModel" "fewest" (some FieldType.int) E) : ∀ (k : Nat) (i : Nat) (b : Int32), (i + k = n) → (G κ 6 0 0 166 [(0, .ref h), (1, .int p0), (2, .int (nI n)), (3, .int (nI s)), (4, .int (gbL grf s k i b))] [] [(h, .inr (13, [.ref r0, .ref r1, .ref r2, .int (nI m), .int dt, .ref r5, .ref r6, .int tp, .int sz, .int fk, .int fp, .int at1, .int en, .int tk, .int nu, .long nm, .ref r16, .ref r17, .ref r18, .ref r19, .ref r20, .ref r21, .ref r22, .ref r23, .int fl, .ref r25, .int wa, .ref r27, .ref r28, .ref r29, .ref r30, .ref r31, .int co, .ref r33, .ref r34, .ref r35, .ref r36, .ref r37, .ref r38, .ref r39, .ref r40, .int (nI c)])), (r31, .inl (g.2.1 0, 50, .inl wof)), (r33, .inl (g.2.1 0, 60, .inl byf)), (r34, .inl (g.2.1 0, 60, .inl tof)), (r35, .inl (g.2.1 0, 60, .inl gof)), (r36, .inl (g.2.1 0, 60, .inl myf)), (r37, .inl (g.2.1 0, 60, .inl dyf)), (r38, .inl (g.2.1 0, 60, .inl pdf)), (r39, .inl (g.2.1 0, 4096, .inl smf)), (r40, .inl (g.2.1 0, 4096, .inl grf))] P) → G κ 6 0 0 115 [(0, .ref h), (1, .int p0), (2, .int (nI n)), (3, .int (nI s)), (4, .int b), (5, .int (nI i))] [] [(h, .inr (13, [.ref r0, .ref r1, .ref r2, .int (nI m), .int dt, .ref r5, .ref r6, .int tp, .int sz, .int fk, .int fp, .int at1, .int en, .int tk, .int nu, .long nm, .ref r16, .ref r17, .ref r18, .ref r19, .ref r20, .ref r21, .ref r22, .ref r23, .int fl, .ref r25, .int wa, .ref r27, .ref r28, .ref r29, .ref r30, .ref r31, .int co, .ref r33, .ref r34, .ref r35, .ref r36, .ref r37, .ref r38, .ref r39, .ref r40, .int (nI c)])), (r31, .inl (g.2.1 0, 50, .inl wof)), (r33, .inl (g.2.1 0, 60, .inl byf)), (r34, .inl (g.2.1 0, 60, .inl tof)), (r35, .inl (g.2.1 0, 60, .inl gof)), (r36, .inl (g.2.1 0, 60, .inl myf)), (r37, .inl (g.2.1 0, 60, .inl dyf)), (r38, .inl (g.2.1 0, 60, .inl pdf)), (r39, .inl (g.2.1 0, 4096, .inl smf)), (r40, .inl (g.2.1 0, 4096, .inl grf))] P := by
  intro k
  induction k with
  | zero =>
    intro i b hi hE
    refine g_iload C 5 rfl d_Mo_fewest_115 ?_
    refine g_iload_n C 2 rfl d_Mo_fewest_117 ?_
    refine g_icmp_ge C d_Mo_fewest_118 (fun _ => ?_) (fun c_1 => absurd (nI_le (by omega) (by omega)) c_1)
    refine g_lv (lv1 := [(0, .ref h), (1, .int p0), (2, .int (nI n)), (3, .int (nI s)), (4, .int b)]) [0, 1, 2, 3, 4] rfl ?_
    exact hE
  | succ k ih =>
    intro i b hi hE
    have hxo : s ^^^ 2 ^ i < 2 ^ 12 := Nat.xor_lt_two_pow hs (Nat.pow_lt_pow_right (by decide) (by omega))
    refine g_iload C 5 rfl d_Mo_fewest_115 ?_
    refine g_iload_n C 2 rfl d_Mo_fewest_117 ?_
    refine g_icmp_ge C d_Mo_fewest_118 (fun c_1 => absurd c_1 (nI_ge (by omega) (by omega))) (fun _ => ?_)
    refine g_iload_n C 3 rfl d_Mo_fewest_121 ?_
    refine g_iload C 5 rfl d_Mo_fewest_122 ?_
    refine g_ishr C d_Mo_fewest_124 ?_
    refine g_iconst (v := 1) C rfl d_Mo_fewest_125 ?_
    refine g_iand C d_Mo_fewest_126 ?_
    refine g_eq (st1 := [.int (nI (s / 2 ^ i % 2))]) (congrArg (fun z => Value.int z :: []) (shr_bit hs (by omega))) rfl ?_
    refine g_iconst (v := 1) C rfl d_Mo_fewest_127 ?_
    refine g_icmp_ne C d_Mo_fewest_128 (fun c_2 => ?_) (fun c_2 => ?_)
    · skip
      have n_2 : ¬ (s / 2 ^ i % 2 = 1) := fun z => c_2 ((nI_eq (a := (s / 2 ^ i % 2)) (b := 1) (by omega) (by omega)).mpr z)
      refine g_iinc (v := nI (i + 1)) (lv1 := [(0, .ref h), (1, .int p0), (2, .int (nI n)), (3, .int (nI s)), (4, .int b), (5, .int (nI (i + 1)))]) C d_Mo_fewest_160 5 rfl (nI_1 _) [1, 2, 3, 4, 5, 0] (by decide) rfl ?_
      refine g_goto C d_Mo_fewest_163 ?_
      exact ih (i + 1) _ (by omega) (by simpa [gbL, c_2, n_2] using hE)
    · skip
      have n_2 : s / 2 ^ i % 2 = 1 := (nI_eq (a := (s / 2 ^ i % 2)) (b := 1) (by omega) (by omega)).mp c_2
      refine g_aload_n C 0 rfl d_Mo_fewest_131 ?_
      refine g_get C 0 rfl rfl in_Mo 40 (by decide) kw_1060 rfl d_Mo_fewest_132 ?_
      refine g_iload_n C 3 rfl d_Mo_fewest_135 ?_
      refine g_iconst (v := 1) C rfl d_Mo_fewest_136 ?_
      refine g_iload C 5 rfl d_Mo_fewest_137 ?_
      refine g_ishl C d_Mo_fewest_139 ?_
      refine g_eq (st1 := [.int (nI (2 ^ i)), .int (nI s), .ref r40]) (congrArg (fun z => Value.int z :: [.int (nI s), .ref r40]) (shl_nI (by omega))) rfl ?_
      refine g_ixor C d_Mo_fewest_140 ?_
      refine g_eq (st1 := [.int (nI (s ^^^ 2 ^ i)), .ref r40]) (congrArg (fun z => Value.int z :: [.ref r40]) (fb_xorI _ _)) rfl ?_
      refine g_iald C 9 rfl (vp_in_nI (by omega) (by decide)) d_Mo_fewest_141 ?_
      refine g_eq (st1 := [.int (grf (s ^^^ 2 ^ i))]) (congrArg (fun z => Value.int z :: []) (congrArg grf (nI_clamp (by omega)))) rfl ?_
      refine g_iload C 4 rfl d_Mo_fewest_142 ?_
      refine g_icmp_le C d_Mo_fewest_144 (fun c_3 => ?_) (fun c_3 => ?_)
      · skip
        refine g_iinc (v := nI (i + 1)) (lv1 := [(0, .ref h), (1, .int p0), (2, .int (nI n)), (3, .int (nI s)), (4, .int b), (5, .int (nI (i + 1)))]) C d_Mo_fewest_160 5 rfl (nI_1 _) [1, 2, 3, 4, 5, 0] (by decide) rfl ?_
        refine g_goto C d_Mo_fewest_163 ?_
        exact ih (i + 1) _ (by omega) (by simpa [gbL, eq_true c_2, eq_true n_2, c_3, Int32.not_lt.mpr c_3] using hE)
      · skip
        refine g_aload_n C 0 rfl d_Mo_fewest_147 ?_
        refine g_get C 0 rfl rfl in_Mo 40 (by decide) kw_1060 rfl d_Mo_fewest_148 ?_
        refine g_iload_n C 3 rfl d_Mo_fewest_151 ?_
        refine g_iconst (v := 1) C rfl d_Mo_fewest_152 ?_
        refine g_iload C 5 rfl d_Mo_fewest_153 ?_
        refine g_ishl C d_Mo_fewest_155 ?_
        refine g_eq (st1 := [.int (nI (2 ^ i)), .int (nI s), .ref r40]) (congrArg (fun z => Value.int z :: [.int (nI s), .ref r40]) (shl_nI (by omega))) rfl ?_
        refine g_ixor C d_Mo_fewest_156 ?_
        refine g_eq (st1 := [.int (nI (s ^^^ 2 ^ i)), .ref r40]) (congrArg (fun z => Value.int z :: [.ref r40]) (fb_xorI _ _)) rfl ?_
        refine g_iald C 9 rfl (vp_in_nI (by omega) (by decide)) d_Mo_fewest_157 ?_
        refine g_eq (st1 := [.int (grf (s ^^^ 2 ^ i))]) (congrArg (fun z => Value.int z :: []) (congrArg grf (nI_clamp (by omega)))) rfl ?_
        refine g_istore (lv1 := [(0, .ref h), (1, .int p0), (2, .int (nI n)), (3, .int (nI s)), (4, .int (grf (s ^^^ 2 ^ i))), (5, .int (nI i))]) C d_Mo_fewest_158 [1, 2, 3, 4, 0, 5] (by decide) rfl ?_
        refine g_iinc (v := nI (i + 1)) (lv1 := [(0, .ref h), (1, .int p0), (2, .int (nI n)), (3, .int (nI s)), (4, .int (grf (s ^^^ 2 ^ i))), (5, .int (nI (i + 1)))]) C d_Mo_fewest_160 5 rfl (nI_1 _) [1, 2, 3, 4, 5, 0] (by decide) rfl ?_
        refine g_goto C d_Mo_fewest_163 ?_
        exact ih (i + 1) _ (by omega) (by simpa [gbL, eq_true c_2, eq_true n_2, c_3, Int32.not_le.mp c_3] using hE)

set_option maxHeartbeats 4000000 in
set_option maxRecDepth 100000 in
theorem lp_Mo_fewest3 (l : Launch) (g : Gx) {κ : Kx} {E : Ex} {P : va_W} (h r0 r1 r2 r5 r6 r16 r17 r18 r19 r20 r21 r22 r23 r25 r27 r28 r29 r30 r31 r33 r34 r35 r36 r37 r38 r39 r40 m c : Nat) (dt tp sz fk fp at1 en tk nu fl wa co : Int32) (nm : Int64) (wof byf tof gof myf dyf pdf : Nat → Int32) (p0 : Int32) (smf : Nat → Int32) (n : Nat) (hn : n ≤ 12) (C : zC κ l g ({ frames := 1, cells := 0, slots := 0, locals := 25 }) b_Mo_fewest 6 "TombLaneModel" "fewest" (some FieldType.int) E) : ∀ (k : Nat) (s : Nat) (grf : Nat → Int32), (s + k = 2 ^ n) → (E (some (.int (nI n - grL smf n k s grf (2 ^ n - 1)))) [(h, .inr (13, [.ref r0, .ref r1, .ref r2, .int (nI m), .int dt, .ref r5, .ref r6, .int tp, .int sz, .int fk, .int fp, .int at1, .int en, .int tk, .int nu, .long nm, .ref r16, .ref r17, .ref r18, .ref r19, .ref r20, .ref r21, .ref r22, .ref r23, .int fl, .ref r25, .int wa, .ref r27, .ref r28, .ref r29, .ref r30, .ref r31, .int co, .ref r33, .ref r34, .ref r35, .ref r36, .ref r37, .ref r38, .ref r39, .ref r40, .int (nI c)])), (r31, .inl (g.2.1 0, 50, .inl wof)), (r33, .inl (g.2.1 0, 60, .inl byf)), (r34, .inl (g.2.1 0, 60, .inl tof)), (r35, .inl (g.2.1 0, 60, .inl gof)), (r36, .inl (g.2.1 0, 60, .inl myf)), (r37, .inl (g.2.1 0, 60, .inl dyf)), (r38, .inl (g.2.1 0, 60, .inl pdf)), (r39, .inl (g.2.1 0, 4096, .inl smf)), (r40, .inl (g.2.1 0, 4096, .inl (grL smf n k s grf)))] P) → G κ 6 0 0 102 [(0, .ref h), (1, .int p0), (2, .int (nI n)), (3, .int (nI s))] [] [(h, .inr (13, [.ref r0, .ref r1, .ref r2, .int (nI m), .int dt, .ref r5, .ref r6, .int tp, .int sz, .int fk, .int fp, .int at1, .int en, .int tk, .int nu, .long nm, .ref r16, .ref r17, .ref r18, .ref r19, .ref r20, .ref r21, .ref r22, .ref r23, .int fl, .ref r25, .int wa, .ref r27, .ref r28, .ref r29, .ref r30, .ref r31, .int co, .ref r33, .ref r34, .ref r35, .ref r36, .ref r37, .ref r38, .ref r39, .ref r40, .int (nI c)])), (r31, .inl (g.2.1 0, 50, .inl wof)), (r33, .inl (g.2.1 0, 60, .inl byf)), (r34, .inl (g.2.1 0, 60, .inl tof)), (r35, .inl (g.2.1 0, 60, .inl gof)), (r36, .inl (g.2.1 0, 60, .inl myf)), (r37, .inl (g.2.1 0, 60, .inl dyf)), (r38, .inl (g.2.1 0, 60, .inl pdf)), (r39, .inl (g.2.1 0, 4096, .inl smf)), (r40, .inl (g.2.1 0, 4096, .inl grf))] P := by
  intro k
  induction k with
  | zero =>
    intro s grf hs hE
    have hp := pow12 (m := n) (by omega)
    have hp1 : 1 ≤ 2 ^ n := Nat.one_le_two_pow
    refine g_iload_n C 3 rfl d_Mo_fewest_102 ?_
    refine g_iconst (v := 1) C rfl d_Mo_fewest_103 ?_
    refine g_iload_n C 2 rfl d_Mo_fewest_104 ?_
    refine g_ishl C d_Mo_fewest_105 ?_
    refine g_eq (st1 := [.int (nI (2 ^ n)), .int (nI s)]) (congrArg (fun z => Value.int z :: [.int (nI s)]) (shl_nI (by omega))) rfl ?_
    refine g_icmp_ge C d_Mo_fewest_106 (fun _ => ?_) (fun c_1 => absurd (nI_le (by omega) (by omega)) c_1)
    refine g_iload_n C 2 rfl d_Mo_fewest_195 ?_
    refine g_aload_n C 0 rfl d_Mo_fewest_196 ?_
    refine g_get C 0 rfl rfl in_Mo 40 (by decide) kw_1060 rfl d_Mo_fewest_197 ?_
    refine g_iconst (v := 1) C rfl d_Mo_fewest_200 ?_
    refine g_iload_n C 2 rfl d_Mo_fewest_201 ?_
    refine g_ishl C d_Mo_fewest_202 ?_
    refine g_eq (st1 := [.int (nI (2 ^ n)), .ref r40, .int (nI n)]) (congrArg (fun z => Value.int z :: [.ref r40, .int (nI n)]) (shl_nI (by omega))) rfl ?_
    refine g_iconst (v := 1) C rfl d_Mo_fewest_203 ?_
    refine g_isub C d_Mo_fewest_204 ?_
    refine g_eq (st1 := [.int (nI (2 ^ n - 1)), .ref r40, .int (nI n)]) (congrArg (fun z => Value.int z :: [.ref r40, .int (nI n)]) (pk_sub (b := 1) (by omega))) rfl ?_
    refine g_iald C 9 rfl (vp_in_nI (by omega) (by decide)) d_Mo_fewest_205 ?_
    refine g_eq (st1 := [.int (grf (2 ^ n - 1)), .int (nI n)]) (congrArg (fun z => Value.int z :: [.int (nI n)]) (congrArg grf (nI_clamp (by omega)))) rfl ?_
    refine g_isub C d_Mo_fewest_206 ?_
    exact g_iret C rfl hE (by decide) (by decide) d_Mo_fewest_207
  | succ k ih =>
    intro s grf hs hE
    have hp := pow12 (m := n) (by omega)
    have hp1 : 1 ≤ 2 ^ n := Nat.one_le_two_pow
    refine g_iload_n C 3 rfl d_Mo_fewest_102 ?_
    refine g_iconst (v := 1) C rfl d_Mo_fewest_103 ?_
    refine g_iload_n C 2 rfl d_Mo_fewest_104 ?_
    refine g_ishl C d_Mo_fewest_105 ?_
    refine g_eq (st1 := [.int (nI (2 ^ n)), .int (nI s)]) (congrArg (fun z => Value.int z :: [.int (nI s)]) (shl_nI (by omega))) rfl ?_
    refine g_icmp_ge C d_Mo_fewest_106 (fun c_1 => absurd c_1 (nI_ge (by omega) (by omega))) (fun _ => ?_)
    refine g_iconst (v := 0) C rfl d_Mo_fewest_109 ?_
    refine g_istore (lv1 := [(0, .ref h), (1, .int p0), (2, .int (nI n)), (3, .int (nI s)), (4, .int 0)]) C d_Mo_fewest_110 [1, 2, 3, 4, 0] (by decide) rfl ?_
    refine g_iconst (v := 0) C rfl d_Mo_fewest_112 ?_
    refine g_istore (lv1 := [(0, .ref h), (1, .int p0), (2, .int (nI n)), (3, .int (nI s)), (4, .int 0), (5, .int 0)]) C d_Mo_fewest_113 [1, 2, 3, 4, 5, 0] (by decide) rfl ?_
    refine lp_Mo_fewest4 l g h r0 r1 r2 r5 r6 r16 r17 r18 r19 r20 r21 r22 r23 r25 r27 r28 r29 r30 r31 r33 r34 r35 r36 r37 r38 r39 r40 m c dt tp sz fk fp at1 en tk nu fl wa co nm wof byf tof gof myf dyf pdf p0 smf grf n s hn (by omega) C n 0 0 (by omega) ?_
    refine g_aload_n C 0 rfl d_Mo_fewest_166 ?_
    refine g_get C 0 rfl rfl in_Mo 40 (by decide) kw_1060 rfl d_Mo_fewest_167 ?_
    refine g_iload_n C 3 rfl d_Mo_fewest_170 ?_
    refine g_iload C 4 rfl d_Mo_fewest_171 ?_
    refine g_aload_n C 0 rfl d_Mo_fewest_173 ?_
    refine g_get C 0 rfl rfl in_Mo 39 (by decide) kw_1059 rfl d_Mo_fewest_174 ?_
    refine g_iload_n C 3 rfl d_Mo_fewest_177 ?_
    refine g_iald C 8 rfl (vp_in_nI (by omega) (by decide)) d_Mo_fewest_178 ?_
    refine g_eq (st1 := [.int (smf s), .int (gbL grf s n 0 0), .int (nI s), .ref r40]) (congrArg (fun z => Value.int z :: [.int (gbL grf s n 0 0), .int (nI s), .ref r40]) (congrArg smf (nI_clamp (by omega)))) rfl ?_
    refine g_if_ne C d_Mo_fewest_179 (fun c_2 => ?_) (fun c_2 => ?_)
    · skip
      refine g_iconst (v := 0) C rfl d_Mo_fewest_186 ?_
      refine g_iadd C d_Mo_fewest_187 ?_
      refine g_iast (X1 := [(h, .inr (13, [.ref r0, .ref r1, .ref r2, .int (nI m), .int dt, .ref r5, .ref r6, .int tp, .int sz, .int fk, .int fp, .int at1, .int en, .int tk, .int nu, .long nm, .ref r16, .ref r17, .ref r18, .ref r19, .ref r20, .ref r21, .ref r22, .ref r23, .int fl, .ref r25, .int wa, .ref r27, .ref r28, .ref r29, .ref r30, .ref r31, .int co, .ref r33, .ref r34, .ref r35, .ref r36, .ref r37, .ref r38, .ref r39, .ref r40, .int (nI c)])), (r31, .inl (g.2.1 0, 50, .inl wof)), (r33, .inl (g.2.1 0, 60, .inl byf)), (r34, .inl (g.2.1 0, 60, .inl tof)), (r35, .inl (g.2.1 0, 60, .inl gof)), (r36, .inl (g.2.1 0, 60, .inl myf)), (r37, .inl (g.2.1 0, 60, .inl dyf)), (r38, .inl (g.2.1 0, 60, .inl pdf)), (r39, .inl (g.2.1 0, 4096, .inl smf)), (r40, .inl (g.2.1 0, 4096, .inl (upd grf (Int32.toNatClampNeg (nI s)) ((gbL grf s n 0 0) + 0))))]) C 9 rfl (vp_in_nI (by omega) (by decide)) rfl d_Mo_fewest_188 ?_
      refine g_eq (X1 := [(h, .inr (13, [.ref r0, .ref r1, .ref r2, .int (nI m), .int dt, .ref r5, .ref r6, .int tp, .int sz, .int fk, .int fp, .int at1, .int en, .int tk, .int nu, .long nm, .ref r16, .ref r17, .ref r18, .ref r19, .ref r20, .ref r21, .ref r22, .ref r23, .int fl, .ref r25, .int wa, .ref r27, .ref r28, .ref r29, .ref r30, .ref r31, .int co, .ref r33, .ref r34, .ref r35, .ref r36, .ref r37, .ref r38, .ref r39, .ref r40, .int (nI c)])), (r31, .inl (g.2.1 0, 50, .inl wof)), (r33, .inl (g.2.1 0, 60, .inl byf)), (r34, .inl (g.2.1 0, 60, .inl tof)), (r35, .inl (g.2.1 0, 60, .inl gof)), (r36, .inl (g.2.1 0, 60, .inl myf)), (r37, .inl (g.2.1 0, 60, .inl dyf)), (r38, .inl (g.2.1 0, 60, .inl pdf)), (r39, .inl (g.2.1 0, 4096, .inl smf)), (r40, .inl (g.2.1 0, 4096, .inl (upd grf s ((gbL grf s n 0 0) + 0))))]) rfl (by rw [nI_clamp (by omega)]) ?_
      refine g_iinc (v := nI (s + 1)) (lv1 := [(0, .ref h), (1, .int p0), (2, .int (nI n)), (3, .int (nI (s + 1))), (4, .int (gbL grf s n 0 0))]) C d_Mo_fewest_189 3 rfl (nI_1 _) [1, 2, 3, 0, 4] (by decide) rfl ?_
      refine g_goto C d_Mo_fewest_192 ?_
      refine g_lv (lv1 := [(0, .ref h), (1, .int p0), (2, .int (nI n)), (3, .int (nI (s + 1)))]) [0, 1, 2, 3] rfl ?_
      exact ih (s + 1) _ (by omega) (by simpa [grL, c_2] using hE)
    · skip
      refine g_iconst (v := 1) C rfl d_Mo_fewest_182 ?_
      refine g_goto C d_Mo_fewest_183 ?_
      refine g_iadd C d_Mo_fewest_187 ?_
      refine g_iast (X1 := [(h, .inr (13, [.ref r0, .ref r1, .ref r2, .int (nI m), .int dt, .ref r5, .ref r6, .int tp, .int sz, .int fk, .int fp, .int at1, .int en, .int tk, .int nu, .long nm, .ref r16, .ref r17, .ref r18, .ref r19, .ref r20, .ref r21, .ref r22, .ref r23, .int fl, .ref r25, .int wa, .ref r27, .ref r28, .ref r29, .ref r30, .ref r31, .int co, .ref r33, .ref r34, .ref r35, .ref r36, .ref r37, .ref r38, .ref r39, .ref r40, .int (nI c)])), (r31, .inl (g.2.1 0, 50, .inl wof)), (r33, .inl (g.2.1 0, 60, .inl byf)), (r34, .inl (g.2.1 0, 60, .inl tof)), (r35, .inl (g.2.1 0, 60, .inl gof)), (r36, .inl (g.2.1 0, 60, .inl myf)), (r37, .inl (g.2.1 0, 60, .inl dyf)), (r38, .inl (g.2.1 0, 60, .inl pdf)), (r39, .inl (g.2.1 0, 4096, .inl smf)), (r40, .inl (g.2.1 0, 4096, .inl (upd grf (Int32.toNatClampNeg (nI s)) ((gbL grf s n 0 0) + 1))))]) C 9 rfl (vp_in_nI (by omega) (by decide)) rfl d_Mo_fewest_188 ?_
      refine g_eq (X1 := [(h, .inr (13, [.ref r0, .ref r1, .ref r2, .int (nI m), .int dt, .ref r5, .ref r6, .int tp, .int sz, .int fk, .int fp, .int at1, .int en, .int tk, .int nu, .long nm, .ref r16, .ref r17, .ref r18, .ref r19, .ref r20, .ref r21, .ref r22, .ref r23, .int fl, .ref r25, .int wa, .ref r27, .ref r28, .ref r29, .ref r30, .ref r31, .int co, .ref r33, .ref r34, .ref r35, .ref r36, .ref r37, .ref r38, .ref r39, .ref r40, .int (nI c)])), (r31, .inl (g.2.1 0, 50, .inl wof)), (r33, .inl (g.2.1 0, 60, .inl byf)), (r34, .inl (g.2.1 0, 60, .inl tof)), (r35, .inl (g.2.1 0, 60, .inl gof)), (r36, .inl (g.2.1 0, 60, .inl myf)), (r37, .inl (g.2.1 0, 60, .inl dyf)), (r38, .inl (g.2.1 0, 60, .inl pdf)), (r39, .inl (g.2.1 0, 4096, .inl smf)), (r40, .inl (g.2.1 0, 4096, .inl (upd grf s ((gbL grf s n 0 0) + 1))))]) rfl (by rw [nI_clamp (by omega)]) ?_
      refine g_iinc (v := nI (s + 1)) (lv1 := [(0, .ref h), (1, .int p0), (2, .int (nI n)), (3, .int (nI (s + 1))), (4, .int (gbL grf s n 0 0))]) C d_Mo_fewest_189 3 rfl (nI_1 _) [1, 2, 3, 0, 4] (by decide) rfl ?_
      refine g_goto C d_Mo_fewest_192 ?_
      refine g_lv (lv1 := [(0, .ref h), (1, .int p0), (2, .int (nI n)), (3, .int (nI (s + 1)))]) [0, 1, 2, 3] rfl ?_
      exact ih (s + 1) _ (by omega) (by simpa [grL, eq_true c_2] using hE)

set_option maxHeartbeats 4000000 in
set_option maxRecDepth 100000 in
theorem c_Mo_fewest (l : Launch) (g : Gx) (h r0 r1 r2 r5 r6 r16 r17 r18 r19 r20 r21 r22 r23 r25 r27 r28 r29 r30 r31 r33 r34 r35 r36 r37 r38 r39 r40 m c : Nat) (dt tp sz fk fp at1 en tk nu fl wa co : Int32) (nm : Int64) (wof byf tof gof myf dyf pdf smf grf : Nat → Int32) (p0 : Int32) (hm : m ≤ 12) (hc : c ≤ 60) (hd : dbtInM c gof dyf) : M0 l g y_Mo_fewest b_Mo_fewest 6 (some FieldType.int) ({ frames := 1, cells := 0, slots := 0, locals := 25 }) [.ref h, .int p0] [(h, .inr (13, [.ref r0, .ref r1, .ref r2, .int (nI m), .int dt, .ref r5, .ref r6, .int tp, .int sz, .int fk, .int fp, .int at1, .int en, .int tk, .int nu, .long nm, .ref r16, .ref r17, .ref r18, .ref r19, .ref r20, .ref r21, .ref r22, .ref r23, .int fl, .ref r25, .int wa, .ref r27, .ref r28, .ref r29, .ref r30, .ref r31, .int co, .ref r33, .ref r34, .ref r35, .ref r36, .ref r37, .ref r38, .ref r39, .ref r40, .int (nI c)])), (r31, .inl (g.2.1 0, 50, .inl wof)), (r33, .inl (g.2.1 0, 60, .inl byf)), (r34, .inl (g.2.1 0, 60, .inl tof)), (r35, .inl (g.2.1 0, 60, .inl gof)), (r36, .inl (g.2.1 0, 60, .inl myf)), (r37, .inl (g.2.1 0, 60, .inl dyf)), (r38, .inl (g.2.1 0, 60, .inl pdf)), (r39, .inl (g.2.1 0, 4096, .inl smf)), (r40, .inl (g.2.1 0, 4096, .inl grf))] (some (.int (if inB p0 3600 then nI (smA (fun i => balO byf tof gof myf dyf pdf wof (nI i) p0 c 0 0) m 0 0 smf).1 - grL (smA (fun i => balO byf tof gof myf dyf pdf wof (nI i) p0 c 0 0) m 0 0 smf).2 (smA (fun i => balO byf tof gof myf dyf pdf wof (nI i) p0 c 0 0) m 0 0 smf).1 (2 ^ (smA (fun i => balO byf tof gof myf dyf pdf wof (nI i) p0 c 0 0) m 0 0 smf).1 - 1) 1 (upd grf 0 0) (2 ^ (smA (fun i => balO byf tof gof myf dyf pdf wof (nI i) p0 c 0 0) m 0 0 smf).1 - 1) else (-1)))) [(h, .inr (13, [.ref r0, .ref r1, .ref r2, .int (nI m), .int dt, .ref r5, .ref r6, .int tp, .int sz, .int fk, .int fp, .int at1, .int en, .int tk, .int nu, .long nm, .ref r16, .ref r17, .ref r18, .ref r19, .ref r20, .ref r21, .ref r22, .ref r23, .int fl, .ref r25, .int wa, .ref r27, .ref r28, .ref r29, .ref r30, .ref r31, .int co, .ref r33, .ref r34, .ref r35, .ref r36, .ref r37, .ref r38, .ref r39, .ref r40, .int (nI c)])), (r31, .inl (g.2.1 0, 50, .inl wof)), (r33, .inl (g.2.1 0, 60, .inl byf)), (r34, .inl (g.2.1 0, 60, .inl tof)), (r35, .inl (g.2.1 0, 60, .inl gof)), (r36, .inl (g.2.1 0, 60, .inl myf)), (r37, .inl (g.2.1 0, 60, .inl dyf)), (r38, .inl (g.2.1 0, 60, .inl pdf)), (r39, .inl (g.2.1 0, 4096, .inl (if inB p0 3600 then (smA (fun i => balO byf tof gof myf dyf pdf wof (nI i) p0 c 0 0) m 0 0 smf).2 else smf))), (r40, .inl (g.2.1 0, 4096, .inl (if inB p0 3600 then grL (smA (fun i => balO byf tof gof myf dyf pdf wof (nI i) p0 c 0 0) m 0 0 smf).2 (smA (fun i => balO byf tof gof myf dyf pdf wof (nI i) p0 c 0 0) m 0 0 smf).1 (2 ^ (smA (fun i => balO byf tof gof myf dyf pdf wof (nI i) p0 c 0 0) m 0 0 smf).1 - 1) 1 (upd grf 0 0) else grf)))] := by
  refine MP.of (by decide) (Nat.le_of_ble_eq_true rfl) (fun κ C => ?_)
  have C : zC κ l g ({ frames := 1, cells := 0, slots := 0, locals := 25 }) b_Mo_fewest 6 "TombLaneModel" "fewest" (some FieldType.int) _ := C
  refine g_lv (lv1 := [(0, .ref h), (1, .int p0)]) [0, 1] rfl ?_
  refine g_iload_n C 1 rfl d_Mo_fewest_0 ?_
  refine g_callS0 (rest := []) (Xn := [(h, .inr (13, [.ref r0, .ref r1, .ref r2, .int (nI m), .int dt, .ref r5, .ref r6, .int tp, .int sz, .int fk, .int fp, .int at1, .int en, .int tk, .int nu, .long nm, .ref r16, .ref r17, .ref r18, .ref r19, .ref r20, .ref r21, .ref r22, .ref r23, .int fl, .ref r25, .int wa, .ref r27, .ref r28, .ref r29, .ref r30, .ref r31, .int co, .ref r33, .ref r34, .ref r35, .ref r36, .ref r37, .ref r38, .ref r39, .ref r40, .int (nI c)])), (r31, .inl (g.2.1 0, 50, .inl wof)), (r33, .inl (g.2.1 0, 60, .inl byf)), (r34, .inl (g.2.1 0, 60, .inl tof)), (r35, .inl (g.2.1 0, 60, .inl gof)), (r36, .inl (g.2.1 0, 60, .inl myf)), (r37, .inl (g.2.1 0, 60, .inl dyf)), (r38, .inl (g.2.1 0, 60, .inl pdf)), (r39, .inl (g.2.1 0, 4096, .inl smf)), (r40, .inl (g.2.1 0, 4096, .inl grf))]) C (c_Mo_isDay l g p0) [] [0, 1, 2, 3, 4, 5, 6, 7, 8, 9] [0, 1, 2, 3, 4, 5, 6, 7, 8, 9] rfl (by decide) (by decide) rfl mo_Mo_isDay ms_Mo_isDay kw_974 (by decide) rfl (Nat.le_of_ble_eq_true rfl) ⟨Nat.le_of_ble_eq_true rfl, Nat.le_of_ble_eq_true rfl⟩ d_Mo_fewest_1 ?_
  refine g_if_ne C d_Mo_fewest_4 (fun c_1 => ?_) (fun c_1 => ?_)
  · have c_1 := zb_n0.mp c_1
    refine g_iconst (v := 0) C rfl d_Mo_fewest_9 ?_
    refine g_istore_n (lv1 := [(0, .ref h), (1, .int p0), (2, .int 0)]) C d_Mo_fewest_10 [1, 2, 0] (by decide) rfl ?_
    refine g_iconst (v := 0) C rfl d_Mo_fewest_11 ?_
    refine g_istore_n (lv1 := [(0, .ref h), (1, .int p0), (2, .int 0), (3, .int 0)]) C d_Mo_fewest_12 [1, 2, 3, 0] (by decide) rfl ?_
    refine lp_Mo_fewest1 l g h r0 r1 r2 r5 r6 r16 r17 r18 r19 r20 r21 r22 r23 r25 r27 r28 r29 r30 r31 r33 r34 r35 r36 r37 r38 r39 r40 m c dt tp sz fk fp at1 en tk nu fl wa co nm wof byf tof gof myf dyf pdf p0 grf hm hc hd C m 0 0 smf (by omega) (by omega) ?_
    have hle := smA_le (fun i => balO byf tof gof myf dyf pdf wof (nI i) p0 c 0 0) m 0 0 smf
    generalize smA (fun i => balO byf tof gof myf dyf pdf wof (nI i) p0 c 0 0) m 0 0 smf = pz at hle C ⊢
    obtain ⟨n, f⟩ := pz
    dsimp only at hle C ⊢
    refine g_aload_n C 0 rfl d_Mo_fewest_93 ?_
    refine g_get C 0 rfl rfl in_Mo 40 (by decide) kw_1060 rfl d_Mo_fewest_94 ?_
    refine g_iconst (v := 0) C rfl d_Mo_fewest_97 ?_
    refine g_iconst (v := 0) C rfl d_Mo_fewest_98 ?_
    refine g_iast (X1 := [(h, .inr (13, [.ref r0, .ref r1, .ref r2, .int (nI m), .int dt, .ref r5, .ref r6, .int tp, .int sz, .int fk, .int fp, .int at1, .int en, .int tk, .int nu, .long nm, .ref r16, .ref r17, .ref r18, .ref r19, .ref r20, .ref r21, .ref r22, .ref r23, .int fl, .ref r25, .int wa, .ref r27, .ref r28, .ref r29, .ref r30, .ref r31, .int co, .ref r33, .ref r34, .ref r35, .ref r36, .ref r37, .ref r38, .ref r39, .ref r40, .int (nI c)])), (r31, .inl (g.2.1 0, 50, .inl wof)), (r33, .inl (g.2.1 0, 60, .inl byf)), (r34, .inl (g.2.1 0, 60, .inl tof)), (r35, .inl (g.2.1 0, 60, .inl gof)), (r36, .inl (g.2.1 0, 60, .inl myf)), (r37, .inl (g.2.1 0, 60, .inl dyf)), (r38, .inl (g.2.1 0, 60, .inl pdf)), (r39, .inl (g.2.1 0, 4096, .inl f)), (r40, .inl (g.2.1 0, 4096, .inl (upd grf (Int32.toNatClampNeg 0) 0)))]) C 9 rfl (vp_in_nI (n := 0) (by decide) (by decide)) rfl d_Mo_fewest_99 ?_
    refine g_eq (X1 := [(h, .inr (13, [.ref r0, .ref r1, .ref r2, .int (nI m), .int dt, .ref r5, .ref r6, .int tp, .int sz, .int fk, .int fp, .int at1, .int en, .int tk, .int nu, .long nm, .ref r16, .ref r17, .ref r18, .ref r19, .ref r20, .ref r21, .ref r22, .ref r23, .int fl, .ref r25, .int wa, .ref r27, .ref r28, .ref r29, .ref r30, .ref r31, .int co, .ref r33, .ref r34, .ref r35, .ref r36, .ref r37, .ref r38, .ref r39, .ref r40, .int (nI c)])), (r31, .inl (g.2.1 0, 50, .inl wof)), (r33, .inl (g.2.1 0, 60, .inl byf)), (r34, .inl (g.2.1 0, 60, .inl tof)), (r35, .inl (g.2.1 0, 60, .inl gof)), (r36, .inl (g.2.1 0, 60, .inl myf)), (r37, .inl (g.2.1 0, 60, .inl dyf)), (r38, .inl (g.2.1 0, 60, .inl pdf)), (r39, .inl (g.2.1 0, 4096, .inl f)), (r40, .inl (g.2.1 0, 4096, .inl (upd grf 0 0)))]) rfl rfl ?_
    refine g_iconst (v := 1) C rfl d_Mo_fewest_100 ?_
    refine g_istore_n (lv1 := [(0, .ref h), (1, .int p0), (2, .int (nI n)), (3, .int 1)]) C d_Mo_fewest_101 [1, 2, 3, 0] (by decide) rfl ?_
    refine lp_Mo_fewest3 l g h r0 r1 r2 r5 r6 r16 r17 r18 r19 r20 r21 r22 r23 r25 r27 r28 r29 r30 r31 r33 r34 r35 r36 r37 r38 r39 r40 m c dt tp sz fk fp at1 en tk nu fl wa co nm wof byf tof gof myf dyf pdf p0 f n (by omega) C (2 ^ n - 1) 1 (upd grf 0 0) (by have := @Nat.one_le_two_pow n; omega) ?_
    exact ⟨congrArg (fun z => some (Value.int z)) (by simp [c_1]), by simp [c_1], rfl⟩
  · have c_1 := zb_0.mp c_1
    refine g_iconst (v := (-1)) C rfl d_Mo_fewest_7 ?_
    exact g_iret C rfl ⟨congrArg (fun z => some (Value.int z)) (by simp [c_1]), (by simp [c_1]), rfl⟩ (by decide) (by decide) d_Mo_fewest_8

