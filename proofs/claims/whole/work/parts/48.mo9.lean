def brL (sf dd : Nat → Int32) (sd : Int32) : Nat → Nat → Int32 → Int32 → Option (Int32 × Int32)
  | 0, _, o, w => some (o, w)
  | k + 1, i, o, w => if sf i = sd then (if dd i = 7 then none else brL sf dd sd k (i + 1) (o + (if dd i = 0 then 1 else 0)) (w - (if dd i = 1 then 1 else 0))) else brL sf dd sd k (i + 1) o w
def brS (sf : Nat → Int32) (sd o w : Int32) : Nat → Nat → (Nat → Int32) → (Nat → Int32)
  | 0, _, d => d
  | k + 1, i, d => brS sf sd o w k (i + 1) (if sf i = sd ∧ d i = 0 ∧ (w = o ∨ w = 0) then upd d i (if w = 0 then 6 else 1) else d)
def brn (sf dd : Nat → Int32) (sd wk : Int32) (n : Nat) : Int32 × (Nat → Int32) := match brL sf dd sd n 0 0 wk with
  | none => (1, dd)
  | some (o, w) => if w < 0 ∨ o < w then (1, dd) else (2, brS sf sd o w n 0 dd)
def hrM (sf : Nat → Int32) (sd : Int32) (say : Nat → Int32) : Nat → Nat → (Nat → Int32) → (Nat → Int32)
  | 0, _, d => d
  | k + 1, m, d => hrM sf sd say k (m + 1) (if sf m = sd then upd d m (joi (d m) (say m)) else d)
abbrev DS : Type := (Nat → Int32) × Int32 × Int32
/-- a line of a day, heard -/
def lnM (sf : Nat → Int32) (n : Nat) (sd dy ld ls lw : Int32) (say : Nat → Int32) (t : DS) : DS :=
  if ld = dy ∧ ls = sd then (hrM sf sd say n 0 t.1, if 0 ≤ lw then lw else t.2.1, zb (¬ t.2.2 = 0 ∨ (0 ≤ t.2.1 ∧ 0 ≤ lw ∧ ¬ lw = t.2.1))) else t
def lsM (sf ldf lsf lwf syf hgf : Nat → Int32) (n : Nat) (sd dy : Int32) (ct : Bool) : Nat → Nat → DS → DS
  | 0, _, t => t
  | k + 1, l, t => if ct then lsM sf ldf lsf lwf syf hgf n sd dy ct k (l + 1) (lnM sf n sd dy (ldf l) (lsf l) (lwf l) (fun m => sayM (syf (12 * l + m)) (hgf l)) t) else t
def fsM (sf ldf lsf lwf syf hgf fdf gvf : Nat → Int32) (lc : Nat → Nat) (n : Nat) (sd dy kk : Int32) : Nat → Nat → DS → DS
  | 0, _, t => t
  | k + 1, f, t => fsM sf ldf lsf lwf syf hgf fdf gvf lc n sd dy kk k (f + 1) (lsM sf ldf lsf lwf syf hgf n sd dy (cntM (fdf f) (gvf f) kk) (lc f) (20 * f) t)
/-- what a day is, behind all lines -/
def tdM (sf : Nat → Int32) (n : Nat) (sd : Int32) (t : DS) : Int32 × (Nat → Int32) := if t.2.1 < 0 then (0, t.1) else if ¬ t.2.2 = 0 then (1, t.1) else brn sf t.1 sd (t.2.1 / 2) n
set_option maxHeartbeats 4000000 in
set_option maxRecDepth 100000 in
theorem lp_burn1 (l : Launch) (g : Gx) {κ : Kx} {E : Ex} {P : va_W} (h r0 r1 r2 r5 r6 r16 r17 r18 r19 r20 r21 r22 r23 r25 r27 r28 r29 r30 r31 r33 r34 r35 r36 r37 r38 r39 r40 n : Nat) (dt tp sz fk fp at1 en tk nu fl wa co db : Int32) (nm : Int64) (sf : Nat → Int32) (ddf : Nat → Int32) (p0 p1 : Int32) (hn : n ≤ 12) (C : zC κ l g ({ frames := 0, cells := 0, slots := 0, locals := 0 }) b_Mo_burn 6 "TombLaneModel" "burn" (some FieldType.int) E) : ∀ (k : Nat) (i : Nat) (o : Int32) (w : Int32), (i + k = n) → (brL sf ddf p0 k i o w = none → E (some (.int 1)) [(h, .inr (13, [.ref r0, .ref r1, .ref r2, .int (nI n), .int dt, .ref r5, .ref r6, .int tp, .int sz, .int fk, .int fp, .int at1, .int en, .int tk, .int nu, .long nm, .ref r16, .ref r17, .ref r18, .ref r19, .ref r20, .ref r21, .ref r22, .ref r23, .int fl, .ref r25, .int wa, .ref r27, .ref r28, .ref r29, .ref r30, .ref r31, .int co, .ref r33, .ref r34, .ref r35, .ref r36, .ref r37, .ref r38, .ref r39, .ref r40, .int db])), (r1, .inl (g.2.1 0, 12, .inl sf)), (r25, .inl (g.2.1 0, 12, .inl ddf))] P) → (∀ a b, brL sf ddf p0 k i o w = some (a, b) → G κ 6 0 0 90 [(0, .ref h), (1, .int p0), (2, .int p1), (3, .int a), (4, .int b)] [] [(h, .inr (13, [.ref r0, .ref r1, .ref r2, .int (nI n), .int dt, .ref r5, .ref r6, .int tp, .int sz, .int fk, .int fp, .int at1, .int en, .int tk, .int nu, .long nm, .ref r16, .ref r17, .ref r18, .ref r19, .ref r20, .ref r21, .ref r22, .ref r23, .int fl, .ref r25, .int wa, .ref r27, .ref r28, .ref r29, .ref r30, .ref r31, .int co, .ref r33, .ref r34, .ref r35, .ref r36, .ref r37, .ref r38, .ref r39, .ref r40, .int db])), (r1, .inl (g.2.1 0, 12, .inl sf)), (r25, .inl (g.2.1 0, 12, .inl ddf))] P) → G κ 6 0 0 8 [(0, .ref h), (1, .int p0), (2, .int p1), (3, .int o), (4, .int w), (5, .int (nI i))] [] [(h, .inr (13, [.ref r0, .ref r1, .ref r2, .int (nI n), .int dt, .ref r5, .ref r6, .int tp, .int sz, .int fk, .int fp, .int at1, .int en, .int tk, .int nu, .long nm, .ref r16, .ref r17, .ref r18, .ref r19, .ref r20, .ref r21, .ref r22, .ref r23, .int fl, .ref r25, .int wa, .ref r27, .ref r28, .ref r29, .ref r30, .ref r31, .int co, .ref r33, .ref r34, .ref r35, .ref r36, .ref r37, .ref r38, .ref r39, .ref r40, .int db])), (r1, .inl (g.2.1 0, 12, .inl sf)), (r25, .inl (g.2.1 0, 12, .inl ddf))] P := by
  intro k
  induction k with
  | zero =>
    intro i o w hi hE1 hE2
    refine g_iload C 5 rfl d_Mo_burn_8 ?_
    refine g_aload_n C 0 rfl d_Mo_burn_10 ?_
    refine g_get C 0 rfl rfl in_Mo 3 (by decide) kw_1023 rfl d_Mo_burn_11 ?_
    refine g_icmp_ge C d_Mo_burn_14 (fun _ => ?_) (fun c_1 => absurd (nI_le (by omega) (by omega)) c_1)
    refine g_lv (lv1 := [(0, .ref h), (1, .int p0), (2, .int p1), (3, .int o), (4, .int w)]) [0, 1, 2, 3, 4] rfl ?_
    exact hE2 _ _ rfl
  | succ k ih =>
    intro i o w hi hE1 hE2
    refine g_iload C 5 rfl d_Mo_burn_8 ?_
    refine g_aload_n C 0 rfl d_Mo_burn_10 ?_
    refine g_get C 0 rfl rfl in_Mo 3 (by decide) kw_1023 rfl d_Mo_burn_11 ?_
    refine g_icmp_ge C d_Mo_burn_14 (fun c_1 => absurd c_1 (nI_ge (by omega) (by omega))) (fun _ => ?_)
    refine g_aload_n C 0 rfl d_Mo_burn_17 ?_
    refine g_get C 0 rfl rfl in_Mo 1 (by decide) kw_1021 rfl d_Mo_burn_18 ?_
    refine g_iload C 5 rfl d_Mo_burn_21 ?_
    refine g_iald C 1 rfl (vp_in_nI (by omega) (by decide)) d_Mo_burn_23 ?_
    refine g_eq (st1 := [.int (sf i)]) (congrArg (fun z => Value.int z :: []) (congrArg sf (nI_clamp (by omega)))) rfl ?_
    refine g_iload_n C 1 rfl d_Mo_burn_24 ?_
    refine g_icmp_eq C d_Mo_burn_25 (fun c_2 => ?_) (fun c_2 => ?_)
    · skip
      refine g_aload_n C 0 rfl d_Mo_burn_31 ?_
      refine g_get C 0 rfl rfl in_Mo 25 (by decide) kw_1045 rfl d_Mo_burn_32 ?_
      refine g_iload C 5 rfl d_Mo_burn_35 ?_
      refine g_iald C 2 rfl (vp_in_nI (by omega) (by decide)) d_Mo_burn_37 ?_
      refine g_eq (st1 := [.int (ddf i)]) (congrArg (fun z => Value.int z :: []) (congrArg ddf (nI_clamp (by omega)))) rfl ?_
      refine g_bipush (v := 7) C rfl d_Mo_burn_38 ?_
      refine g_icmp_ne C d_Mo_burn_40 (fun c_3 => ?_) (fun c_3 => ?_)
      · skip
        refine g_iload_n C 3 rfl d_Mo_burn_45 ?_
        refine g_aload_n C 0 rfl d_Mo_burn_46 ?_
        refine g_get C 0 rfl rfl in_Mo 25 (by decide) kw_1045 rfl d_Mo_burn_47 ?_
        refine g_iload C 5 rfl d_Mo_burn_50 ?_
        refine g_iald C 2 rfl (vp_in_nI (by omega) (by decide)) d_Mo_burn_52 ?_
        refine g_eq (st1 := [.int (ddf i), .int o]) (congrArg (fun z => Value.int z :: [.int o]) (congrArg ddf (nI_clamp (by omega)))) rfl ?_
        refine g_if_ne C d_Mo_burn_53 (fun c_4 => ?_) (fun c_4 => ?_)
        · skip
          refine g_iconst (v := 0) C rfl d_Mo_burn_60 ?_
          refine g_iadd C d_Mo_burn_61 ?_
          refine g_istore_n (lv1 := [(0, .ref h), (1, .int p0), (2, .int p1), (3, .int (o + 0)), (4, .int w), (5, .int (nI i))]) C d_Mo_burn_62 [1, 2, 3, 0, 4, 5] (by decide) rfl ?_
          refine g_iload C 4 rfl d_Mo_burn_63 ?_
          refine g_aload_n C 0 rfl d_Mo_burn_65 ?_
          refine g_get C 0 rfl rfl in_Mo 25 (by decide) kw_1045 rfl d_Mo_burn_66 ?_
          refine g_iload C 5 rfl d_Mo_burn_69 ?_
          refine g_iald C 2 rfl (vp_in_nI (by omega) (by decide)) d_Mo_burn_71 ?_
          refine g_eq (st1 := [.int (ddf i), .int w]) (congrArg (fun z => Value.int z :: [.int w]) (congrArg ddf (nI_clamp (by omega)))) rfl ?_
          refine g_iconst (v := 1) C rfl d_Mo_burn_72 ?_
          refine g_icmp_ne C d_Mo_burn_73 (fun c_5 => ?_) (fun c_5 => ?_)
          · skip
            refine g_iconst (v := 0) C rfl d_Mo_burn_80 ?_
            refine g_isub C d_Mo_burn_81 ?_
            refine g_istore (lv1 := [(0, .ref h), (1, .int p0), (2, .int p1), (3, .int (o + 0)), (4, .int (w - 0)), (5, .int (nI i))]) C d_Mo_burn_82 [1, 2, 3, 4, 0, 5] (by decide) rfl ?_
            refine g_iinc (v := nI (i + 1)) (lv1 := [(0, .ref h), (1, .int p0), (2, .int p1), (3, .int (o + 0)), (4, .int (w - 0)), (5, .int (nI (i + 1)))]) C d_Mo_burn_84 5 rfl (nI_1 _) [1, 2, 3, 4, 5, 0] (by decide) rfl ?_
            refine g_goto C d_Mo_burn_87 ?_
            refine ih (i + 1) _ _ (by omega) (fun q => hE1 (by simpa [brL, eq_true c_2, c_3, c_4, c_5] using q)) (fun a b q => hE2 a b (by simpa [brL, eq_true c_2, c_3, c_4, c_5] using q))
          · skip
            refine g_iconst (v := 1) C rfl d_Mo_burn_76 ?_
            refine g_goto C d_Mo_burn_77 ?_
            refine g_isub C d_Mo_burn_81 ?_
            refine g_istore (lv1 := [(0, .ref h), (1, .int p0), (2, .int p1), (3, .int (o + 0)), (4, .int (w - 1)), (5, .int (nI i))]) C d_Mo_burn_82 [1, 2, 3, 4, 0, 5] (by decide) rfl ?_
            refine g_iinc (v := nI (i + 1)) (lv1 := [(0, .ref h), (1, .int p0), (2, .int p1), (3, .int (o + 0)), (4, .int (w - 1)), (5, .int (nI (i + 1)))]) C d_Mo_burn_84 5 rfl (nI_1 _) [1, 2, 3, 4, 5, 0] (by decide) rfl ?_
            refine g_goto C d_Mo_burn_87 ?_
            refine ih (i + 1) _ _ (by omega) (fun q => hE1 (by simpa [brL, eq_true c_2, c_3, c_4, eq_true c_5] using q)) (fun a b q => hE2 a b (by simpa [brL, eq_true c_2, c_3, c_4, eq_true c_5] using q))
        · skip
          refine g_iconst (v := 1) C rfl d_Mo_burn_56 ?_
          refine g_goto C d_Mo_burn_57 ?_
          refine g_iadd C d_Mo_burn_61 ?_
          refine g_istore_n (lv1 := [(0, .ref h), (1, .int p0), (2, .int p1), (3, .int (o + 1)), (4, .int w), (5, .int (nI i))]) C d_Mo_burn_62 [1, 2, 3, 0, 4, 5] (by decide) rfl ?_
          refine g_iload C 4 rfl d_Mo_burn_63 ?_
          refine g_aload_n C 0 rfl d_Mo_burn_65 ?_
          refine g_get C 0 rfl rfl in_Mo 25 (by decide) kw_1045 rfl d_Mo_burn_66 ?_
          refine g_iload C 5 rfl d_Mo_burn_69 ?_
          refine g_iald C 2 rfl (vp_in_nI (by omega) (by decide)) d_Mo_burn_71 ?_
          refine g_eq (st1 := [.int (ddf i), .int w]) (congrArg (fun z => Value.int z :: [.int w]) (congrArg ddf (nI_clamp (by omega)))) rfl ?_
          refine g_iconst (v := 1) C rfl d_Mo_burn_72 ?_
          refine g_icmp_ne C d_Mo_burn_73 (fun c_6 => ?_) (fun c_6 => ?_)
          · skip
            refine g_iconst (v := 0) C rfl d_Mo_burn_80 ?_
            refine g_isub C d_Mo_burn_81 ?_
            refine g_istore (lv1 := [(0, .ref h), (1, .int p0), (2, .int p1), (3, .int (o + 1)), (4, .int (w - 0)), (5, .int (nI i))]) C d_Mo_burn_82 [1, 2, 3, 4, 0, 5] (by decide) rfl ?_
            refine g_iinc (v := nI (i + 1)) (lv1 := [(0, .ref h), (1, .int p0), (2, .int p1), (3, .int (o + 1)), (4, .int (w - 0)), (5, .int (nI (i + 1)))]) C d_Mo_burn_84 5 rfl (nI_1 _) [1, 2, 3, 4, 5, 0] (by decide) rfl ?_
            refine g_goto C d_Mo_burn_87 ?_
            refine ih (i + 1) _ _ (by omega) (fun q => hE1 (by simpa [brL, eq_true c_2, c_3, eq_true c_4, c_6] using q)) (fun a b q => hE2 a b (by simpa [brL, eq_true c_2, c_3, eq_true c_4, c_6] using q))
          · skip
            refine g_iconst (v := 1) C rfl d_Mo_burn_76 ?_
            refine g_goto C d_Mo_burn_77 ?_
            refine g_isub C d_Mo_burn_81 ?_
            refine g_istore (lv1 := [(0, .ref h), (1, .int p0), (2, .int p1), (3, .int (o + 1)), (4, .int (w - 1)), (5, .int (nI i))]) C d_Mo_burn_82 [1, 2, 3, 4, 0, 5] (by decide) rfl ?_
            refine g_iinc (v := nI (i + 1)) (lv1 := [(0, .ref h), (1, .int p0), (2, .int p1), (3, .int (o + 1)), (4, .int (w - 1)), (5, .int (nI (i + 1)))]) C d_Mo_burn_84 5 rfl (nI_1 _) [1, 2, 3, 4, 5, 0] (by decide) rfl ?_
            refine g_goto C d_Mo_burn_87 ?_
            refine ih (i + 1) _ _ (by omega) (fun q => hE1 (by simpa [brL, eq_true c_2, c_3, eq_true c_4, eq_true c_6] using q)) (fun a b q => hE2 a b (by simpa [brL, eq_true c_2, c_3, eq_true c_4, eq_true c_6] using q))
      · skip
        refine g_iconst (v := 1) C rfl d_Mo_burn_43 ?_
        exact g_iret C rfl (hE1 (by simp [brL, eq_true c_2, eq_true c_3])) (by decide) (by decide) d_Mo_burn_44
    · skip
      refine g_goto C d_Mo_burn_28 ?_
      refine g_iinc (v := nI (i + 1)) (lv1 := [(0, .ref h), (1, .int p0), (2, .int p1), (3, .int o), (4, .int w), (5, .int (nI (i + 1)))]) C d_Mo_burn_84 5 rfl (nI_1 _) [1, 2, 3, 4, 5, 0] (by decide) rfl ?_
      refine g_goto C d_Mo_burn_87 ?_
      refine ih (i + 1) _ _ (by omega) (fun q => hE1 (by simpa [brL, c_2] using q)) (fun a b q => hE2 a b (by simpa [brL, c_2] using q))

set_option maxHeartbeats 4000000 in
set_option maxRecDepth 100000 in
theorem lp_burn2 (l : Launch) (g : Gx) {κ : Kx} {E : Ex} {P : va_W} (h r0 r1 r2 r5 r6 r16 r17 r18 r19 r20 r21 r22 r23 r25 r27 r28 r29 r30 r31 r33 r34 r35 r36 r37 r38 r39 r40 n : Nat) (dt tp sz fk fp at1 en tk nu fl wa co db : Int32) (nm : Int64) (sf : Nat → Int32) (p0 p1 : Int32) (o w : Int32) (hn : n ≤ 12) (C : zC κ l g ({ frames := 0, cells := 0, slots := 0, locals := 0 }) b_Mo_burn 6 "TombLaneModel" "burn" (some FieldType.int) E) : ∀ (k : Nat) (i : Nat) (ddf : Nat → Int32), (i + k = n) → (E (some (.int 2)) [(h, .inr (13, [.ref r0, .ref r1, .ref r2, .int (nI n), .int dt, .ref r5, .ref r6, .int tp, .int sz, .int fk, .int fp, .int at1, .int en, .int tk, .int nu, .long nm, .ref r16, .ref r17, .ref r18, .ref r19, .ref r20, .ref r21, .ref r22, .ref r23, .int fl, .ref r25, .int wa, .ref r27, .ref r28, .ref r29, .ref r30, .ref r31, .int co, .ref r33, .ref r34, .ref r35, .ref r36, .ref r37, .ref r38, .ref r39, .ref r40, .int db])), (r1, .inl (g.2.1 0, 12, .inl sf)), (r25, .inl (g.2.1 0, 12, .inl (brS sf p0 o w k i ddf)))] P) → G κ 6 0 0 106 [(0, .ref h), (1, .int p0), (2, .int p1), (3, .int o), (4, .int w), (5, .int (nI i))] [] [(h, .inr (13, [.ref r0, .ref r1, .ref r2, .int (nI n), .int dt, .ref r5, .ref r6, .int tp, .int sz, .int fk, .int fp, .int at1, .int en, .int tk, .int nu, .long nm, .ref r16, .ref r17, .ref r18, .ref r19, .ref r20, .ref r21, .ref r22, .ref r23, .int fl, .ref r25, .int wa, .ref r27, .ref r28, .ref r29, .ref r30, .ref r31, .int co, .ref r33, .ref r34, .ref r35, .ref r36, .ref r37, .ref r38, .ref r39, .ref r40, .int db])), (r1, .inl (g.2.1 0, 12, .inl sf)), (r25, .inl (g.2.1 0, 12, .inl ddf))] P := by
  intro k
  induction k with
  | zero =>
    intro i ddf hi hE
    refine g_iload C 5 rfl d_Mo_burn_106 ?_
    refine g_aload_n C 0 rfl d_Mo_burn_108 ?_
    refine g_get C 0 rfl rfl in_Mo 3 (by decide) kw_1023 rfl d_Mo_burn_109 ?_
    refine g_icmp_ge C d_Mo_burn_112 (fun _ => ?_) (fun c_1 => absurd (nI_le (by omega) (by omega)) c_1)
    refine g_iconst (v := 2) C rfl d_Mo_burn_171 ?_
    exact g_iret C rfl hE (by decide) (by decide) d_Mo_burn_172
  | succ k ih =>
    intro i ddf hi hE
    refine g_iload C 5 rfl d_Mo_burn_106 ?_
    refine g_aload_n C 0 rfl d_Mo_burn_108 ?_
    refine g_get C 0 rfl rfl in_Mo 3 (by decide) kw_1023 rfl d_Mo_burn_109 ?_
    refine g_icmp_ge C d_Mo_burn_112 (fun c_1 => absurd c_1 (nI_ge (by omega) (by omega))) (fun _ => ?_)
    refine g_aload_n C 0 rfl d_Mo_burn_115 ?_
    refine g_get C 0 rfl rfl in_Mo 1 (by decide) kw_1021 rfl d_Mo_burn_116 ?_
    refine g_iload C 5 rfl d_Mo_burn_119 ?_
    refine g_iald C 1 rfl (vp_in_nI (by omega) (by decide)) d_Mo_burn_121 ?_
    refine g_eq (st1 := [.int (sf i)]) (congrArg (fun z => Value.int z :: []) (congrArg sf (nI_clamp (by omega)))) rfl ?_
    refine g_iload_n C 1 rfl d_Mo_burn_122 ?_
    refine g_icmp_ne C d_Mo_burn_123 (fun c_2 => ?_) (fun c_2 => ?_)
    · skip
      refine g_iinc (v := nI (i + 1)) (lv1 := [(0, .ref h), (1, .int p0), (2, .int p1), (3, .int o), (4, .int w), (5, .int (nI (i + 1)))]) C d_Mo_burn_165 5 rfl (nI_1 _) [1, 2, 3, 4, 5, 0] (by decide) rfl ?_
      refine g_goto C d_Mo_burn_168 ?_
      exact ih (i + 1) _ (by omega) (by simpa [brS, c_2] using hE)
    · skip
      refine g_aload_n C 0 rfl d_Mo_burn_126 ?_
      refine g_get C 0 rfl rfl in_Mo 25 (by decide) kw_1045 rfl d_Mo_burn_127 ?_
      refine g_iload C 5 rfl d_Mo_burn_130 ?_
      refine g_iald C 2 rfl (vp_in_nI (by omega) (by decide)) d_Mo_burn_132 ?_
      refine g_eq (st1 := [.int (ddf i)]) (congrArg (fun z => Value.int z :: []) (congrArg ddf (nI_clamp (by omega)))) rfl ?_
      refine g_if_ne C d_Mo_burn_133 (fun c_3 => ?_) (fun c_3 => ?_)
      · skip
        refine g_iinc (v := nI (i + 1)) (lv1 := [(0, .ref h), (1, .int p0), (2, .int p1), (3, .int o), (4, .int w), (5, .int (nI (i + 1)))]) C d_Mo_burn_165 5 rfl (nI_1 _) [1, 2, 3, 4, 5, 0] (by decide) rfl ?_
        refine g_goto C d_Mo_burn_168 ?_
        exact ih (i + 1) _ (by omega) (by simpa [brS, eq_true c_2, c_3] using hE)
      · skip
        refine g_iload C 4 rfl d_Mo_burn_136 ?_
        refine g_iload_n C 3 rfl d_Mo_burn_138 ?_
        refine g_icmp_eq C d_Mo_burn_139 (fun c_4 => ?_) (fun c_4 => ?_)
        · skip
          refine g_aload_n C 0 rfl d_Mo_burn_147 ?_
          refine g_get C 0 rfl rfl in_Mo 25 (by decide) kw_1045 rfl d_Mo_burn_148 ?_
          refine g_iload C 5 rfl d_Mo_burn_151 ?_
          refine g_iload C 4 rfl d_Mo_burn_153 ?_
          refine g_if_ne C d_Mo_burn_155 (fun c_5 => ?_) (fun c_5 => ?_)
          · skip
            refine g_iconst (v := 1) C rfl d_Mo_burn_163 ?_
            refine g_iast (X1 := [(h, .inr (13, [.ref r0, .ref r1, .ref r2, .int (nI n), .int dt, .ref r5, .ref r6, .int tp, .int sz, .int fk, .int fp, .int at1, .int en, .int tk, .int nu, .long nm, .ref r16, .ref r17, .ref r18, .ref r19, .ref r20, .ref r21, .ref r22, .ref r23, .int fl, .ref r25, .int wa, .ref r27, .ref r28, .ref r29, .ref r30, .ref r31, .int co, .ref r33, .ref r34, .ref r35, .ref r36, .ref r37, .ref r38, .ref r39, .ref r40, .int db])), (r1, .inl (g.2.1 0, 12, .inl sf)), (r25, .inl (g.2.1 0, 12, .inl (upd ddf (Int32.toNatClampNeg (nI i)) 1)))]) C 2 rfl (vp_in_nI (by omega) (by decide)) rfl d_Mo_burn_164 ?_
            refine g_eq (X1 := [(h, .inr (13, [.ref r0, .ref r1, .ref r2, .int (nI n), .int dt, .ref r5, .ref r6, .int tp, .int sz, .int fk, .int fp, .int at1, .int en, .int tk, .int nu, .long nm, .ref r16, .ref r17, .ref r18, .ref r19, .ref r20, .ref r21, .ref r22, .ref r23, .int fl, .ref r25, .int wa, .ref r27, .ref r28, .ref r29, .ref r30, .ref r31, .int co, .ref r33, .ref r34, .ref r35, .ref r36, .ref r37, .ref r38, .ref r39, .ref r40, .int db])), (r1, .inl (g.2.1 0, 12, .inl sf)), (r25, .inl (g.2.1 0, 12, .inl (upd ddf i 1)))]) rfl (by rw [nI_clamp (by omega)]) ?_
            refine g_iinc (v := nI (i + 1)) (lv1 := [(0, .ref h), (1, .int p0), (2, .int p1), (3, .int o), (4, .int w), (5, .int (nI (i + 1)))]) C d_Mo_burn_165 5 rfl (nI_1 _) [1, 2, 3, 4, 5, 0] (by decide) rfl ?_
            refine g_goto C d_Mo_burn_168 ?_
            exact ih (i + 1) _ (by omega) (by simpa [brS, eq_true c_2, eq_true c_3, eq_true c_4, c_5] using hE)
          · skip
            refine g_bipush (v := 6) C rfl d_Mo_burn_158 ?_
            refine g_goto C d_Mo_burn_160 ?_
            refine g_iast (X1 := [(h, .inr (13, [.ref r0, .ref r1, .ref r2, .int (nI n), .int dt, .ref r5, .ref r6, .int tp, .int sz, .int fk, .int fp, .int at1, .int en, .int tk, .int nu, .long nm, .ref r16, .ref r17, .ref r18, .ref r19, .ref r20, .ref r21, .ref r22, .ref r23, .int fl, .ref r25, .int wa, .ref r27, .ref r28, .ref r29, .ref r30, .ref r31, .int co, .ref r33, .ref r34, .ref r35, .ref r36, .ref r37, .ref r38, .ref r39, .ref r40, .int db])), (r1, .inl (g.2.1 0, 12, .inl sf)), (r25, .inl (g.2.1 0, 12, .inl (upd ddf (Int32.toNatClampNeg (nI i)) 6)))]) C 2 rfl (vp_in_nI (by omega) (by decide)) rfl d_Mo_burn_164 ?_
            refine g_eq (X1 := [(h, .inr (13, [.ref r0, .ref r1, .ref r2, .int (nI n), .int dt, .ref r5, .ref r6, .int tp, .int sz, .int fk, .int fp, .int at1, .int en, .int tk, .int nu, .long nm, .ref r16, .ref r17, .ref r18, .ref r19, .ref r20, .ref r21, .ref r22, .ref r23, .int fl, .ref r25, .int wa, .ref r27, .ref r28, .ref r29, .ref r30, .ref r31, .int co, .ref r33, .ref r34, .ref r35, .ref r36, .ref r37, .ref r38, .ref r39, .ref r40, .int db])), (r1, .inl (g.2.1 0, 12, .inl sf)), (r25, .inl (g.2.1 0, 12, .inl (upd ddf i 6)))]) rfl (by rw [nI_clamp (by omega)]) ?_
            refine g_iinc (v := nI (i + 1)) (lv1 := [(0, .ref h), (1, .int p0), (2, .int p1), (3, .int o), (4, .int w), (5, .int (nI (i + 1)))]) C d_Mo_burn_165 5 rfl (nI_1 _) [1, 2, 3, 4, 5, 0] (by decide) rfl ?_
            refine g_goto C d_Mo_burn_168 ?_
            exact ih (i + 1) _ (by omega) (by simpa [brS, eq_true c_2, eq_true c_3, eq_true c_4, eq_true c_5] using hE)
        · skip
          refine g_iload C 4 rfl d_Mo_burn_142 ?_
          refine g_if_ne C d_Mo_burn_144 (fun c_6 => ?_) (fun c_6 => ?_)
          · skip
            refine g_iinc (v := nI (i + 1)) (lv1 := [(0, .ref h), (1, .int p0), (2, .int p1), (3, .int o), (4, .int w), (5, .int (nI (i + 1)))]) C d_Mo_burn_165 5 rfl (nI_1 _) [1, 2, 3, 4, 5, 0] (by decide) rfl ?_
            refine g_goto C d_Mo_burn_168 ?_
            exact ih (i + 1) _ (by omega) (by simpa [brS, eq_true c_2, eq_true c_3, c_4, c_6] using hE)
          · skip
            refine g_aload_n C 0 rfl d_Mo_burn_147 ?_
            refine g_get C 0 rfl rfl in_Mo 25 (by decide) kw_1045 rfl d_Mo_burn_148 ?_
            refine g_iload C 5 rfl d_Mo_burn_151 ?_
            refine g_iload C 4 rfl d_Mo_burn_153 ?_
            refine g_if_ne C d_Mo_burn_155 (fun c_7 => absurd c_6 c_7) (fun _ => ?_)
            refine g_bipush (v := 6) C rfl d_Mo_burn_158 ?_
            refine g_goto C d_Mo_burn_160 ?_
            refine g_iast (X1 := [(h, .inr (13, [.ref r0, .ref r1, .ref r2, .int (nI n), .int dt, .ref r5, .ref r6, .int tp, .int sz, .int fk, .int fp, .int at1, .int en, .int tk, .int nu, .long nm, .ref r16, .ref r17, .ref r18, .ref r19, .ref r20, .ref r21, .ref r22, .ref r23, .int fl, .ref r25, .int wa, .ref r27, .ref r28, .ref r29, .ref r30, .ref r31, .int co, .ref r33, .ref r34, .ref r35, .ref r36, .ref r37, .ref r38, .ref r39, .ref r40, .int db])), (r1, .inl (g.2.1 0, 12, .inl sf)), (r25, .inl (g.2.1 0, 12, .inl (upd ddf (Int32.toNatClampNeg (nI i)) 6)))]) C 2 rfl (vp_in_nI (by omega) (by decide)) rfl d_Mo_burn_164 ?_
            refine g_eq (X1 := [(h, .inr (13, [.ref r0, .ref r1, .ref r2, .int (nI n), .int dt, .ref r5, .ref r6, .int tp, .int sz, .int fk, .int fp, .int at1, .int en, .int tk, .int nu, .long nm, .ref r16, .ref r17, .ref r18, .ref r19, .ref r20, .ref r21, .ref r22, .ref r23, .int fl, .ref r25, .int wa, .ref r27, .ref r28, .ref r29, .ref r30, .ref r31, .int co, .ref r33, .ref r34, .ref r35, .ref r36, .ref r37, .ref r38, .ref r39, .ref r40, .int db])), (r1, .inl (g.2.1 0, 12, .inl sf)), (r25, .inl (g.2.1 0, 12, .inl (upd ddf i 6)))]) rfl (by rw [nI_clamp (by omega)]) ?_
            refine g_iinc (v := nI (i + 1)) (lv1 := [(0, .ref h), (1, .int p0), (2, .int p1), (3, .int o), (4, .int w), (5, .int (nI (i + 1)))]) C d_Mo_burn_165 5 rfl (nI_1 _) [1, 2, 3, 4, 5, 0] (by decide) rfl ?_
            refine g_goto C d_Mo_burn_168 ?_
            exact ih (i + 1) _ (by omega) (by simpa [brS, eq_true c_2, eq_true c_3, c_4, eq_true c_6] using hE)

set_option maxHeartbeats 4000000 in
set_option maxRecDepth 100000 in
theorem c_Mo_burn (l : Launch) (g : Gx) (h r0 r1 r2 r5 r6 r16 r17 r18 r19 r20 r21 r22 r23 r25 r27 r28 r29 r30 r31 r33 r34 r35 r36 r37 r38 r39 r40 n : Nat) (dt tp sz fk fp at1 en tk nu fl wa co db : Int32) (nm : Int64) (sf : Nat → Int32) (ddf : Nat → Int32) (p0 p1 : Int32) (hn : n ≤ 12) : M0 l g y_Mo_burn b_Mo_burn 6 (some FieldType.int) ({ frames := 0, cells := 0, slots := 0, locals := 0 }) [.ref h, .int p0, .int p1] [(h, .inr (13, [.ref r0, .ref r1, .ref r2, .int (nI n), .int dt, .ref r5, .ref r6, .int tp, .int sz, .int fk, .int fp, .int at1, .int en, .int tk, .int nu, .long nm, .ref r16, .ref r17, .ref r18, .ref r19, .ref r20, .ref r21, .ref r22, .ref r23, .int fl, .ref r25, .int wa, .ref r27, .ref r28, .ref r29, .ref r30, .ref r31, .int co, .ref r33, .ref r34, .ref r35, .ref r36, .ref r37, .ref r38, .ref r39, .ref r40, .int db])), (r1, .inl (g.2.1 0, 12, .inl sf)), (r25, .inl (g.2.1 0, 12, .inl ddf))] (some (.int (brn sf ddf p0 p1 n).1)) [(h, .inr (13, [.ref r0, .ref r1, .ref r2, .int (nI n), .int dt, .ref r5, .ref r6, .int tp, .int sz, .int fk, .int fp, .int at1, .int en, .int tk, .int nu, .long nm, .ref r16, .ref r17, .ref r18, .ref r19, .ref r20, .ref r21, .ref r22, .ref r23, .int fl, .ref r25, .int wa, .ref r27, .ref r28, .ref r29, .ref r30, .ref r31, .int co, .ref r33, .ref r34, .ref r35, .ref r36, .ref r37, .ref r38, .ref r39, .ref r40, .int db])), (r1, .inl (g.2.1 0, 12, .inl sf)), (r25, .inl (g.2.1 0, 12, .inl (brn sf ddf p0 p1 n).2))] := by
  refine MP.of (by decide) (Nat.le_of_ble_eq_true rfl) (fun κ C => ?_)
  have C : zC κ l g ({ frames := 0, cells := 0, slots := 0, locals := 0 }) b_Mo_burn 6 "TombLaneModel" "burn" (some FieldType.int) _ := C
  refine g_lv (lv1 := [(0, .ref h), (1, .int p0), (2, .int p1)]) [0, 1, 2] rfl ?_
  refine g_iconst (v := 0) C rfl d_Mo_burn_0 ?_
  refine g_istore_n (lv1 := [(0, .ref h), (1, .int p0), (2, .int p1), (3, .int 0)]) C d_Mo_burn_1 [1, 2, 3, 0] (by decide) rfl ?_
  refine g_iload_n C 2 rfl d_Mo_burn_2 ?_
  refine g_istore (lv1 := [(0, .ref h), (1, .int p0), (2, .int p1), (3, .int 0), (4, .int p1)]) C d_Mo_burn_3 [1, 2, 3, 4, 0] (by decide) rfl ?_
  refine g_iconst (v := 0) C rfl d_Mo_burn_5 ?_
  refine g_istore (lv1 := [(0, .ref h), (1, .int p0), (2, .int p1), (3, .int 0), (4, .int p1), (5, .int 0)]) C d_Mo_burn_6 [1, 2, 3, 4, 5, 0] (by decide) rfl ?_
  refine lp_burn1 l g h r0 r1 r2 r5 r6 r16 r17 r18 r19 r20 r21 r22 r23 r25 r27 r28 r29 r30 r31 r33 r34 r35 r36 r37 r38 r39 r40 n dt tp sz fk fp at1 en tk nu fl wa co db nm sf ddf p0 p1 hn C n 0 0 p1 (by omega) (fun q => ⟨by simp [brn, q], by simp [brn, q], rfl⟩) (fun o w q => ?_)
  refine g_iload C 4 rfl d_Mo_burn_90 ?_
  refine g_if_lt C d_Mo_burn_92 (fun c_1 => ?_) (fun c_1 => ?_)
  · skip
    refine g_iconst (v := 1) C rfl d_Mo_burn_101 ?_
    exact g_iret C rfl ⟨congrArg (fun z => some (Value.int z)) (by simp [brn, q, q, c_1, Int32.not_le.mpr c_1]), (by simp [brn, q, q, c_1, Int32.not_le.mpr c_1]), rfl⟩ (by decide) (by decide) d_Mo_burn_102
  · skip
    refine g_iload C 4 rfl d_Mo_burn_95 ?_
    refine g_iload_n C 3 rfl d_Mo_burn_97 ?_
    refine g_icmp_le C d_Mo_burn_98 (fun c_2 => ?_) (fun c_2 => ?_)
    · skip
      refine g_iconst (v := 0) C rfl d_Mo_burn_103 ?_
      refine g_istore (lv1 := [(0, .ref h), (1, .int p0), (2, .int p1), (3, .int o), (4, .int w), (5, .int 0)]) C d_Mo_burn_104 [1, 2, 3, 4, 5, 0] (by decide) rfl ?_
      exact lp_burn2 l g h r0 r1 r2 r5 r6 r16 r17 r18 r19 r20 r21 r22 r23 r25 r27 r28 r29 r30 r31 r33 r34 r35 r36 r37 r38 r39 r40 n dt tp sz fk fp at1 en tk nu fl wa co db nm sf p0 p1 o w hn C n 0 ddf (by omega) ⟨by simp [brn, q, c_1, Int32.not_lt.mp c_1, c_2, Int32.not_lt.mpr c_2], by simp [brn, q, c_1, Int32.not_lt.mp c_1, c_2, Int32.not_lt.mpr c_2], rfl⟩
    · skip
      refine g_iconst (v := 1) C rfl d_Mo_burn_101 ?_
      exact g_iret C rfl ⟨congrArg (fun z => some (Value.int z)) (by simp [brn, q, q, c_1, Int32.not_lt.mp c_1, c_2, Int32.not_le.mp c_2]), (by simp [brn, q, q, c_1, Int32.not_lt.mp c_1, c_2, Int32.not_le.mp c_2]), rfl⟩ (by decide) (by decide) d_Mo_burn_102

set_option maxHeartbeats 4000000 in
set_option maxRecDepth 100000 in
theorem lp105 (l : Launch) (g : Gx) {κ : Kx} {E : Ex} {P : va_W} (h r0 r1 r2 r5 r6 r16 r17 r18 r19 r20 r21 r22 r23 r25 r27 r28 r29 r30 r31 r33 r34 r35 r36 r37 r38 r39 r40 n q : Nat) (dt tp sz fk fp at1 en tk nu wa co db : Int32) (nm : Int64) (sf lmf ldf lsf lwf syf fdf gvf hgf : Nat → Int32) (lc : Nat → Nat) (p0 p1 p2 : Int32) (w u : Int32) (f l1 : Nat) (hn : n ≤ 12) (hq : q ≤ 40) (hl : ∀ i, i < q → lmf i = nI (lc i) ∧ lc i ≤ 20) (hl1 : l1 < 820) (C : zC κ l g ({ frames := 1, cells := 0, slots := 0, locals := 25 }) b_Mo_tellDay 9 "TombLaneModel" "tellDay" (none : Option FieldType) E) : ∀ (k : Nat) (i : Nat) (ddf : Nat → Int32), (i + k = n) → (G κ 9 0 0 156 [(0, .ref h), (1, .int p0), (2, .int p1), (3, .int p2), (4, .int w), (5, .int u), (6, .int (nI f)), (7, .int (nI l1))] [] [(h, .inr (13, [.ref r0, .ref r1, .ref r2, .int (nI n), .int dt, .ref r5, .ref r6, .int tp, .int sz, .int fk, .int fp, .int at1, .int en, .int tk, .int nu, .long nm, .ref r16, .ref r17, .ref r18, .ref r19, .ref r20, .ref r21, .ref r22, .ref r23, .int (nI q), .ref r25, .int wa, .ref r27, .ref r28, .ref r29, .ref r30, .ref r31, .int co, .ref r33, .ref r34, .ref r35, .ref r36, .ref r37, .ref r38, .ref r39, .ref r40, .int db])), (r1, .inl (g.2.1 0, 12, .inl sf)), (r16, .inl (g.2.1 0, 41, .inl lmf)), (r17, .inl (g.2.1 0, 820, .inl ldf)), (r18, .inl (g.2.1 0, 820, .inl lsf)), (r19, .inl (g.2.1 0, 820, .inl lwf)), (r20, .inl (g.2.1 0, 9840, .inl syf)), (r21, .inl (g.2.1 0, 41, .inl fdf)), (r22, .inl (g.2.1 0, 41, .inl gvf)), (r23, .inl (g.2.1 3, 820, .inl hgf)), (r25, .inl (g.2.1 0, 12, .inl (hrM sf p0 (fun m => sayM (syf (12 * l1 + m)) (hgf l1)) k i ddf)))] P) → G κ 9 0 0 105 [(0, .ref h), (1, .int p0), (2, .int p1), (3, .int p2), (4, .int w), (5, .int u), (6, .int (nI f)), (7, .int (nI l1)), (8, .int (nI i))] [] [(h, .inr (13, [.ref r0, .ref r1, .ref r2, .int (nI n), .int dt, .ref r5, .ref r6, .int tp, .int sz, .int fk, .int fp, .int at1, .int en, .int tk, .int nu, .long nm, .ref r16, .ref r17, .ref r18, .ref r19, .ref r20, .ref r21, .ref r22, .ref r23, .int (nI q), .ref r25, .int wa, .ref r27, .ref r28, .ref r29, .ref r30, .ref r31, .int co, .ref r33, .ref r34, .ref r35, .ref r36, .ref r37, .ref r38, .ref r39, .ref r40, .int db])), (r1, .inl (g.2.1 0, 12, .inl sf)), (r16, .inl (g.2.1 0, 41, .inl lmf)), (r17, .inl (g.2.1 0, 820, .inl ldf)), (r18, .inl (g.2.1 0, 820, .inl lsf)), (r19, .inl (g.2.1 0, 820, .inl lwf)), (r20, .inl (g.2.1 0, 9840, .inl syf)), (r21, .inl (g.2.1 0, 41, .inl fdf)), (r22, .inl (g.2.1 0, 41, .inl gvf)), (r23, .inl (g.2.1 3, 820, .inl hgf)), (r25, .inl (g.2.1 0, 12, .inl ddf))] P := by
  intro k
  induction k with
  | zero =>
    intro i ddf hi hE
    refine g_iload C 8 rfl d_Mo_tellDay_105 ?_
    refine g_aload_n C 0 rfl d_Mo_tellDay_107 ?_
    refine g_get C 0 rfl rfl in_Mo 3 (by decide) kw_1023 rfl d_Mo_tellDay_108 ?_
    refine g_icmp_ge C d_Mo_tellDay_111 (fun _ => ?_) (fun c_1 => absurd (nI_le (by omega) (by omega)) c_1)
    refine g_lv (lv1 := [(0, .ref h), (1, .int p0), (2, .int p1), (3, .int p2), (4, .int w), (5, .int u), (6, .int (nI f)), (7, .int (nI l1))]) [0, 1, 2, 3, 4, 5, 6, 7] rfl ?_
    exact hE
  | succ k ih =>
    intro i ddf hi hE
    refine g_iload C 8 rfl d_Mo_tellDay_105 ?_
    refine g_aload_n C 0 rfl d_Mo_tellDay_107 ?_
    refine g_get C 0 rfl rfl in_Mo 3 (by decide) kw_1023 rfl d_Mo_tellDay_108 ?_
    refine g_icmp_ge C d_Mo_tellDay_111 (fun c_1 => absurd c_1 (nI_ge (by omega) (by omega))) (fun _ => ?_)
    refine g_aload_n C 0 rfl d_Mo_tellDay_114 ?_
    refine g_get C 0 rfl rfl in_Mo 1 (by decide) kw_1021 rfl d_Mo_tellDay_115 ?_
    refine g_iload C 8 rfl d_Mo_tellDay_118 ?_
    refine g_iald C 1 rfl (vp_in_nI (by omega) (by decide)) d_Mo_tellDay_120 ?_
    refine g_eq (st1 := [.int (sf i)]) (congrArg (fun z => Value.int z :: []) (congrArg sf (nI_clamp (by omega)))) rfl ?_
    refine g_iload_n C 1 rfl d_Mo_tellDay_121 ?_
    refine g_icmp_ne C d_Mo_tellDay_122 (fun c_2 => ?_) (fun c_2 => ?_)
    · skip
      refine g_iinc (v := nI (i + 1)) (lv1 := [(0, .ref h), (1, .int p0), (2, .int p1), (3, .int p2), (4, .int w), (5, .int u), (6, .int (nI f)), (7, .int (nI l1)), (8, .int (nI (i + 1)))]) C d_Mo_tellDay_150 8 rfl (nI_1 _) [1, 2, 3, 4, 5, 6, 7, 8, 0] (by decide) rfl ?_
      refine g_goto C d_Mo_tellDay_153 ?_
      exact ih (i + 1) _ (by omega) (by simpa [hrM, c_2] using hE)
    · skip
      refine g_aload_n C 0 rfl d_Mo_tellDay_125 ?_
      refine g_get C 0 rfl rfl in_Mo 25 (by decide) kw_1045 rfl d_Mo_tellDay_126 ?_
      refine g_iload C 8 rfl d_Mo_tellDay_129 ?_
      refine g_aload_n C 0 rfl d_Mo_tellDay_131 ?_
      refine g_get C 0 rfl rfl in_Mo 25 (by decide) kw_1045 rfl d_Mo_tellDay_132 ?_
      refine g_iload C 8 rfl d_Mo_tellDay_135 ?_
      refine g_iald C 10 rfl (vp_in_nI (by omega) (by decide)) d_Mo_tellDay_137 ?_
      refine g_eq (st1 := [.int (ddf i), .int (nI i), .ref r25]) (congrArg (fun z => Value.int z :: [.int (nI i), .ref r25]) (congrArg ddf (nI_clamp (by omega)))) rfl ?_
      refine g_aload_n C 0 rfl d_Mo_tellDay_138 ?_
      refine g_iload C 7 rfl d_Mo_tellDay_139 ?_
      refine g_iload C 8 rfl d_Mo_tellDay_141 ?_
      refine g_callV0 (rest := [.int (ddf i), .int (nI i), .ref r25]) (Xn := [(h, .inr (13, [.ref r0, .ref r1, .ref r2, .int (nI n), .int dt, .ref r5, .ref r6, .int tp, .int sz, .int fk, .int fp, .int at1, .int en, .int tk, .int nu, .long nm, .ref r16, .ref r17, .ref r18, .ref r19, .ref r20, .ref r21, .ref r22, .ref r23, .int (nI q), .ref r25, .int wa, .ref r27, .ref r28, .ref r29, .ref r30, .ref r31, .int co, .ref r33, .ref r34, .ref r35, .ref r36, .ref r37, .ref r38, .ref r39, .ref r40, .int db])), (r1, .inl (g.2.1 0, 12, .inl sf)), (r16, .inl (g.2.1 0, 41, .inl lmf)), (r17, .inl (g.2.1 0, 820, .inl ldf)), (r18, .inl (g.2.1 0, 820, .inl lsf)), (r19, .inl (g.2.1 0, 820, .inl lwf)), (r20, .inl (g.2.1 0, 9840, .inl syf)), (r21, .inl (g.2.1 0, 41, .inl fdf)), (r22, .inl (g.2.1 0, 41, .inl gvf)), (r23, .inl (g.2.1 3, 820, .inl hgf)), (r25, .inl (g.2.1 0, 12, .inl ddf))]) C (c_Mo_saysOf l g h r0 r1 r2 r5 r6 r16 r17 r18 r19 r20 r21 r22 r23 r25 r27 r28 r29 r30 r31 r33 r34 r35 r36 r37 r38 r39 r40 l1 i (nI n) dt tp sz fk fp at1 en tk nu (nI q) wa co db nm syf hgf (by first | assumption | omega | exact nI_pos (by omega)) (by first | assumption | omega | exact nI_pos (by omega))) [0, 6, 9] [1, 2, 3, 4, 5, 7, 8, 10] [8, 0, 1, 2, 3, 4, 9, 5, 6, 10, 7] rfl (by decide) (by decide) rfl mo_Mo_saysOf mv_Mo_saysOf kw_989 (by decide) (rcX 0 rfl rfl) rfl (Nat.le_of_ble_eq_true rfl) ⟨Nat.le_of_ble_eq_true rfl, Nat.le_of_ble_eq_true rfl⟩ d_Mo_tellDay_143 ?_
      refine g_callS0 (rest := [.int (nI i), .ref r25]) (Xn := [(h, .inr (13, [.ref r0, .ref r1, .ref r2, .int (nI n), .int dt, .ref r5, .ref r6, .int tp, .int sz, .int fk, .int fp, .int at1, .int en, .int tk, .int nu, .long nm, .ref r16, .ref r17, .ref r18, .ref r19, .ref r20, .ref r21, .ref r22, .ref r23, .int (nI q), .ref r25, .int wa, .ref r27, .ref r28, .ref r29, .ref r30, .ref r31, .int co, .ref r33, .ref r34, .ref r35, .ref r36, .ref r37, .ref r38, .ref r39, .ref r40, .int db])), (r1, .inl (g.2.1 0, 12, .inl sf)), (r16, .inl (g.2.1 0, 41, .inl lmf)), (r17, .inl (g.2.1 0, 820, .inl ldf)), (r18, .inl (g.2.1 0, 820, .inl lsf)), (r19, .inl (g.2.1 0, 820, .inl lwf)), (r20, .inl (g.2.1 0, 9840, .inl syf)), (r21, .inl (g.2.1 0, 41, .inl fdf)), (r22, .inl (g.2.1 0, 41, .inl gvf)), (r23, .inl (g.2.1 3, 820, .inl hgf)), (r25, .inl (g.2.1 0, 12, .inl ddf))]) C (c_Mo_joined l g (ddf i) (sayM (syf (12 * l1 + i)) (hgf l1))) [] [0, 1, 2, 3, 4, 5, 6, 7, 8, 9, 10] [0, 1, 2, 3, 4, 5, 6, 7, 8, 9, 10] rfl (by decide) (by decide) rfl mo_Mo_joined ms_Mo_joined kw_993 (by decide) rfl (Nat.le_of_ble_eq_true rfl) ⟨Nat.le_of_ble_eq_true rfl, Nat.le_of_ble_eq_true rfl⟩ d_Mo_tellDay_146 ?_
      refine g_iast (X1 := [(h, .inr (13, [.ref r0, .ref r1, .ref r2, .int (nI n), .int dt, .ref r5, .ref r6, .int tp, .int sz, .int fk, .int fp, .int at1, .int en, .int tk, .int nu, .long nm, .ref r16, .ref r17, .ref r18, .ref r19, .ref r20, .ref r21, .ref r22, .ref r23, .int (nI q), .ref r25, .int wa, .ref r27, .ref r28, .ref r29, .ref r30, .ref r31, .int co, .ref r33, .ref r34, .ref r35, .ref r36, .ref r37, .ref r38, .ref r39, .ref r40, .int db])), (r1, .inl (g.2.1 0, 12, .inl sf)), (r16, .inl (g.2.1 0, 41, .inl lmf)), (r17, .inl (g.2.1 0, 820, .inl ldf)), (r18, .inl (g.2.1 0, 820, .inl lsf)), (r19, .inl (g.2.1 0, 820, .inl lwf)), (r20, .inl (g.2.1 0, 9840, .inl syf)), (r21, .inl (g.2.1 0, 41, .inl fdf)), (r22, .inl (g.2.1 0, 41, .inl gvf)), (r23, .inl (g.2.1 3, 820, .inl hgf)), (r25, .inl (g.2.1 0, 12, .inl (upd ddf (Int32.toNatClampNeg (nI i)) (joi (ddf i) (sayM (syf (12 * l1 + i)) (hgf l1))))))]) C 10 rfl (vp_in_nI (by omega) (by decide)) rfl d_Mo_tellDay_149 ?_
      refine g_eq (X1 := [(h, .inr (13, [.ref r0, .ref r1, .ref r2, .int (nI n), .int dt, .ref r5, .ref r6, .int tp, .int sz, .int fk, .int fp, .int at1, .int en, .int tk, .int nu, .long nm, .ref r16, .ref r17, .ref r18, .ref r19, .ref r20, .ref r21, .ref r22, .ref r23, .int (nI q), .ref r25, .int wa, .ref r27, .ref r28, .ref r29, .ref r30, .ref r31, .int co, .ref r33, .ref r34, .ref r35, .ref r36, .ref r37, .ref r38, .ref r39, .ref r40, .int db])), (r1, .inl (g.2.1 0, 12, .inl sf)), (r16, .inl (g.2.1 0, 41, .inl lmf)), (r17, .inl (g.2.1 0, 820, .inl ldf)), (r18, .inl (g.2.1 0, 820, .inl lsf)), (r19, .inl (g.2.1 0, 820, .inl lwf)), (r20, .inl (g.2.1 0, 9840, .inl syf)), (r21, .inl (g.2.1 0, 41, .inl fdf)), (r22, .inl (g.2.1 0, 41, .inl gvf)), (r23, .inl (g.2.1 3, 820, .inl hgf)), (r25, .inl (g.2.1 0, 12, .inl (upd ddf i (joi (ddf i) (sayM (syf (12 * l1 + i)) (hgf l1))))))]) rfl (by rw [nI_clamp (by omega)]) ?_
      refine g_iinc (v := nI (i + 1)) (lv1 := [(0, .ref h), (1, .int p0), (2, .int p1), (3, .int p2), (4, .int w), (5, .int u), (6, .int (nI f)), (7, .int (nI l1)), (8, .int (nI (i + 1)))]) C d_Mo_tellDay_150 8 rfl (nI_1 _) [1, 2, 3, 4, 5, 6, 7, 8, 0] (by decide) rfl ?_
      refine g_goto C d_Mo_tellDay_153 ?_
      exact ih (i + 1) _ (by omega) (by simpa [hrM, eq_true c_2] using hE)

set_option maxHeartbeats 4000000 in
set_option maxRecDepth 100000 in
theorem lp49 (l : Launch) (g : Gx) {κ : Kx} {E : Ex} {P : va_W} (h r0 r1 r2 r5 r6 r16 r17 r18 r19 r20 r21 r22 r23 r25 r27 r28 r29 r30 r31 r33 r34 r35 r36 r37 r38 r39 r40 n q : Nat) (dt tp sz fk fp at1 en tk nu wa co db : Int32) (nm : Int64) (sf lmf ldf lsf lwf syf fdf gvf hgf : Nat → Int32) (lc : Nat → Nat) (p0 p1 p2 : Int32) (f : Nat) (hn : n ≤ 12) (hq : q ≤ 40) (hl : ∀ i, i < q → lmf i = nI (lc i) ∧ lc i ≤ 20) (hf : f < q) (hc : lmf f = nI (lc f) ∧ lc f ≤ 20) (C : zC κ l g ({ frames := 1, cells := 0, slots := 0, locals := 25 }) b_Mo_tellDay 9 "TombLaneModel" "tellDay" (none : Option FieldType) E) : ∀ (k : Nat) (i : Nat) (t : DS), (i + k = 20 * f + lc f) → (G κ 9 0 0 225 [(0, .ref h), (1, .int p0), (2, .int p1), (3, .int p2), (4, .int (lsM sf ldf lsf lwf syf hgf n p0 p1 (cntM (fdf f) (gvf f) p2) k i t).2.1), (5, .int (lsM sf ldf lsf lwf syf hgf n p0 p1 (cntM (fdf f) (gvf f) p2) k i t).2.2), (6, .int (nI f))] [] [(h, .inr (13, [.ref r0, .ref r1, .ref r2, .int (nI n), .int dt, .ref r5, .ref r6, .int tp, .int sz, .int fk, .int fp, .int at1, .int en, .int tk, .int nu, .long nm, .ref r16, .ref r17, .ref r18, .ref r19, .ref r20, .ref r21, .ref r22, .ref r23, .int (nI q), .ref r25, .int wa, .ref r27, .ref r28, .ref r29, .ref r30, .ref r31, .int co, .ref r33, .ref r34, .ref r35, .ref r36, .ref r37, .ref r38, .ref r39, .ref r40, .int db])), (r1, .inl (g.2.1 0, 12, .inl sf)), (r16, .inl (g.2.1 0, 41, .inl lmf)), (r17, .inl (g.2.1 0, 820, .inl ldf)), (r18, .inl (g.2.1 0, 820, .inl lsf)), (r19, .inl (g.2.1 0, 820, .inl lwf)), (r20, .inl (g.2.1 0, 9840, .inl syf)), (r21, .inl (g.2.1 0, 41, .inl fdf)), (r22, .inl (g.2.1 0, 41, .inl gvf)), (r23, .inl (g.2.1 3, 820, .inl hgf)), (r25, .inl (g.2.1 0, 12, .inl (lsM sf ldf lsf lwf syf hgf n p0 p1 (cntM (fdf f) (gvf f) p2) k i t).1))] P) → G κ 9 0 0 49 [(0, .ref h), (1, .int p0), (2, .int p1), (3, .int p2), (4, .int t.2.1), (5, .int t.2.2), (6, .int (nI f)), (7, .int (nI i))] [] [(h, .inr (13, [.ref r0, .ref r1, .ref r2, .int (nI n), .int dt, .ref r5, .ref r6, .int tp, .int sz, .int fk, .int fp, .int at1, .int en, .int tk, .int nu, .long nm, .ref r16, .ref r17, .ref r18, .ref r19, .ref r20, .ref r21, .ref r22, .ref r23, .int (nI q), .ref r25, .int wa, .ref r27, .ref r28, .ref r29, .ref r30, .ref r31, .int co, .ref r33, .ref r34, .ref r35, .ref r36, .ref r37, .ref r38, .ref r39, .ref r40, .int db])), (r1, .inl (g.2.1 0, 12, .inl sf)), (r16, .inl (g.2.1 0, 41, .inl lmf)), (r17, .inl (g.2.1 0, 820, .inl ldf)), (r18, .inl (g.2.1 0, 820, .inl lsf)), (r19, .inl (g.2.1 0, 820, .inl lwf)), (r20, .inl (g.2.1 0, 9840, .inl syf)), (r21, .inl (g.2.1 0, 41, .inl fdf)), (r22, .inl (g.2.1 0, 41, .inl gvf)), (r23, .inl (g.2.1 3, 820, .inl hgf)), (r25, .inl (g.2.1 0, 12, .inl t.1))] P := by
  intro k
  induction k with
  | zero =>
    intro i t hi hE
    refine g_iload C 7 rfl d_Mo_tellDay_49 ?_
    refine g_bipush (v := 20) C rfl d_Mo_tellDay_51 ?_
    refine g_iload C 6 rfl d_Mo_tellDay_53 ?_
    refine g_imul C d_Mo_tellDay_55 ?_
    refine g_eq (st1 := [.int (nI (20 * f)), .int (nI i)]) (congrArg (fun z => Value.int z :: [.int (nI i)]) (pk_mul 20 f)) rfl ?_
    refine g_aload_n C 0 rfl d_Mo_tellDay_56 ?_
    refine g_get C 0 rfl rfl in_Mo 16 (by decide) kw_1036 rfl d_Mo_tellDay_57 ?_
    refine g_iload C 6 rfl d_Mo_tellDay_60 ?_
    refine g_iald C 2 rfl (vp_in_nI (by omega) (by decide)) d_Mo_tellDay_62 ?_
    refine g_eq (st1 := [.int (lmf f), .int (nI (20 * f)), .int (nI i)]) (congrArg (fun z => Value.int z :: [.int (nI (20 * f)), .int (nI i)]) (congrArg lmf (nI_clamp (by omega)))) rfl ?_
    refine g_eq (st1 := [.int (nI (lc f)), .int (nI (20 * f)), .int (nI i)]) (congrArg (fun z => Value.int z :: [.int (nI (20 * f)), .int (nI i)]) hc.1) rfl ?_
    refine g_iadd C d_Mo_tellDay_63 ?_
    refine g_eq (st1 := [.int (nI ((20 * f) + (lc f))), .int (nI i)]) (congrArg (fun z => Value.int z :: [.int (nI i)]) (nI_add (20 * f) (lc f))) rfl ?_
    refine g_icmp_ge C d_Mo_tellDay_64 (fun _ => ?_) (fun c_1 => absurd (nI_le (by omega) (by omega)) c_1)
    refine g_lv (lv1 := [(0, .ref h), (1, .int p0), (2, .int p1), (3, .int p2), (4, .int t.2.1), (5, .int t.2.2), (6, .int (nI f))]) [0, 1, 2, 3, 4, 5, 6] rfl ?_
    exact hE
  | succ k ih =>
    intro i t hi hE
    refine g_iload C 7 rfl d_Mo_tellDay_49 ?_
    refine g_bipush (v := 20) C rfl d_Mo_tellDay_51 ?_
    refine g_iload C 6 rfl d_Mo_tellDay_53 ?_
    refine g_imul C d_Mo_tellDay_55 ?_
    refine g_eq (st1 := [.int (nI (20 * f)), .int (nI i)]) (congrArg (fun z => Value.int z :: [.int (nI i)]) (pk_mul 20 f)) rfl ?_
    refine g_aload_n C 0 rfl d_Mo_tellDay_56 ?_
    refine g_get C 0 rfl rfl in_Mo 16 (by decide) kw_1036 rfl d_Mo_tellDay_57 ?_
    refine g_iload C 6 rfl d_Mo_tellDay_60 ?_
    refine g_iald C 2 rfl (vp_in_nI (by omega) (by decide)) d_Mo_tellDay_62 ?_
    refine g_eq (st1 := [.int (lmf f), .int (nI (20 * f)), .int (nI i)]) (congrArg (fun z => Value.int z :: [.int (nI (20 * f)), .int (nI i)]) (congrArg lmf (nI_clamp (by omega)))) rfl ?_
    refine g_eq (st1 := [.int (nI (lc f)), .int (nI (20 * f)), .int (nI i)]) (congrArg (fun z => Value.int z :: [.int (nI (20 * f)), .int (nI i)]) hc.1) rfl ?_
    refine g_iadd C d_Mo_tellDay_63 ?_
    refine g_eq (st1 := [.int (nI ((20 * f) + (lc f))), .int (nI i)]) (congrArg (fun z => Value.int z :: [.int (nI i)]) (nI_add (20 * f) (lc f))) rfl ?_
    refine g_icmp_ge C d_Mo_tellDay_64 (fun c_1 => absurd c_1 (nI_ge (by omega) (by omega))) (fun _ => ?_)
    refine g_aload_n C 0 rfl d_Mo_tellDay_67 ?_
    refine g_iload C 6 rfl d_Mo_tellDay_68 ?_
    refine g_iload_n C 3 rfl d_Mo_tellDay_70 ?_
    refine g_callV0 (rest := []) (Xn := [(h, .inr (13, [.ref r0, .ref r1, .ref r2, .int (nI n), .int dt, .ref r5, .ref r6, .int tp, .int sz, .int fk, .int fp, .int at1, .int en, .int tk, .int nu, .long nm, .ref r16, .ref r17, .ref r18, .ref r19, .ref r20, .ref r21, .ref r22, .ref r23, .int (nI q), .ref r25, .int wa, .ref r27, .ref r28, .ref r29, .ref r30, .ref r31, .int co, .ref r33, .ref r34, .ref r35, .ref r36, .ref r37, .ref r38, .ref r39, .ref r40, .int db])), (r1, .inl (g.2.1 0, 12, .inl sf)), (r16, .inl (g.2.1 0, 41, .inl lmf)), (r17, .inl (g.2.1 0, 820, .inl ldf)), (r18, .inl (g.2.1 0, 820, .inl lsf)), (r19, .inl (g.2.1 0, 820, .inl lwf)), (r20, .inl (g.2.1 0, 9840, .inl syf)), (r21, .inl (g.2.1 0, 41, .inl fdf)), (r22, .inl (g.2.1 0, 41, .inl gvf)), (r23, .inl (g.2.1 3, 820, .inl hgf)), (r25, .inl (g.2.1 0, 12, .inl t.1))]) C (c_Mo_counts l g h r0 r1 r2 r5 r6 r16 r17 r18 r19 r20 r21 r22 r23 r25 r27 r28 r29 r30 r31 r33 r34 r35 r36 r37 r38 r39 r40 f (nI n) dt tp sz fk fp at1 en tk nu (nI q) wa co db nm fdf gvf p2 (by first | assumption | omega | exact nI_pos (by omega))) [0, 7, 8] [1, 2, 3, 4, 5, 6, 9, 10] [8, 0, 1, 2, 3, 4, 5, 9, 10, 6, 7] rfl (by decide) (by decide) rfl mo_Mo_counts mv_Mo_counts kw_985 (by decide) (rcX 0 rfl rfl) rfl (Nat.le_of_ble_eq_true rfl) ⟨Nat.le_of_ble_eq_true rfl, Nat.le_of_ble_eq_true rfl⟩ d_Mo_tellDay_71 ?_
    refine g_if_eq C d_Mo_tellDay_74 (fun c_2 => ?_) (fun c_2 => ?_)
    · have c_2 := zb_0.mp c_2
      refine g_lv (lv1 := [(0, .ref h), (1, .int p0), (2, .int p1), (3, .int p2), (4, .int t.2.1), (5, .int t.2.2), (6, .int (nI f))]) [0, 1, 2, 3, 4, 5, 6] rfl ?_
      exact (by simpa [lsM, c_2] using hE)
    · have c_2 := zb_n0.mp c_2
      refine g_aload_n C 0 rfl d_Mo_tellDay_77 ?_
      refine g_get C 0 rfl rfl in_Mo 17 (by decide) kw_1037 rfl d_Mo_tellDay_78 ?_
      refine g_iload C 7 rfl d_Mo_tellDay_81 ?_
      refine g_iald C 3 rfl (vp_in_nI (by omega) (by decide)) d_Mo_tellDay_83 ?_
      refine g_eq (st1 := [.int (ldf i)]) (congrArg (fun z => Value.int z :: []) (congrArg ldf (nI_clamp (by omega)))) rfl ?_
      refine g_iload_n C 2 rfl d_Mo_tellDay_84 ?_
      refine g_icmp_ne C d_Mo_tellDay_85 (fun c_3 => ?_) (fun c_3 => ?_)
      · skip
        refine g_iinc (v := nI (i + 1)) (lv1 := [(0, .ref h), (1, .int p0), (2, .int p1), (3, .int p2), (4, .int t.2.1), (5, .int t.2.2), (6, .int (nI f)), (7, .int (nI (i + 1)))]) C d_Mo_tellDay_219 7 rfl (nI_1 _) [1, 2, 3, 4, 5, 6, 7, 0] (by decide) rfl ?_
        refine g_goto C d_Mo_tellDay_222 ?_
        refine g_eq (X1 := [(h, .inr (13, [.ref r0, .ref r1, .ref r2, .int (nI n), .int dt, .ref r5, .ref r6, .int tp, .int sz, .int fk, .int fp, .int at1, .int en, .int tk, .int nu, .long nm, .ref r16, .ref r17, .ref r18, .ref r19, .ref r20, .ref r21, .ref r22, .ref r23, .int (nI q), .ref r25, .int wa, .ref r27, .ref r28, .ref r29, .ref r30, .ref r31, .int co, .ref r33, .ref r34, .ref r35, .ref r36, .ref r37, .ref r38, .ref r39, .ref r40, .int db])), (r1, .inl (g.2.1 0, 12, .inl sf)), (r16, .inl (g.2.1 0, 41, .inl lmf)), (r17, .inl (g.2.1 0, 820, .inl ldf)), (r18, .inl (g.2.1 0, 820, .inl lsf)), (r19, .inl (g.2.1 0, 820, .inl lwf)), (r20, .inl (g.2.1 0, 9840, .inl syf)), (r21, .inl (g.2.1 0, 41, .inl fdf)), (r22, .inl (g.2.1 0, 41, .inl gvf)), (r23, .inl (g.2.1 3, 820, .inl hgf)), (r25, .inl (g.2.1 0, 12, .inl (t.1, t.2.1, t.2.2).1))]) rfl rfl ?_
        refine g_lv (lv1 := [(0, .ref h), (1, .int p0), (2, .int p1), (3, .int p2), (4, .int (t.1, t.2.1, t.2.2).2.1), (5, .int (t.1, t.2.1, t.2.2).2.2), (6, .int (nI f)), (7, .int (nI (i + 1)))]) [0, 1, 2, 3, 4, 5, 6, 7] rfl ?_
        exact ih (i + 1) (t.1, t.2.1, t.2.2) (by omega) (by simpa [lsM, lnM, zb, c_2, c_3] using hE)
      · skip
        refine g_aload_n C 0 rfl d_Mo_tellDay_88 ?_
        refine g_get C 0 rfl rfl in_Mo 18 (by decide) kw_1038 rfl d_Mo_tellDay_89 ?_
        refine g_iload C 7 rfl d_Mo_tellDay_92 ?_
        refine g_iald C 4 rfl (vp_in_nI (by omega) (by decide)) d_Mo_tellDay_94 ?_
        refine g_eq (st1 := [.int (lsf i)]) (congrArg (fun z => Value.int z :: []) (congrArg lsf (nI_clamp (by omega)))) rfl ?_
        refine g_iload_n C 1 rfl d_Mo_tellDay_95 ?_
        refine g_icmp_eq C d_Mo_tellDay_96 (fun c_4 => ?_) (fun c_4 => ?_)
        · skip
          refine g_iconst (v := 0) C rfl d_Mo_tellDay_102 ?_
          refine g_istore (lv1 := [(0, .ref h), (1, .int p0), (2, .int p1), (3, .int p2), (4, .int t.2.1), (5, .int t.2.2), (6, .int (nI f)), (7, .int (nI i)), (8, .int 0)]) C d_Mo_tellDay_103 [1, 2, 3, 4, 5, 6, 7, 8, 0] (by decide) rfl ?_
          refine lp105 l g h r0 r1 r2 r5 r6 r16 r17 r18 r19 r20 r21 r22 r23 r25 r27 r28 r29 r30 r31 r33 r34 r35 r36 r37 r38 r39 r40 n q dt tp sz fk fp at1 en tk nu wa co db nm sf lmf ldf lsf lwf syf fdf gvf hgf lc p0 p1 p2 t.2.1 t.2.2 f i hn hq hl (by omega) C n 0 t.1 (by omega) ?_
          refine g_iload C 5 rfl d_Mo_tellDay_156 ?_
          refine g_if_ne C d_Mo_tellDay_158 (fun c_5 => ?_) (fun c_5 => ?_)
          · skip
            refine g_iconst (v := 1) C rfl d_Mo_tellDay_188 ?_
            refine g_goto C d_Mo_tellDay_189 ?_
            refine g_istore (lv1 := [(0, .ref h), (1, .int p0), (2, .int p1), (3, .int p2), (4, .int t.2.1), (5, .int 1), (6, .int (nI f)), (7, .int (nI i))]) C d_Mo_tellDay_193 [1, 2, 3, 4, 5, 0, 6, 7] (by decide) rfl ?_
            refine g_aload_n C 0 rfl d_Mo_tellDay_195 ?_
            refine g_get C 0 rfl rfl in_Mo 19 (by decide) kw_1039 rfl d_Mo_tellDay_196 ?_
            refine g_iload C 7 rfl d_Mo_tellDay_199 ?_
            refine g_iald C 5 rfl (vp_in_nI (by omega) (by decide)) d_Mo_tellDay_201 ?_
            refine g_eq (st1 := [.int (lwf i)]) (congrArg (fun z => Value.int z :: []) (congrArg lwf (nI_clamp (by omega)))) rfl ?_
            refine g_if_ge C d_Mo_tellDay_202 (fun c_6 => ?_) (fun c_6 => ?_)
            · skip
              refine g_aload_n C 0 rfl d_Mo_tellDay_210 ?_
              refine g_get C 0 rfl rfl in_Mo 19 (by decide) kw_1039 rfl d_Mo_tellDay_211 ?_
              refine g_iload C 7 rfl d_Mo_tellDay_214 ?_
              refine g_iald C 5 rfl (vp_in_nI (by omega) (by decide)) d_Mo_tellDay_216 ?_
              refine g_eq (st1 := [.int (lwf i)]) (congrArg (fun z => Value.int z :: []) (congrArg lwf (nI_clamp (by omega)))) rfl ?_
              refine g_istore (lv1 := [(0, .ref h), (1, .int p0), (2, .int p1), (3, .int p2), (4, .int (lwf i)), (5, .int 1), (6, .int (nI f)), (7, .int (nI i))]) C d_Mo_tellDay_217 [1, 2, 3, 4, 0, 5, 6, 7] (by decide) rfl ?_
              refine g_iinc (v := nI (i + 1)) (lv1 := [(0, .ref h), (1, .int p0), (2, .int p1), (3, .int p2), (4, .int (lwf i)), (5, .int 1), (6, .int (nI f)), (7, .int (nI (i + 1)))]) C d_Mo_tellDay_219 7 rfl (nI_1 _) [1, 2, 3, 4, 5, 6, 7, 0] (by decide) rfl ?_
              refine g_goto C d_Mo_tellDay_222 ?_
              refine g_eq (X1 := [(h, .inr (13, [.ref r0, .ref r1, .ref r2, .int (nI n), .int dt, .ref r5, .ref r6, .int tp, .int sz, .int fk, .int fp, .int at1, .int en, .int tk, .int nu, .long nm, .ref r16, .ref r17, .ref r18, .ref r19, .ref r20, .ref r21, .ref r22, .ref r23, .int (nI q), .ref r25, .int wa, .ref r27, .ref r28, .ref r29, .ref r30, .ref r31, .int co, .ref r33, .ref r34, .ref r35, .ref r36, .ref r37, .ref r38, .ref r39, .ref r40, .int db])), (r1, .inl (g.2.1 0, 12, .inl sf)), (r16, .inl (g.2.1 0, 41, .inl lmf)), (r17, .inl (g.2.1 0, 820, .inl ldf)), (r18, .inl (g.2.1 0, 820, .inl lsf)), (r19, .inl (g.2.1 0, 820, .inl lwf)), (r20, .inl (g.2.1 0, 9840, .inl syf)), (r21, .inl (g.2.1 0, 41, .inl fdf)), (r22, .inl (g.2.1 0, 41, .inl gvf)), (r23, .inl (g.2.1 3, 820, .inl hgf)), (r25, .inl (g.2.1 0, 12, .inl (hrM sf p0 (fun m => sayM (syf (12 * i + m)) (hgf i)) n 0 t.1, lwf i, 1).1))]) rfl rfl ?_
              refine g_lv (lv1 := [(0, .ref h), (1, .int p0), (2, .int p1), (3, .int p2), (4, .int (hrM sf p0 (fun m => sayM (syf (12 * i + m)) (hgf i)) n 0 t.1, lwf i, 1).2.1), (5, .int (hrM sf p0 (fun m => sayM (syf (12 * i + m)) (hgf i)) n 0 t.1, lwf i, 1).2.2), (6, .int (nI f)), (7, .int (nI (i + 1)))]) [0, 1, 2, 3, 4, 5, 6, 7] rfl ?_
              exact ih (i + 1) (hrM sf p0 (fun m => sayM (syf (12 * i + m)) (hgf i)) n 0 t.1, lwf i, 1) (by omega) (by simpa [lsM, lnM, zb, c_2, eq_true c_3, eq_true c_4, c_5, c_6, Int32.not_lt.mpr c_6] using hE)
            · skip
              refine g_iload C 4 rfl d_Mo_tellDay_205 ?_
              refine g_goto C d_Mo_tellDay_207 ?_
              refine g_istore (lv1 := [(0, .ref h), (1, .int p0), (2, .int p1), (3, .int p2), (4, .int t.2.1), (5, .int 1), (6, .int (nI f)), (7, .int (nI i))]) C d_Mo_tellDay_217 [1, 2, 3, 4, 0, 5, 6, 7] (by decide) rfl ?_
              refine g_iinc (v := nI (i + 1)) (lv1 := [(0, .ref h), (1, .int p0), (2, .int p1), (3, .int p2), (4, .int t.2.1), (5, .int 1), (6, .int (nI f)), (7, .int (nI (i + 1)))]) C d_Mo_tellDay_219 7 rfl (nI_1 _) [1, 2, 3, 4, 5, 6, 7, 0] (by decide) rfl ?_
              refine g_goto C d_Mo_tellDay_222 ?_
              refine g_eq (X1 := [(h, .inr (13, [.ref r0, .ref r1, .ref r2, .int (nI n), .int dt, .ref r5, .ref r6, .int tp, .int sz, .int fk, .int fp, .int at1, .int en, .int tk, .int nu, .long nm, .ref r16, .ref r17, .ref r18, .ref r19, .ref r20, .ref r21, .ref r22, .ref r23, .int (nI q), .ref r25, .int wa, .ref r27, .ref r28, .ref r29, .ref r30, .ref r31, .int co, .ref r33, .ref r34, .ref r35, .ref r36, .ref r37, .ref r38, .ref r39, .ref r40, .int db])), (r1, .inl (g.2.1 0, 12, .inl sf)), (r16, .inl (g.2.1 0, 41, .inl lmf)), (r17, .inl (g.2.1 0, 820, .inl ldf)), (r18, .inl (g.2.1 0, 820, .inl lsf)), (r19, .inl (g.2.1 0, 820, .inl lwf)), (r20, .inl (g.2.1 0, 9840, .inl syf)), (r21, .inl (g.2.1 0, 41, .inl fdf)), (r22, .inl (g.2.1 0, 41, .inl gvf)), (r23, .inl (g.2.1 3, 820, .inl hgf)), (r25, .inl (g.2.1 0, 12, .inl (hrM sf p0 (fun m => sayM (syf (12 * i + m)) (hgf i)) n 0 t.1, t.2.1, 1).1))]) rfl rfl ?_
              refine g_lv (lv1 := [(0, .ref h), (1, .int p0), (2, .int p1), (3, .int p2), (4, .int (hrM sf p0 (fun m => sayM (syf (12 * i + m)) (hgf i)) n 0 t.1, t.2.1, 1).2.1), (5, .int (hrM sf p0 (fun m => sayM (syf (12 * i + m)) (hgf i)) n 0 t.1, t.2.1, 1).2.2), (6, .int (nI f)), (7, .int (nI (i + 1)))]) [0, 1, 2, 3, 4, 5, 6, 7] rfl ?_
              exact ih (i + 1) (hrM sf p0 (fun m => sayM (syf (12 * i + m)) (hgf i)) n 0 t.1, t.2.1, 1) (by omega) (by simpa [lsM, lnM, zb, c_2, eq_true c_3, eq_true c_4, c_5, c_6, Int32.not_le.mp c_6] using hE)
          · skip
            refine g_iload C 4 rfl d_Mo_tellDay_161 ?_
            refine g_if_lt C d_Mo_tellDay_163 (fun c_7 => ?_) (fun c_7 => ?_)
            · skip
              refine g_iconst (v := 0) C rfl d_Mo_tellDay_192 ?_
              refine g_istore (lv1 := [(0, .ref h), (1, .int p0), (2, .int p1), (3, .int p2), (4, .int t.2.1), (5, .int 0), (6, .int (nI f)), (7, .int (nI i))]) C d_Mo_tellDay_193 [1, 2, 3, 4, 5, 0, 6, 7] (by decide) rfl ?_
              refine g_aload_n C 0 rfl d_Mo_tellDay_195 ?_
              refine g_get C 0 rfl rfl in_Mo 19 (by decide) kw_1039 rfl d_Mo_tellDay_196 ?_
              refine g_iload C 7 rfl d_Mo_tellDay_199 ?_
              refine g_iald C 5 rfl (vp_in_nI (by omega) (by decide)) d_Mo_tellDay_201 ?_
              refine g_eq (st1 := [.int (lwf i)]) (congrArg (fun z => Value.int z :: []) (congrArg lwf (nI_clamp (by omega)))) rfl ?_
              refine g_if_ge C d_Mo_tellDay_202 (fun c_8 => ?_) (fun c_8 => ?_)
              · skip
                refine g_aload_n C 0 rfl d_Mo_tellDay_210 ?_
                refine g_get C 0 rfl rfl in_Mo 19 (by decide) kw_1039 rfl d_Mo_tellDay_211 ?_
                refine g_iload C 7 rfl d_Mo_tellDay_214 ?_
                refine g_iald C 5 rfl (vp_in_nI (by omega) (by decide)) d_Mo_tellDay_216 ?_
                refine g_eq (st1 := [.int (lwf i)]) (congrArg (fun z => Value.int z :: []) (congrArg lwf (nI_clamp (by omega)))) rfl ?_
                refine g_istore (lv1 := [(0, .ref h), (1, .int p0), (2, .int p1), (3, .int p2), (4, .int (lwf i)), (5, .int 0), (6, .int (nI f)), (7, .int (nI i))]) C d_Mo_tellDay_217 [1, 2, 3, 4, 0, 5, 6, 7] (by decide) rfl ?_
                refine g_iinc (v := nI (i + 1)) (lv1 := [(0, .ref h), (1, .int p0), (2, .int p1), (3, .int p2), (4, .int (lwf i)), (5, .int 0), (6, .int (nI f)), (7, .int (nI (i + 1)))]) C d_Mo_tellDay_219 7 rfl (nI_1 _) [1, 2, 3, 4, 5, 6, 7, 0] (by decide) rfl ?_
                refine g_goto C d_Mo_tellDay_222 ?_
                refine g_eq (X1 := [(h, .inr (13, [.ref r0, .ref r1, .ref r2, .int (nI n), .int dt, .ref r5, .ref r6, .int tp, .int sz, .int fk, .int fp, .int at1, .int en, .int tk, .int nu, .long nm, .ref r16, .ref r17, .ref r18, .ref r19, .ref r20, .ref r21, .ref r22, .ref r23, .int (nI q), .ref r25, .int wa, .ref r27, .ref r28, .ref r29, .ref r30, .ref r31, .int co, .ref r33, .ref r34, .ref r35, .ref r36, .ref r37, .ref r38, .ref r39, .ref r40, .int db])), (r1, .inl (g.2.1 0, 12, .inl sf)), (r16, .inl (g.2.1 0, 41, .inl lmf)), (r17, .inl (g.2.1 0, 820, .inl ldf)), (r18, .inl (g.2.1 0, 820, .inl lsf)), (r19, .inl (g.2.1 0, 820, .inl lwf)), (r20, .inl (g.2.1 0, 9840, .inl syf)), (r21, .inl (g.2.1 0, 41, .inl fdf)), (r22, .inl (g.2.1 0, 41, .inl gvf)), (r23, .inl (g.2.1 3, 820, .inl hgf)), (r25, .inl (g.2.1 0, 12, .inl (hrM sf p0 (fun m => sayM (syf (12 * i + m)) (hgf i)) n 0 t.1, lwf i, 0).1))]) rfl rfl ?_
                refine g_lv (lv1 := [(0, .ref h), (1, .int p0), (2, .int p1), (3, .int p2), (4, .int (hrM sf p0 (fun m => sayM (syf (12 * i + m)) (hgf i)) n 0 t.1, lwf i, 0).2.1), (5, .int (hrM sf p0 (fun m => sayM (syf (12 * i + m)) (hgf i)) n 0 t.1, lwf i, 0).2.2), (6, .int (nI f)), (7, .int (nI (i + 1)))]) [0, 1, 2, 3, 4, 5, 6, 7] rfl ?_
                exact ih (i + 1) (hrM sf p0 (fun m => sayM (syf (12 * i + m)) (hgf i)) n 0 t.1, lwf i, 0) (by omega) (by simpa [lsM, lnM, zb, c_2, eq_true c_3, eq_true c_4, eq_true c_5, c_7, Int32.not_le.mpr c_7, c_8, Int32.not_lt.mpr c_8] using hE)
              · skip
                refine g_iload C 4 rfl d_Mo_tellDay_205 ?_
                refine g_goto C d_Mo_tellDay_207 ?_
                refine g_istore (lv1 := [(0, .ref h), (1, .int p0), (2, .int p1), (3, .int p2), (4, .int t.2.1), (5, .int 0), (6, .int (nI f)), (7, .int (nI i))]) C d_Mo_tellDay_217 [1, 2, 3, 4, 0, 5, 6, 7] (by decide) rfl ?_
                refine g_iinc (v := nI (i + 1)) (lv1 := [(0, .ref h), (1, .int p0), (2, .int p1), (3, .int p2), (4, .int t.2.1), (5, .int 0), (6, .int (nI f)), (7, .int (nI (i + 1)))]) C d_Mo_tellDay_219 7 rfl (nI_1 _) [1, 2, 3, 4, 5, 6, 7, 0] (by decide) rfl ?_
                refine g_goto C d_Mo_tellDay_222 ?_
                refine g_eq (X1 := [(h, .inr (13, [.ref r0, .ref r1, .ref r2, .int (nI n), .int dt, .ref r5, .ref r6, .int tp, .int sz, .int fk, .int fp, .int at1, .int en, .int tk, .int nu, .long nm, .ref r16, .ref r17, .ref r18, .ref r19, .ref r20, .ref r21, .ref r22, .ref r23, .int (nI q), .ref r25, .int wa, .ref r27, .ref r28, .ref r29, .ref r30, .ref r31, .int co, .ref r33, .ref r34, .ref r35, .ref r36, .ref r37, .ref r38, .ref r39, .ref r40, .int db])), (r1, .inl (g.2.1 0, 12, .inl sf)), (r16, .inl (g.2.1 0, 41, .inl lmf)), (r17, .inl (g.2.1 0, 820, .inl ldf)), (r18, .inl (g.2.1 0, 820, .inl lsf)), (r19, .inl (g.2.1 0, 820, .inl lwf)), (r20, .inl (g.2.1 0, 9840, .inl syf)), (r21, .inl (g.2.1 0, 41, .inl fdf)), (r22, .inl (g.2.1 0, 41, .inl gvf)), (r23, .inl (g.2.1 3, 820, .inl hgf)), (r25, .inl (g.2.1 0, 12, .inl (hrM sf p0 (fun m => sayM (syf (12 * i + m)) (hgf i)) n 0 t.1, t.2.1, 0).1))]) rfl rfl ?_
                refine g_lv (lv1 := [(0, .ref h), (1, .int p0), (2, .int p1), (3, .int p2), (4, .int (hrM sf p0 (fun m => sayM (syf (12 * i + m)) (hgf i)) n 0 t.1, t.2.1, 0).2.1), (5, .int (hrM sf p0 (fun m => sayM (syf (12 * i + m)) (hgf i)) n 0 t.1, t.2.1, 0).2.2), (6, .int (nI f)), (7, .int (nI (i + 1)))]) [0, 1, 2, 3, 4, 5, 6, 7] rfl ?_
                exact ih (i + 1) (hrM sf p0 (fun m => sayM (syf (12 * i + m)) (hgf i)) n 0 t.1, t.2.1, 0) (by omega) (by simpa [lsM, lnM, zb, c_2, eq_true c_3, eq_true c_4, eq_true c_5, c_7, Int32.not_le.mpr c_7, c_8, Int32.not_le.mp c_8] using hE)
            · skip
              refine g_aload_n C 0 rfl d_Mo_tellDay_166 ?_
              refine g_get C 0 rfl rfl in_Mo 19 (by decide) kw_1039 rfl d_Mo_tellDay_167 ?_
              refine g_iload C 7 rfl d_Mo_tellDay_170 ?_
              refine g_iald C 5 rfl (vp_in_nI (by omega) (by decide)) d_Mo_tellDay_172 ?_
              refine g_eq (st1 := [.int (lwf i)]) (congrArg (fun z => Value.int z :: []) (congrArg lwf (nI_clamp (by omega)))) rfl ?_
              refine g_if_lt C d_Mo_tellDay_173 (fun c_9 => ?_) (fun c_9 => ?_)
              · skip
                refine g_iconst (v := 0) C rfl d_Mo_tellDay_192 ?_
                refine g_istore (lv1 := [(0, .ref h), (1, .int p0), (2, .int p1), (3, .int p2), (4, .int t.2.1), (5, .int 0), (6, .int (nI f)), (7, .int (nI i))]) C d_Mo_tellDay_193 [1, 2, 3, 4, 5, 0, 6, 7] (by decide) rfl ?_
                refine g_aload_n C 0 rfl d_Mo_tellDay_195 ?_
                refine g_get C 0 rfl rfl in_Mo 19 (by decide) kw_1039 rfl d_Mo_tellDay_196 ?_
                refine g_iload C 7 rfl d_Mo_tellDay_199 ?_
                refine g_iald C 5 rfl (vp_in_nI (by omega) (by decide)) d_Mo_tellDay_201 ?_
                refine g_eq (st1 := [.int (lwf i)]) (congrArg (fun z => Value.int z :: []) (congrArg lwf (nI_clamp (by omega)))) rfl ?_
                refine g_if_ge C d_Mo_tellDay_202 (fun c_10 => absurd c_10 (Int32.not_le.mpr c_9)) (fun _ => ?_)
                refine g_iload C 4 rfl d_Mo_tellDay_205 ?_
                refine g_goto C d_Mo_tellDay_207 ?_
                refine g_istore (lv1 := [(0, .ref h), (1, .int p0), (2, .int p1), (3, .int p2), (4, .int t.2.1), (5, .int 0), (6, .int (nI f)), (7, .int (nI i))]) C d_Mo_tellDay_217 [1, 2, 3, 4, 0, 5, 6, 7] (by decide) rfl ?_
                refine g_iinc (v := nI (i + 1)) (lv1 := [(0, .ref h), (1, .int p0), (2, .int p1), (3, .int p2), (4, .int t.2.1), (5, .int 0), (6, .int (nI f)), (7, .int (nI (i + 1)))]) C d_Mo_tellDay_219 7 rfl (nI_1 _) [1, 2, 3, 4, 5, 6, 7, 0] (by decide) rfl ?_
                refine g_goto C d_Mo_tellDay_222 ?_
                refine g_eq (X1 := [(h, .inr (13, [.ref r0, .ref r1, .ref r2, .int (nI n), .int dt, .ref r5, .ref r6, .int tp, .int sz, .int fk, .int fp, .int at1, .int en, .int tk, .int nu, .long nm, .ref r16, .ref r17, .ref r18, .ref r19, .ref r20, .ref r21, .ref r22, .ref r23, .int (nI q), .ref r25, .int wa, .ref r27, .ref r28, .ref r29, .ref r30, .ref r31, .int co, .ref r33, .ref r34, .ref r35, .ref r36, .ref r37, .ref r38, .ref r39, .ref r40, .int db])), (r1, .inl (g.2.1 0, 12, .inl sf)), (r16, .inl (g.2.1 0, 41, .inl lmf)), (r17, .inl (g.2.1 0, 820, .inl ldf)), (r18, .inl (g.2.1 0, 820, .inl lsf)), (r19, .inl (g.2.1 0, 820, .inl lwf)), (r20, .inl (g.2.1 0, 9840, .inl syf)), (r21, .inl (g.2.1 0, 41, .inl fdf)), (r22, .inl (g.2.1 0, 41, .inl gvf)), (r23, .inl (g.2.1 3, 820, .inl hgf)), (r25, .inl (g.2.1 0, 12, .inl (hrM sf p0 (fun m => sayM (syf (12 * i + m)) (hgf i)) n 0 t.1, t.2.1, 0).1))]) rfl rfl ?_
                refine g_lv (lv1 := [(0, .ref h), (1, .int p0), (2, .int p1), (3, .int p2), (4, .int (hrM sf p0 (fun m => sayM (syf (12 * i + m)) (hgf i)) n 0 t.1, t.2.1, 0).2.1), (5, .int (hrM sf p0 (fun m => sayM (syf (12 * i + m)) (hgf i)) n 0 t.1, t.2.1, 0).2.2), (6, .int (nI f)), (7, .int (nI (i + 1)))]) [0, 1, 2, 3, 4, 5, 6, 7] rfl ?_
                exact ih (i + 1) (hrM sf p0 (fun m => sayM (syf (12 * i + m)) (hgf i)) n 0 t.1, t.2.1, 0) (by omega) (by simpa [lsM, lnM, zb, c_2, eq_true c_3, eq_true c_4, eq_true c_5, c_7, Int32.not_lt.mp c_7, c_9, Int32.not_le.mpr c_9] using hE)
              · skip
                refine g_aload_n C 0 rfl d_Mo_tellDay_176 ?_
                refine g_get C 0 rfl rfl in_Mo 19 (by decide) kw_1039 rfl d_Mo_tellDay_177 ?_
                refine g_iload C 7 rfl d_Mo_tellDay_180 ?_
                refine g_iald C 5 rfl (vp_in_nI (by omega) (by decide)) d_Mo_tellDay_182 ?_
                refine g_eq (st1 := [.int (lwf i)]) (congrArg (fun z => Value.int z :: []) (congrArg lwf (nI_clamp (by omega)))) rfl ?_
                refine g_iload C 4 rfl d_Mo_tellDay_183 ?_
                refine g_icmp_eq C d_Mo_tellDay_185 (fun c_11 => ?_) (fun c_11 => ?_)
                · skip
                  refine g_iconst (v := 0) C rfl d_Mo_tellDay_192 ?_
                  refine g_istore (lv1 := [(0, .ref h), (1, .int p0), (2, .int p1), (3, .int p2), (4, .int t.2.1), (5, .int 0), (6, .int (nI f)), (7, .int (nI i))]) C d_Mo_tellDay_193 [1, 2, 3, 4, 5, 0, 6, 7] (by decide) rfl ?_
                  refine g_aload_n C 0 rfl d_Mo_tellDay_195 ?_
                  refine g_get C 0 rfl rfl in_Mo 19 (by decide) kw_1039 rfl d_Mo_tellDay_196 ?_
                  refine g_iload C 7 rfl d_Mo_tellDay_199 ?_
                  refine g_iald C 5 rfl (vp_in_nI (by omega) (by decide)) d_Mo_tellDay_201 ?_
                  refine g_eq (st1 := [.int (lwf i)]) (congrArg (fun z => Value.int z :: []) (congrArg lwf (nI_clamp (by omega)))) rfl ?_
                  refine g_if_ge C d_Mo_tellDay_202 (fun _ => ?_) (fun c_12 => absurd (Int32.not_lt.mp c_9) c_12)
                  refine g_aload_n C 0 rfl d_Mo_tellDay_210 ?_
                  refine g_get C 0 rfl rfl in_Mo 19 (by decide) kw_1039 rfl d_Mo_tellDay_211 ?_
                  refine g_iload C 7 rfl d_Mo_tellDay_214 ?_
                  refine g_iald C 5 rfl (vp_in_nI (by omega) (by decide)) d_Mo_tellDay_216 ?_
                  refine g_eq (st1 := [.int (lwf i)]) (congrArg (fun z => Value.int z :: []) (congrArg lwf (nI_clamp (by omega)))) rfl ?_
                  refine g_istore (lv1 := [(0, .ref h), (1, .int p0), (2, .int p1), (3, .int p2), (4, .int (lwf i)), (5, .int 0), (6, .int (nI f)), (7, .int (nI i))]) C d_Mo_tellDay_217 [1, 2, 3, 4, 0, 5, 6, 7] (by decide) rfl ?_
                  refine g_iinc (v := nI (i + 1)) (lv1 := [(0, .ref h), (1, .int p0), (2, .int p1), (3, .int p2), (4, .int (lwf i)), (5, .int 0), (6, .int (nI f)), (7, .int (nI (i + 1)))]) C d_Mo_tellDay_219 7 rfl (nI_1 _) [1, 2, 3, 4, 5, 6, 7, 0] (by decide) rfl ?_
                  refine g_goto C d_Mo_tellDay_222 ?_
                  refine g_eq (X1 := [(h, .inr (13, [.ref r0, .ref r1, .ref r2, .int (nI n), .int dt, .ref r5, .ref r6, .int tp, .int sz, .int fk, .int fp, .int at1, .int en, .int tk, .int nu, .long nm, .ref r16, .ref r17, .ref r18, .ref r19, .ref r20, .ref r21, .ref r22, .ref r23, .int (nI q), .ref r25, .int wa, .ref r27, .ref r28, .ref r29, .ref r30, .ref r31, .int co, .ref r33, .ref r34, .ref r35, .ref r36, .ref r37, .ref r38, .ref r39, .ref r40, .int db])), (r1, .inl (g.2.1 0, 12, .inl sf)), (r16, .inl (g.2.1 0, 41, .inl lmf)), (r17, .inl (g.2.1 0, 820, .inl ldf)), (r18, .inl (g.2.1 0, 820, .inl lsf)), (r19, .inl (g.2.1 0, 820, .inl lwf)), (r20, .inl (g.2.1 0, 9840, .inl syf)), (r21, .inl (g.2.1 0, 41, .inl fdf)), (r22, .inl (g.2.1 0, 41, .inl gvf)), (r23, .inl (g.2.1 3, 820, .inl hgf)), (r25, .inl (g.2.1 0, 12, .inl (hrM sf p0 (fun m => sayM (syf (12 * i + m)) (hgf i)) n 0 t.1, lwf i, 0).1))]) rfl rfl ?_
                  refine g_lv (lv1 := [(0, .ref h), (1, .int p0), (2, .int p1), (3, .int p2), (4, .int (hrM sf p0 (fun m => sayM (syf (12 * i + m)) (hgf i)) n 0 t.1, lwf i, 0).2.1), (5, .int (hrM sf p0 (fun m => sayM (syf (12 * i + m)) (hgf i)) n 0 t.1, lwf i, 0).2.2), (6, .int (nI f)), (7, .int (nI (i + 1)))]) [0, 1, 2, 3, 4, 5, 6, 7] rfl ?_
                  exact ih (i + 1) (hrM sf p0 (fun m => sayM (syf (12 * i + m)) (hgf i)) n 0 t.1, lwf i, 0) (by omega) (by simpa [lsM, lnM, zb, c_2, eq_true c_3, eq_true c_4, eq_true c_5, c_7, Int32.not_lt.mp c_7, c_9, Int32.not_lt.mp c_9, eq_true c_11] using hE)
                · skip
                  refine g_iconst (v := 1) C rfl d_Mo_tellDay_188 ?_
                  refine g_goto C d_Mo_tellDay_189 ?_
                  refine g_istore (lv1 := [(0, .ref h), (1, .int p0), (2, .int p1), (3, .int p2), (4, .int t.2.1), (5, .int 1), (6, .int (nI f)), (7, .int (nI i))]) C d_Mo_tellDay_193 [1, 2, 3, 4, 5, 0, 6, 7] (by decide) rfl ?_
                  refine g_aload_n C 0 rfl d_Mo_tellDay_195 ?_
                  refine g_get C 0 rfl rfl in_Mo 19 (by decide) kw_1039 rfl d_Mo_tellDay_196 ?_
                  refine g_iload C 7 rfl d_Mo_tellDay_199 ?_
                  refine g_iald C 5 rfl (vp_in_nI (by omega) (by decide)) d_Mo_tellDay_201 ?_
                  refine g_eq (st1 := [.int (lwf i)]) (congrArg (fun z => Value.int z :: []) (congrArg lwf (nI_clamp (by omega)))) rfl ?_
                  refine g_if_ge C d_Mo_tellDay_202 (fun _ => ?_) (fun c_13 => absurd (Int32.not_lt.mp c_9) c_13)
                  refine g_aload_n C 0 rfl d_Mo_tellDay_210 ?_
                  refine g_get C 0 rfl rfl in_Mo 19 (by decide) kw_1039 rfl d_Mo_tellDay_211 ?_
                  refine g_iload C 7 rfl d_Mo_tellDay_214 ?_
                  refine g_iald C 5 rfl (vp_in_nI (by omega) (by decide)) d_Mo_tellDay_216 ?_
                  refine g_eq (st1 := [.int (lwf i)]) (congrArg (fun z => Value.int z :: []) (congrArg lwf (nI_clamp (by omega)))) rfl ?_
                  refine g_istore (lv1 := [(0, .ref h), (1, .int p0), (2, .int p1), (3, .int p2), (4, .int (lwf i)), (5, .int 1), (6, .int (nI f)), (7, .int (nI i))]) C d_Mo_tellDay_217 [1, 2, 3, 4, 0, 5, 6, 7] (by decide) rfl ?_
                  refine g_iinc (v := nI (i + 1)) (lv1 := [(0, .ref h), (1, .int p0), (2, .int p1), (3, .int p2), (4, .int (lwf i)), (5, .int 1), (6, .int (nI f)), (7, .int (nI (i + 1)))]) C d_Mo_tellDay_219 7 rfl (nI_1 _) [1, 2, 3, 4, 5, 6, 7, 0] (by decide) rfl ?_
                  refine g_goto C d_Mo_tellDay_222 ?_
                  refine g_eq (X1 := [(h, .inr (13, [.ref r0, .ref r1, .ref r2, .int (nI n), .int dt, .ref r5, .ref r6, .int tp, .int sz, .int fk, .int fp, .int at1, .int en, .int tk, .int nu, .long nm, .ref r16, .ref r17, .ref r18, .ref r19, .ref r20, .ref r21, .ref r22, .ref r23, .int (nI q), .ref r25, .int wa, .ref r27, .ref r28, .ref r29, .ref r30, .ref r31, .int co, .ref r33, .ref r34, .ref r35, .ref r36, .ref r37, .ref r38, .ref r39, .ref r40, .int db])), (r1, .inl (g.2.1 0, 12, .inl sf)), (r16, .inl (g.2.1 0, 41, .inl lmf)), (r17, .inl (g.2.1 0, 820, .inl ldf)), (r18, .inl (g.2.1 0, 820, .inl lsf)), (r19, .inl (g.2.1 0, 820, .inl lwf)), (r20, .inl (g.2.1 0, 9840, .inl syf)), (r21, .inl (g.2.1 0, 41, .inl fdf)), (r22, .inl (g.2.1 0, 41, .inl gvf)), (r23, .inl (g.2.1 3, 820, .inl hgf)), (r25, .inl (g.2.1 0, 12, .inl (hrM sf p0 (fun m => sayM (syf (12 * i + m)) (hgf i)) n 0 t.1, lwf i, 1).1))]) rfl rfl ?_
                  refine g_lv (lv1 := [(0, .ref h), (1, .int p0), (2, .int p1), (3, .int p2), (4, .int (hrM sf p0 (fun m => sayM (syf (12 * i + m)) (hgf i)) n 0 t.1, lwf i, 1).2.1), (5, .int (hrM sf p0 (fun m => sayM (syf (12 * i + m)) (hgf i)) n 0 t.1, lwf i, 1).2.2), (6, .int (nI f)), (7, .int (nI (i + 1)))]) [0, 1, 2, 3, 4, 5, 6, 7] rfl ?_
                  exact ih (i + 1) (hrM sf p0 (fun m => sayM (syf (12 * i + m)) (hgf i)) n 0 t.1, lwf i, 1) (by omega) (by simpa [lsM, lnM, zb, c_2, eq_true c_3, eq_true c_4, eq_true c_5, c_7, Int32.not_lt.mp c_7, c_9, Int32.not_lt.mp c_9, c_11] using hE)
        · skip
          refine g_goto C d_Mo_tellDay_99 ?_
          refine g_iinc (v := nI (i + 1)) (lv1 := [(0, .ref h), (1, .int p0), (2, .int p1), (3, .int p2), (4, .int t.2.1), (5, .int t.2.2), (6, .int (nI f)), (7, .int (nI (i + 1)))]) C d_Mo_tellDay_219 7 rfl (nI_1 _) [1, 2, 3, 4, 5, 6, 7, 0] (by decide) rfl ?_
          refine g_goto C d_Mo_tellDay_222 ?_
          refine g_eq (X1 := [(h, .inr (13, [.ref r0, .ref r1, .ref r2, .int (nI n), .int dt, .ref r5, .ref r6, .int tp, .int sz, .int fk, .int fp, .int at1, .int en, .int tk, .int nu, .long nm, .ref r16, .ref r17, .ref r18, .ref r19, .ref r20, .ref r21, .ref r22, .ref r23, .int (nI q), .ref r25, .int wa, .ref r27, .ref r28, .ref r29, .ref r30, .ref r31, .int co, .ref r33, .ref r34, .ref r35, .ref r36, .ref r37, .ref r38, .ref r39, .ref r40, .int db])), (r1, .inl (g.2.1 0, 12, .inl sf)), (r16, .inl (g.2.1 0, 41, .inl lmf)), (r17, .inl (g.2.1 0, 820, .inl ldf)), (r18, .inl (g.2.1 0, 820, .inl lsf)), (r19, .inl (g.2.1 0, 820, .inl lwf)), (r20, .inl (g.2.1 0, 9840, .inl syf)), (r21, .inl (g.2.1 0, 41, .inl fdf)), (r22, .inl (g.2.1 0, 41, .inl gvf)), (r23, .inl (g.2.1 3, 820, .inl hgf)), (r25, .inl (g.2.1 0, 12, .inl (t.1, t.2.1, t.2.2).1))]) rfl rfl ?_
          refine g_lv (lv1 := [(0, .ref h), (1, .int p0), (2, .int p1), (3, .int p2), (4, .int (t.1, t.2.1, t.2.2).2.1), (5, .int (t.1, t.2.1, t.2.2).2.2), (6, .int (nI f)), (7, .int (nI (i + 1)))]) [0, 1, 2, 3, 4, 5, 6, 7] rfl ?_
          exact ih (i + 1) (t.1, t.2.1, t.2.2) (by omega) (by simpa [lsM, lnM, zb, c_2, eq_true c_3, c_4] using hE)

set_option maxHeartbeats 4000000 in
set_option maxRecDepth 100000 in
theorem lp33 (l : Launch) (g : Gx) {κ : Kx} {E : Ex} {P : va_W} (h r0 r1 r2 r5 r6 r16 r17 r18 r19 r20 r21 r22 r23 r25 r27 r28 r29 r30 r31 r33 r34 r35 r36 r37 r38 r39 r40 n q : Nat) (dt tp sz fk fp at1 en tk nu wa co db : Int32) (nm : Int64) (sf lmf ldf lsf lwf syf fdf gvf hgf : Nat → Int32) (lc : Nat → Nat) (p0 p1 p2 : Int32) (hn : n ≤ 12) (hq : q ≤ 40) (hl : ∀ i, i < q → lmf i = nI (lc i) ∧ lc i ≤ 20) (C : zC κ l g ({ frames := 1, cells := 0, slots := 0, locals := 25 }) b_Mo_tellDay 9 "TombLaneModel" "tellDay" (none : Option FieldType) E) : ∀ (k : Nat) (f : Nat) (t : DS), (f + k = q) → (G κ 9 0 0 231 [(0, .ref h), (1, .int p0), (2, .int p1), (3, .int p2), (4, .int (fsM sf ldf lsf lwf syf hgf fdf gvf lc n p0 p1 p2 k f t).2.1), (5, .int (fsM sf ldf lsf lwf syf hgf fdf gvf lc n p0 p1 p2 k f t).2.2)] [] [(h, .inr (13, [.ref r0, .ref r1, .ref r2, .int (nI n), .int dt, .ref r5, .ref r6, .int tp, .int sz, .int fk, .int fp, .int at1, .int en, .int tk, .int nu, .long nm, .ref r16, .ref r17, .ref r18, .ref r19, .ref r20, .ref r21, .ref r22, .ref r23, .int (nI q), .ref r25, .int wa, .ref r27, .ref r28, .ref r29, .ref r30, .ref r31, .int co, .ref r33, .ref r34, .ref r35, .ref r36, .ref r37, .ref r38, .ref r39, .ref r40, .int db])), (r1, .inl (g.2.1 0, 12, .inl sf)), (r16, .inl (g.2.1 0, 41, .inl lmf)), (r17, .inl (g.2.1 0, 820, .inl ldf)), (r18, .inl (g.2.1 0, 820, .inl lsf)), (r19, .inl (g.2.1 0, 820, .inl lwf)), (r20, .inl (g.2.1 0, 9840, .inl syf)), (r21, .inl (g.2.1 0, 41, .inl fdf)), (r22, .inl (g.2.1 0, 41, .inl gvf)), (r23, .inl (g.2.1 3, 820, .inl hgf)), (r25, .inl (g.2.1 0, 12, .inl (fsM sf ldf lsf lwf syf hgf fdf gvf lc n p0 p1 p2 k f t).1))] P) → G κ 9 0 0 33 [(0, .ref h), (1, .int p0), (2, .int p1), (3, .int p2), (4, .int t.2.1), (5, .int t.2.2), (6, .int (nI f))] [] [(h, .inr (13, [.ref r0, .ref r1, .ref r2, .int (nI n), .int dt, .ref r5, .ref r6, .int tp, .int sz, .int fk, .int fp, .int at1, .int en, .int tk, .int nu, .long nm, .ref r16, .ref r17, .ref r18, .ref r19, .ref r20, .ref r21, .ref r22, .ref r23, .int (nI q), .ref r25, .int wa, .ref r27, .ref r28, .ref r29, .ref r30, .ref r31, .int co, .ref r33, .ref r34, .ref r35, .ref r36, .ref r37, .ref r38, .ref r39, .ref r40, .int db])), (r1, .inl (g.2.1 0, 12, .inl sf)), (r16, .inl (g.2.1 0, 41, .inl lmf)), (r17, .inl (g.2.1 0, 820, .inl ldf)), (r18, .inl (g.2.1 0, 820, .inl lsf)), (r19, .inl (g.2.1 0, 820, .inl lwf)), (r20, .inl (g.2.1 0, 9840, .inl syf)), (r21, .inl (g.2.1 0, 41, .inl fdf)), (r22, .inl (g.2.1 0, 41, .inl gvf)), (r23, .inl (g.2.1 3, 820, .inl hgf)), (r25, .inl (g.2.1 0, 12, .inl t.1))] P := by
  intro k
  induction k with
  | zero =>
    intro f t hi hE
    refine g_iload C 6 rfl d_Mo_tellDay_33 ?_
    refine g_aload_n C 0 rfl d_Mo_tellDay_35 ?_
    refine g_get C 0 rfl rfl in_Mo 24 (by decide) kw_1044 rfl d_Mo_tellDay_36 ?_
    refine g_icmp_ge C d_Mo_tellDay_39 (fun _ => ?_) (fun c_1 => absurd (nI_le (by omega) (by omega)) c_1)
    refine g_lv (lv1 := [(0, .ref h), (1, .int p0), (2, .int p1), (3, .int p2), (4, .int t.2.1), (5, .int t.2.2)]) [0, 1, 2, 3, 4, 5] rfl ?_
    exact hE
  | succ k ih =>
    intro f t hi hE
    refine g_iload C 6 rfl d_Mo_tellDay_33 ?_
    refine g_aload_n C 0 rfl d_Mo_tellDay_35 ?_
    refine g_get C 0 rfl rfl in_Mo 24 (by decide) kw_1044 rfl d_Mo_tellDay_36 ?_
    refine g_icmp_ge C d_Mo_tellDay_39 (fun c_1 => absurd c_1 (nI_ge (by omega) (by omega))) (fun _ => ?_)
    refine g_bipush (v := 20) C rfl d_Mo_tellDay_42 ?_
    refine g_iload C 6 rfl d_Mo_tellDay_44 ?_
    refine g_imul C d_Mo_tellDay_46 ?_
    refine g_eq (st1 := [.int (nI (20 * f))]) (congrArg (fun z => Value.int z :: []) (pk_mul 20 f)) rfl ?_
    refine g_istore (lv1 := [(0, .ref h), (1, .int p0), (2, .int p1), (3, .int p2), (4, .int t.2.1), (5, .int t.2.2), (6, .int (nI f)), (7, .int (nI (20 * f)))]) C d_Mo_tellDay_47 [1, 2, 3, 4, 5, 6, 7, 0] (by decide) rfl ?_
    refine lp49 l g h r0 r1 r2 r5 r6 r16 r17 r18 r19 r20 r21 r22 r23 r25 r27 r28 r29 r30 r31 r33 r34 r35 r36 r37 r38 r39 r40 n q dt tp sz fk fp at1 en tk nu wa co db nm sf lmf ldf lsf lwf syf fdf gvf hgf lc p0 p1 p2 f hn hq hl (by omega) (hl f (by omega)) C (lc f) (20 * f) t (by omega) ?_
    refine g_iinc (v := nI (f + 1)) (lv1 := [(0, .ref h), (1, .int p0), (2, .int p1), (3, .int p2), (4, .int (lsM sf ldf lsf lwf syf hgf n p0 p1 (cntM (fdf f) (gvf f) p2) (lc f) (20 * f) t).2.1), (5, .int (lsM sf ldf lsf lwf syf hgf n p0 p1 (cntM (fdf f) (gvf f) p2) (lc f) (20 * f) t).2.2), (6, .int (nI (f + 1)))]) C d_Mo_tellDay_225 6 rfl (nI_1 _) [1, 2, 3, 4, 5, 6, 0] (by decide) rfl ?_
    refine g_goto C d_Mo_tellDay_228 ?_
    exact ih (f + 1) _ (by omega) hE

set_option maxHeartbeats 4000000 in
set_option maxRecDepth 100000 in
theorem lpz3 (l : Launch) (g : Gx) {κ : Kx} {E : Ex} {P : va_W} (h r0 r1 r2 r5 r6 r16 r17 r18 r19 r20 r21 r22 r23 r25 r27 r28 r29 r30 r31 r33 r34 r35 r36 r37 r38 r39 r40 n q : Nat) (dt tp sz fk fp at1 en tk nu wa co db : Int32) (nm : Int64) (sf lmf ldf lsf lwf syf fdf gvf hgf : Nat → Int32) (lc : Nat → Nat) (p0 p1 p2 : Int32) (ddf : Nat → Int32) (C : zC κ l g ({ frames := 1, cells := 0, slots := 0, locals := 25 }) b_Mo_tellDay 9 "TombLaneModel" "tellDay" (none : Option FieldType) E) : ∀ (k : Nat) (i : Nat), (i + k = 12) → (G κ 9 0 0 24 [(0, .ref h), (1, .int p0), (2, .int p1), (3, .int p2)] [] [(h, .inr (13, [.ref r0, .ref r1, .ref r2, .int (nI n), .int dt, .ref r5, .ref r6, .int tp, .int sz, .int fk, .int fp, .int at1, .int en, .int tk, .int nu, .long nm, .ref r16, .ref r17, .ref r18, .ref r19, .ref r20, .ref r21, .ref r22, .ref r23, .int (nI q), .ref r25, .int wa, .ref r27, .ref r28, .ref r29, .ref r30, .ref r31, .int co, .ref r33, .ref r34, .ref r35, .ref r36, .ref r37, .ref r38, .ref r39, .ref r40, .int db])), (r1, .inl (g.2.1 0, 12, .inl sf)), (r16, .inl (g.2.1 0, 41, .inl lmf)), (r17, .inl (g.2.1 0, 820, .inl ldf)), (r18, .inl (g.2.1 0, 820, .inl lsf)), (r19, .inl (g.2.1 0, 820, .inl lwf)), (r20, .inl (g.2.1 0, 9840, .inl syf)), (r21, .inl (g.2.1 0, 41, .inl fdf)), (r22, .inl (g.2.1 0, 41, .inl gvf)), (r23, .inl (g.2.1 3, 820, .inl hgf)), (r25, .inl (g.2.1 0, 12, .inl (fa_f0 ddf 12)))] P) → G κ 9 0 0 3 [(0, .ref h), (1, .int p0), (2, .int p1), (3, .int p2), (4, .int (nI i))] [] [(h, .inr (13, [.ref r0, .ref r1, .ref r2, .int (nI n), .int dt, .ref r5, .ref r6, .int tp, .int sz, .int fk, .int fp, .int at1, .int en, .int tk, .int nu, .long nm, .ref r16, .ref r17, .ref r18, .ref r19, .ref r20, .ref r21, .ref r22, .ref r23, .int (nI q), .ref r25, .int wa, .ref r27, .ref r28, .ref r29, .ref r30, .ref r31, .int co, .ref r33, .ref r34, .ref r35, .ref r36, .ref r37, .ref r38, .ref r39, .ref r40, .int db])), (r1, .inl (g.2.1 0, 12, .inl sf)), (r16, .inl (g.2.1 0, 41, .inl lmf)), (r17, .inl (g.2.1 0, 820, .inl ldf)), (r18, .inl (g.2.1 0, 820, .inl lsf)), (r19, .inl (g.2.1 0, 820, .inl lwf)), (r20, .inl (g.2.1 0, 9840, .inl syf)), (r21, .inl (g.2.1 0, 41, .inl fdf)), (r22, .inl (g.2.1 0, 41, .inl gvf)), (r23, .inl (g.2.1 3, 820, .inl hgf)), (r25, .inl (g.2.1 0, 12, .inl (fa_f0 ddf i)))] P := by
  intro k
  induction k with
  | zero =>
    intro i hi hE
    have e12 : i = 12 := by omega
    subst e12
    refine g_lv (lv1 := [(0, .ref h), (1, .int p0), (2, .int p1), (3, .int p2), (4, .int (nI 12))]) [0, 1, 2, 3, 4] rfl ?_
    refine g_iload C 4 rfl d_Mo_tellDay_3 ?_
    refine g_bipush (v := 12) C rfl d_Mo_tellDay_5 ?_
    refine g_icmp_ge C d_Mo_tellDay_7 (fun _ => ?_) (fun c_1 => absurd (nI_le (Nat.le_refl 12) (by decide)) c_1)
    refine g_lv (lv1 := [(0, .ref h), (1, .int p0), (2, .int p1), (3, .int p2)]) [0, 1, 2, 3] rfl ?_
    exact hE
  | succ k ih =>
    intro i hi hE
    refine g_iload C 4 rfl d_Mo_tellDay_3 ?_
    refine g_bipush (v := 12) C rfl d_Mo_tellDay_5 ?_
    refine g_icmp_ge C d_Mo_tellDay_7 (fun c_1 => absurd c_1 (nI_ge (b := 12) (by omega) (by decide))) (fun _ => ?_)
    refine g_aload_n C 0 rfl d_Mo_tellDay_10 ?_
    refine g_get C 0 rfl rfl in_Mo 25 (by decide) kw_1045 rfl d_Mo_tellDay_11 ?_
    refine g_iload C 4 rfl d_Mo_tellDay_14 ?_
    refine g_iconst (v := 0) C rfl d_Mo_tellDay_16 ?_
    refine g_iast (X1 := [(h, .inr (13, [.ref r0, .ref r1, .ref r2, .int (nI n), .int dt, .ref r5, .ref r6, .int tp, .int sz, .int fk, .int fp, .int at1, .int en, .int tk, .int nu, .long nm, .ref r16, .ref r17, .ref r18, .ref r19, .ref r20, .ref r21, .ref r22, .ref r23, .int (nI q), .ref r25, .int wa, .ref r27, .ref r28, .ref r29, .ref r30, .ref r31, .int co, .ref r33, .ref r34, .ref r35, .ref r36, .ref r37, .ref r38, .ref r39, .ref r40, .int db])), (r1, .inl (g.2.1 0, 12, .inl sf)), (r16, .inl (g.2.1 0, 41, .inl lmf)), (r17, .inl (g.2.1 0, 820, .inl ldf)), (r18, .inl (g.2.1 0, 820, .inl lsf)), (r19, .inl (g.2.1 0, 820, .inl lwf)), (r20, .inl (g.2.1 0, 9840, .inl syf)), (r21, .inl (g.2.1 0, 41, .inl fdf)), (r22, .inl (g.2.1 0, 41, .inl gvf)), (r23, .inl (g.2.1 3, 820, .inl hgf)), (r25, .inl (g.2.1 0, 12, .inl (upd (fa_f0 ddf i) (Int32.toNatClampNeg (nI i)) 0)))]) C 10 rfl (vp_in_nI (by omega) (by decide)) rfl d_Mo_tellDay_17 ?_
    refine g_eq (X1 := [(h, .inr (13, [.ref r0, .ref r1, .ref r2, .int (nI n), .int dt, .ref r5, .ref r6, .int tp, .int sz, .int fk, .int fp, .int at1, .int en, .int tk, .int nu, .long nm, .ref r16, .ref r17, .ref r18, .ref r19, .ref r20, .ref r21, .ref r22, .ref r23, .int (nI q), .ref r25, .int wa, .ref r27, .ref r28, .ref r29, .ref r30, .ref r31, .int co, .ref r33, .ref r34, .ref r35, .ref r36, .ref r37, .ref r38, .ref r39, .ref r40, .int db])), (r1, .inl (g.2.1 0, 12, .inl sf)), (r16, .inl (g.2.1 0, 41, .inl lmf)), (r17, .inl (g.2.1 0, 820, .inl ldf)), (r18, .inl (g.2.1 0, 820, .inl lsf)), (r19, .inl (g.2.1 0, 820, .inl lwf)), (r20, .inl (g.2.1 0, 9840, .inl syf)), (r21, .inl (g.2.1 0, 41, .inl fdf)), (r22, .inl (g.2.1 0, 41, .inl gvf)), (r23, .inl (g.2.1 3, 820, .inl hgf)), (r25, .inl (g.2.1 0, 12, .inl (upd (fa_f0 ddf i) i 0)))]) rfl (by rw [nI_clamp (by omega)]) ?_
    refine g_iinc (v := nI (i + 1)) (lv1 := [(0, .ref h), (1, .int p0), (2, .int p1), (3, .int p2), (4, .int (nI (i + 1)))]) C d_Mo_tellDay_18 4 rfl (nI_1 _) [1, 2, 3, 4, 0] (by decide) rfl ?_
    refine g_goto C d_Mo_tellDay_21 ?_
    refine g_eq (X1 := [(h, .inr (13, [.ref r0, .ref r1, .ref r2, .int (nI n), .int dt, .ref r5, .ref r6, .int tp, .int sz, .int fk, .int fp, .int at1, .int en, .int tk, .int nu, .long nm, .ref r16, .ref r17, .ref r18, .ref r19, .ref r20, .ref r21, .ref r22, .ref r23, .int (nI q), .ref r25, .int wa, .ref r27, .ref r28, .ref r29, .ref r30, .ref r31, .int co, .ref r33, .ref r34, .ref r35, .ref r36, .ref r37, .ref r38, .ref r39, .ref r40, .int db])), (r1, .inl (g.2.1 0, 12, .inl sf)), (r16, .inl (g.2.1 0, 41, .inl lmf)), (r17, .inl (g.2.1 0, 820, .inl ldf)), (r18, .inl (g.2.1 0, 820, .inl lsf)), (r19, .inl (g.2.1 0, 820, .inl lwf)), (r20, .inl (g.2.1 0, 9840, .inl syf)), (r21, .inl (g.2.1 0, 41, .inl fdf)), (r22, .inl (g.2.1 0, 41, .inl gvf)), (r23, .inl (g.2.1 3, 820, .inl hgf)), (r25, .inl (g.2.1 0, 12, .inl (fa_f0 ddf (i + 1))))]) rfl (by rw [upd_fill]) ?_
    exact ih (i + 1) (by omega) hE

set_option maxHeartbeats 4000000 in
set_option maxRecDepth 100000 in
theorem c_Mo_tellDay (l : Launch) (g : Gx) (h r0 r1 r2 r5 r6 r16 r17 r18 r19 r20 r21 r22 r23 r25 r27 r28 r29 r30 r31 r33 r34 r35 r36 r37 r38 r39 r40 n q : Nat) (dt tp sz fk fp at1 en tk nu wa co db : Int32) (nm : Int64) (sf lmf ldf lsf lwf syf fdf gvf hgf : Nat → Int32) (lc : Nat → Nat) (p0 p1 p2 : Int32) (ddf : Nat → Int32) (hn : n ≤ 12) (hq : q ≤ 40) (hl : ∀ i, i < q → lmf i = nI (lc i) ∧ lc i ≤ 20) : M0 l g y_Mo_tellDay b_Mo_tellDay 9 (none : Option FieldType) ({ frames := 1, cells := 0, slots := 0, locals := 25 }) [.ref h, .int p0, .int p1, .int p2] [(h, .inr (13, [.ref r0, .ref r1, .ref r2, .int (nI n), .int dt, .ref r5, .ref r6, .int tp, .int sz, .int fk, .int fp, .int at1, .int en, .int tk, .int nu, .long nm, .ref r16, .ref r17, .ref r18, .ref r19, .ref r20, .ref r21, .ref r22, .ref r23, .int (nI q), .ref r25, .int wa, .ref r27, .ref r28, .ref r29, .ref r30, .ref r31, .int co, .ref r33, .ref r34, .ref r35, .ref r36, .ref r37, .ref r38, .ref r39, .ref r40, .int db])), (r1, .inl (g.2.1 0, 12, .inl sf)), (r16, .inl (g.2.1 0, 41, .inl lmf)), (r17, .inl (g.2.1 0, 820, .inl ldf)), (r18, .inl (g.2.1 0, 820, .inl lsf)), (r19, .inl (g.2.1 0, 820, .inl lwf)), (r20, .inl (g.2.1 0, 9840, .inl syf)), (r21, .inl (g.2.1 0, 41, .inl fdf)), (r22, .inl (g.2.1 0, 41, .inl gvf)), (r23, .inl (g.2.1 3, 820, .inl hgf)), (r25, .inl (g.2.1 0, 12, .inl ddf))] none [(h, .inr (13, [.ref r0, .ref r1, .ref r2, .int (nI n), .int dt, .ref r5, .ref r6, .int tp, .int sz, .int fk, .int fp, .int at1, .int en, .int tk, .int nu, .long nm, .ref r16, .ref r17, .ref r18, .ref r19, .ref r20, .ref r21, .ref r22, .ref r23, .int (nI q), .ref r25, .int (tdM sf n p0 (fsM sf ldf lsf lwf syf hgf fdf gvf lc n p0 p1 p2 q 0 ((fun _ => 0, (-1), 0) : DS))).1, .ref r27, .ref r28, .ref r29, .ref r30, .ref r31, .int co, .ref r33, .ref r34, .ref r35, .ref r36, .ref r37, .ref r38, .ref r39, .ref r40, .int db])), (r1, .inl (g.2.1 0, 12, .inl sf)), (r16, .inl (g.2.1 0, 41, .inl lmf)), (r17, .inl (g.2.1 0, 820, .inl ldf)), (r18, .inl (g.2.1 0, 820, .inl lsf)), (r19, .inl (g.2.1 0, 820, .inl lwf)), (r20, .inl (g.2.1 0, 9840, .inl syf)), (r21, .inl (g.2.1 0, 41, .inl fdf)), (r22, .inl (g.2.1 0, 41, .inl gvf)), (r23, .inl (g.2.1 3, 820, .inl hgf)), (r25, .inl (g.2.1 0, 12, .inl (tdM sf n p0 (fsM sf ldf lsf lwf syf hgf fdf gvf lc n p0 p1 p2 q 0 ((fun _ => 0, (-1), 0) : DS))).2))] := by
  refine MP.of (by decide) (Nat.le_of_ble_eq_true rfl) (fun κ C => ?_)
  have C : zC κ l g ({ frames := 1, cells := 0, slots := 0, locals := 25 }) b_Mo_tellDay 9 "TombLaneModel" "tellDay" (none : Option FieldType) _ := C
  refine g_lv (lv1 := [(0, .ref h), (1, .int p0), (2, .int p1), (3, .int p2)]) [0, 1, 2, 3] rfl ?_
  refine g_iconst (v := 0) C rfl d_Mo_tellDay_0 ?_
  refine g_istore (lv1 := [(0, .ref h), (1, .int p0), (2, .int p1), (3, .int p2), (4, .int 0)]) C d_Mo_tellDay_1 [1, 2, 3, 4, 0] (by decide) rfl ?_
  refine g_eq (X1 := [(h, .inr (13, [.ref r0, .ref r1, .ref r2, .int (nI n), .int dt, .ref r5, .ref r6, .int tp, .int sz, .int fk, .int fp, .int at1, .int en, .int tk, .int nu, .long nm, .ref r16, .ref r17, .ref r18, .ref r19, .ref r20, .ref r21, .ref r22, .ref r23, .int (nI q), .ref r25, .int wa, .ref r27, .ref r28, .ref r29, .ref r30, .ref r31, .int co, .ref r33, .ref r34, .ref r35, .ref r36, .ref r37, .ref r38, .ref r39, .ref r40, .int db])), (r1, .inl (g.2.1 0, 12, .inl sf)), (r16, .inl (g.2.1 0, 41, .inl lmf)), (r17, .inl (g.2.1 0, 820, .inl ldf)), (r18, .inl (g.2.1 0, 820, .inl lsf)), (r19, .inl (g.2.1 0, 820, .inl lwf)), (r20, .inl (g.2.1 0, 9840, .inl syf)), (r21, .inl (g.2.1 0, 41, .inl fdf)), (r22, .inl (g.2.1 0, 41, .inl gvf)), (r23, .inl (g.2.1 3, 820, .inl hgf)), (r25, .inl (g.2.1 0, 12, .inl (fa_f0 ddf 0)))]) rfl (by rw [show fa_f0 ddf 0 = ddf from by funext j; simp [fa_f0]]) ?_
  refine lpz3 l g h r0 r1 r2 r5 r6 r16 r17 r18 r19 r20 r21 r22 r23 r25 r27 r28 r29 r30 r31 r33 r34 r35 r36 r37 r38 r39 r40 n q dt tp sz fk fp at1 en tk nu wa co db nm sf lmf ldf lsf lwf syf fdf gvf hgf lc p0 p1 p2 ddf C 12 0 (by omega) ?_
  refine g_exti (f' := fun _ => 0) (X1 := [(h, .inr (13, [.ref r0, .ref r1, .ref r2, .int (nI n), .int dt, .ref r5, .ref r6, .int tp, .int sz, .int fk, .int fp, .int at1, .int en, .int tk, .int nu, .long nm, .ref r16, .ref r17, .ref r18, .ref r19, .ref r20, .ref r21, .ref r22, .ref r23, .int (nI q), .ref r25, .int wa, .ref r27, .ref r28, .ref r29, .ref r30, .ref r31, .int co, .ref r33, .ref r34, .ref r35, .ref r36, .ref r37, .ref r38, .ref r39, .ref r40, .int db])), (r1, .inl (g.2.1 0, 12, .inl sf)), (r16, .inl (g.2.1 0, 41, .inl lmf)), (r17, .inl (g.2.1 0, 820, .inl ldf)), (r18, .inl (g.2.1 0, 820, .inl lsf)), (r19, .inl (g.2.1 0, 820, .inl lwf)), (r20, .inl (g.2.1 0, 9840, .inl syf)), (r21, .inl (g.2.1 0, 41, .inl fdf)), (r22, .inl (g.2.1 0, 41, .inl gvf)), (r23, .inl (g.2.1 3, 820, .inl hgf)), (r25, .inl (g.2.1 0, 12, .inl (fun _ => 0)))]) 10 rfl (fun j hj => by simp [fa_f0, hj]) rfl ?_
  refine g_iconst (v := (-1)) C rfl d_Mo_tellDay_24 ?_
  refine g_istore (lv1 := [(0, .ref h), (1, .int p0), (2, .int p1), (3, .int p2), (4, .int (-1))]) C d_Mo_tellDay_25 [1, 2, 3, 4, 0] (by decide) rfl ?_
  refine g_iconst (v := 0) C rfl d_Mo_tellDay_27 ?_
  refine g_istore (lv1 := [(0, .ref h), (1, .int p0), (2, .int p1), (3, .int p2), (4, .int (-1)), (5, .int 0)]) C d_Mo_tellDay_28 [1, 2, 3, 4, 5, 0] (by decide) rfl ?_
  refine g_iconst (v := 0) C rfl d_Mo_tellDay_30 ?_
  refine g_istore (lv1 := [(0, .ref h), (1, .int p0), (2, .int p1), (3, .int p2), (4, .int (-1)), (5, .int 0), (6, .int 0)]) C d_Mo_tellDay_31 [1, 2, 3, 4, 5, 6, 0] (by decide) rfl ?_
  refine lp33 l g h r0 r1 r2 r5 r6 r16 r17 r18 r19 r20 r21 r22 r23 r25 r27 r28 r29 r30 r31 r33 r34 r35 r36 r37 r38 r39 r40 n q dt tp sz fk fp at1 en tk nu wa co db nm sf lmf ldf lsf lwf syf fdf gvf hgf lc p0 p1 p2 hn hq hl C q 0 (fun _ => 0, (-1), 0) (by omega) ?_
  generalize (fsM sf ldf lsf lwf syf hgf fdf gvf lc n p0 p1 p2 q 0 (fun _ => 0, (-1), 0)) = t at C ⊢
  refine g_aload_n C 0 rfl d_Mo_tellDay_231 ?_
  refine g_iload C 4 rfl d_Mo_tellDay_232 ?_
  refine g_if_ge C d_Mo_tellDay_234 (fun c_1 => ?_) (fun c_1 => ?_)
  · skip
    refine g_iload C 5 rfl d_Mo_tellDay_241 ?_
    refine g_if_eq C d_Mo_tellDay_243 (fun c_2 => ?_) (fun c_2 => ?_)
    · skip
      refine g_aload_n C 0 rfl d_Mo_tellDay_250 ?_
      refine g_iload_n C 1 rfl d_Mo_tellDay_251 ?_
      refine g_iload C 4 rfl d_Mo_tellDay_252 ?_
      refine g_iconst (v := 2) C rfl d_Mo_tellDay_254 ?_
      refine g_idiv C (by decide) d_Mo_tellDay_255 ?_
      refine g_callV0 (rest := [.ref h]) (Xn := [(h, .inr (13, [.ref r0, .ref r1, .ref r2, .int (nI n), .int dt, .ref r5, .ref r6, .int tp, .int sz, .int fk, .int fp, .int at1, .int en, .int tk, .int nu, .long nm, .ref r16, .ref r17, .ref r18, .ref r19, .ref r20, .ref r21, .ref r22, .ref r23, .int (nI q), .ref r25, .int wa, .ref r27, .ref r28, .ref r29, .ref r30, .ref r31, .int co, .ref r33, .ref r34, .ref r35, .ref r36, .ref r37, .ref r38, .ref r39, .ref r40, .int db])), (r1, .inl (g.2.1 0, 12, .inl sf)), (r16, .inl (g.2.1 0, 41, .inl lmf)), (r17, .inl (g.2.1 0, 820, .inl ldf)), (r18, .inl (g.2.1 0, 820, .inl lsf)), (r19, .inl (g.2.1 0, 820, .inl lwf)), (r20, .inl (g.2.1 0, 9840, .inl syf)), (r21, .inl (g.2.1 0, 41, .inl fdf)), (r22, .inl (g.2.1 0, 41, .inl gvf)), (r23, .inl (g.2.1 3, 820, .inl hgf)), (r25, .inl (g.2.1 0, 12, .inl (brn sf t.1 p0 (t.2.1 / 2) n).2))]) C (c_Mo_burn l g h r0 r1 r2 r5 r6 r16 r17 r18 r19 r20 r21 r22 r23 r25 r27 r28 r29 r30 r31 r33 r34 r35 r36 r37 r38 r39 r40 n dt tp sz fk fp at1 en tk nu (nI q) wa co db nm sf t.1 p0 (t.2.1 / 2) (by first | assumption | omega | exact nI_pos (by omega))) [0, 1, 10] [2, 3, 4, 5, 6, 7, 8, 9] [8, 9, 0, 1, 2, 3, 4, 5, 6, 7, 10] rfl (by decide) (by decide) rfl mo_Mo_burn mv_Mo_burn kw_996 (by decide) (rcX 0 rfl rfl) rfl (Nat.le_of_ble_eq_true rfl) ⟨Nat.le_of_ble_eq_true rfl, Nat.le_of_ble_eq_true rfl⟩ d_Mo_tellDay_256 ?_
      refine g_put (X1 := [(h, .inr (13, [.ref r0, .ref r1, .ref r2, .int (nI n), .int dt, .ref r5, .ref r6, .int tp, .int sz, .int fk, .int fp, .int at1, .int en, .int tk, .int nu, .long nm, .ref r16, .ref r17, .ref r18, .ref r19, .ref r20, .ref r21, .ref r22, .ref r23, .int (nI q), .ref r25, .int (brn sf t.1 p0 (t.2.1 / 2) n).1, .ref r27, .ref r28, .ref r29, .ref r30, .ref r31, .int co, .ref r33, .ref r34, .ref r35, .ref r36, .ref r37, .ref r38, .ref r39, .ref r40, .int db])), (r1, .inl (g.2.1 0, 12, .inl sf)), (r16, .inl (g.2.1 0, 41, .inl lmf)), (r17, .inl (g.2.1 0, 820, .inl ldf)), (r18, .inl (g.2.1 0, 820, .inl lsf)), (r19, .inl (g.2.1 0, 820, .inl lwf)), (r20, .inl (g.2.1 0, 9840, .inl syf)), (r21, .inl (g.2.1 0, 41, .inl fdf)), (r22, .inl (g.2.1 0, 41, .inl gvf)), (r23, .inl (g.2.1 3, 820, .inl hgf)), (r25, .inl (g.2.1 0, 12, .inl (brn sf t.1 p0 (t.2.1 / 2) n).2))]) C 0 rfl rfl in_Mo 26 (by decide) ok_Mo nm_Mo kw_1046 rfl rfl rfl (Nat.le_of_ble_eq_true rfl) rfl d_Mo_tellDay_259 ?_
      exact g_vret C rfl ⟨rfl, (by simp [tdM, c_1, Int32.not_lt.mpr c_1, eq_true c_2]), rfl⟩ (by decide) (by decide) d_Mo_tellDay_262
    · skip
      refine g_iconst (v := 1) C rfl d_Mo_tellDay_246 ?_
      refine g_goto C d_Mo_tellDay_247 ?_
      refine g_put (X1 := [(h, .inr (13, [.ref r0, .ref r1, .ref r2, .int (nI n), .int dt, .ref r5, .ref r6, .int tp, .int sz, .int fk, .int fp, .int at1, .int en, .int tk, .int nu, .long nm, .ref r16, .ref r17, .ref r18, .ref r19, .ref r20, .ref r21, .ref r22, .ref r23, .int (nI q), .ref r25, .int 1, .ref r27, .ref r28, .ref r29, .ref r30, .ref r31, .int co, .ref r33, .ref r34, .ref r35, .ref r36, .ref r37, .ref r38, .ref r39, .ref r40, .int db])), (r1, .inl (g.2.1 0, 12, .inl sf)), (r16, .inl (g.2.1 0, 41, .inl lmf)), (r17, .inl (g.2.1 0, 820, .inl ldf)), (r18, .inl (g.2.1 0, 820, .inl lsf)), (r19, .inl (g.2.1 0, 820, .inl lwf)), (r20, .inl (g.2.1 0, 9840, .inl syf)), (r21, .inl (g.2.1 0, 41, .inl fdf)), (r22, .inl (g.2.1 0, 41, .inl gvf)), (r23, .inl (g.2.1 3, 820, .inl hgf)), (r25, .inl (g.2.1 0, 12, .inl t.1))]) C 0 rfl rfl in_Mo 26 (by decide) ok_Mo nm_Mo kw_1046 rfl rfl rfl (Nat.le_of_ble_eq_true rfl) rfl d_Mo_tellDay_259 ?_
      exact g_vret C rfl ⟨rfl, (by simp [tdM, c_1, Int32.not_lt.mpr c_1, c_2]), rfl⟩ (by decide) (by decide) d_Mo_tellDay_262
  · skip
    refine g_iconst (v := 0) C rfl d_Mo_tellDay_237 ?_
    refine g_goto C d_Mo_tellDay_238 ?_
    refine g_put (X1 := [(h, .inr (13, [.ref r0, .ref r1, .ref r2, .int (nI n), .int dt, .ref r5, .ref r6, .int tp, .int sz, .int fk, .int fp, .int at1, .int en, .int tk, .int nu, .long nm, .ref r16, .ref r17, .ref r18, .ref r19, .ref r20, .ref r21, .ref r22, .ref r23, .int (nI q), .ref r25, .int 0, .ref r27, .ref r28, .ref r29, .ref r30, .ref r31, .int co, .ref r33, .ref r34, .ref r35, .ref r36, .ref r37, .ref r38, .ref r39, .ref r40, .int db])), (r1, .inl (g.2.1 0, 12, .inl sf)), (r16, .inl (g.2.1 0, 41, .inl lmf)), (r17, .inl (g.2.1 0, 820, .inl ldf)), (r18, .inl (g.2.1 0, 820, .inl lsf)), (r19, .inl (g.2.1 0, 820, .inl lwf)), (r20, .inl (g.2.1 0, 9840, .inl syf)), (r21, .inl (g.2.1 0, 41, .inl fdf)), (r22, .inl (g.2.1 0, 41, .inl gvf)), (r23, .inl (g.2.1 3, 820, .inl hgf)), (r25, .inl (g.2.1 0, 12, .inl t.1))]) C 0 rfl rfl in_Mo 26 (by decide) ok_Mo nm_Mo kw_1046 rfl rfl rfl (Nat.le_of_ble_eq_true rfl) rfl d_Mo_tellDay_259 ?_
    exact g_vret C rfl ⟨rfl, (by simp [tdM, c_1, Int32.not_le.mp c_1]), rfl⟩ (by decide) (by decide) d_Mo_tellDay_262

