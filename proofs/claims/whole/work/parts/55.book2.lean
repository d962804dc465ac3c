/-- a line of the class: its address, its row's, day, gang, entries, gap, wicks -/
abbrev LR : Type := Nat × Nat × Int32 × Int32 × (Nat → Int32) × Int32 × Int32
abbrev lc1 (g : Gx) (r : LR) : va_W := [(r.1, .inr (6, [.int r.2.2.1, .int r.2.2.2.1, .ref r.2.1, .int r.2.2.2.2.2.1, .int r.2.2.2.2.2.2])), (r.2.1, .inl (g.2.1 0, 12, .inl r.2.2.2.2.1))]
def lcs (g : Gx) (ls : List LR) : va_W := ls.flatMap (lc1 g)
theorem lcs_mid (g : Gx) (a : List LR) (r : LR) (b : List LR) : lcs g (a ++ r :: b) = lcs g a ++ (lc1 g r ++ lcs g b) := by
  unfold lcs
  rw [List.flatMap_append, List.flatMap_cons]
section GL
variable {κ : Kx} {nL cs ss pc : Nat} {lv : List (Nat × Value)} {st : List Value} {X P0 : va_W}
theorem perm_mid {X A B C D : va_W} : (X ++ ((A ++ (B ++ C)) ++ D)).Perm ((X ++ B) ++ (A ++ (C ++ D))) := by
  have h1 : X ++ ((A ++ (B ++ C)) ++ D) = X ++ ((A ++ B) ++ (C ++ D)) := by simp only [List.append_assoc]
  have h2 : (X ++ B) ++ (A ++ (C ++ D)) = X ++ ((B ++ A) ++ (C ++ D)) := by simp only [List.append_assoc]
  rw [h1, h2]
  exact List.Perm.append_left _ (List.Perm.append_right _ List.perm_append_comm)
theorem g_openL {g : Gx} (a : List LR) (r : LR) (b : List LR) (k : G κ nL cs ss pc lv st (X ++ lc1 g r) (lcs g a ++ (lcs g b ++ P0))) : G κ nL cs ss pc lv st X (lcs g (a ++ r :: b) ++ P0) := by
  intro H locs l1 hl hP hD hS
  rw [lcs_mid] at hP hD
  exact k H locs l1 hl (P_perm perm_mid hP) (D_perm perm_mid hD) hS
theorem g_closeL {g : Gx} (a : List LR) (r : LR) (b : List LR) (k : G κ nL cs ss pc lv st X (lcs g (a ++ r :: b) ++ P0)) : G κ nL cs ss pc lv st (X ++ lc1 g r) (lcs g a ++ (lcs g b ++ P0)) := by
  intro H locs l1 hl hP hD hS
  refine k H locs l1 hl ?_ ?_ hS
  · rw [lcs_mid]; exact P_perm perm_mid.symm hP
  · rw [lcs_mid]; exact D_perm perm_mid.symm hD
end GL
/-- a line of this day and gang, heard by the class -/
def lnC (sf : Nat → Int32) (n : Nat) (sd lw gp : Int32) (ef : Nat → Int32) (t : DS) : DS :=
  (hrM sf sd (fun m => telC (ef m) gp) n 0 t.1, if lw = (-1) then t.2.1 else lw, if lw = (-1) then t.2.2 else zb (¬ t.2.2 = 0 ∨ (¬ t.2.1 = (-1) ∧ ¬ t.2.1 = lw)))
def hfC (sf : Nat → Int32) (n : Nat) (sd dy : Int32) : List LR → DS → DS
  | [], t => t
  | r :: ls, t => hfC sf n sd dy ls (if r.2.2.2.1 = sd ∧ r.2.2.1 = dy then lnC sf n r.2.2.2.1 r.2.2.2.2.2.2 r.2.2.2.2.2.1 r.2.2.2.2.1 t else t)
set_option maxHeartbeats 4000000 in
set_option maxRecDepth 100000 in
theorem lp_hearLine (l : Launch) (g : Gx) {κ : Kx} {E : Ex} {P : va_W} (q0 q1 q2 q6 q7 m1 m2 m3 n v v1 : Nat) (wt wu ld ls1 gp lw : Int32) (sf ef : Nat → Int32) (hn : n ≤ 12) (C : zC κ l g ({ frames := 1, cells := 0, slots := 0, locals := 21 }) b_Dy_hearLine 3 "TombLane$DayBook" "hearLine" (none : Option FieldType) E) : ∀ (k : Nat) (i : Nat) (st : Nat → Int32), (i + k = n) → (G κ 3 0 0 55 [(0, .ref q0), (1, .ref v)] [] [(q0, .inr (1, [.ref q6, .ref q7, .ref q1, .ref q2, .int wt, .int wu])), (q1, .inl (g.2.1 0, 12, .inl (hrM sf ls1 (fun m => telC (ef m) gp) k i st))), (q6, .inr (7, [.ref m1, .ref m2, .ref m3, .int (nI n)])), (m2, .inl (g.2.1 0, 12, .inl sf)), (v, .inr (6, [.int ld, .int ls1, .ref v1, .int gp, .int lw])), (v1, .inl (g.2.1 0, 12, .inl ef))] P) → G κ 3 0 0 2 [(0, .ref q0), (1, .ref v), (2, .int (nI i))] [] [(q0, .inr (1, [.ref q6, .ref q7, .ref q1, .ref q2, .int wt, .int wu])), (q1, .inl (g.2.1 0, 12, .inl st)), (q6, .inr (7, [.ref m1, .ref m2, .ref m3, .int (nI n)])), (m2, .inl (g.2.1 0, 12, .inl sf)), (v, .inr (6, [.int ld, .int ls1, .ref v1, .int gp, .int lw])), (v1, .inl (g.2.1 0, 12, .inl ef))] P := by
  intro k
  induction k with
  | zero =>
    intro i st hi hE
    refine g_iload_n C 2 rfl d_Dy_hearLine_2 ?_
    refine g_aload_n C 0 rfl d_Dy_hearLine_3 ?_
    refine g_get C 0 rfl rfl in_Dy 0 (by decide) kw_279 rfl d_Dy_hearLine_4 ?_
    refine g_getN C 2 rfl rfl in_Me 3 (by decide) kw_122 rfl d_Dy_hearLine_7 ?_
    refine g_icmp_ge C d_Dy_hearLine_10 (fun _ => ?_) (fun c_1 => absurd (nI_le (by omega) (by omega)) c_1)
    refine g_lv (lv1 := [(0, .ref q0), (1, .ref v)]) [0, 1] rfl ?_
    exact hE
  | succ k ih =>
    intro i st hi hE
    refine g_iload_n C 2 rfl d_Dy_hearLine_2 ?_
    refine g_aload_n C 0 rfl d_Dy_hearLine_3 ?_
    refine g_get C 0 rfl rfl in_Dy 0 (by decide) kw_279 rfl d_Dy_hearLine_4 ?_
    refine g_getN C 2 rfl rfl in_Me 3 (by decide) kw_122 rfl d_Dy_hearLine_7 ?_
    refine g_icmp_ge C d_Dy_hearLine_10 (fun c_1 => absurd c_1 (nI_ge (by omega) (by omega))) (fun _ => ?_)
    refine g_aload_n C 0 rfl d_Dy_hearLine_13 ?_
    refine g_get C 0 rfl rfl in_Dy 0 (by decide) kw_279 rfl d_Dy_hearLine_14 ?_
    refine g_getN C 2 rfl rfl in_Me 1 (by decide) kw_116 rfl d_Dy_hearLine_17 ?_
    refine g_iload_n C 2 rfl d_Dy_hearLine_20 ?_
    refine g_iald C 3 rfl (vp_in_nI (by omega) (by decide)) d_Dy_hearLine_21 ?_
    refine g_eq (st1 := [.int (sf i)]) (congrArg (fun z => Value.int z :: []) (congrArg sf (nI_clamp (by omega)))) rfl ?_
    refine g_aload_n C 1 rfl d_Dy_hearLine_22 ?_
    refine g_getN C 4 rfl rfl in_Li 1 (by decide) kw_164 rfl d_Dy_hearLine_23 ?_
    refine g_icmp_ne C d_Dy_hearLine_26 (fun c_2 => ?_) (fun c_2 => ?_)
    · skip
      refine g_iinc (v := nI (i + 1)) (lv1 := [(0, .ref q0), (1, .ref v), (2, .int (nI (i + 1)))]) C d_Dy_hearLine_49 2 rfl (nI_1 _) [1, 2, 0] (by decide) rfl ?_
      refine g_goto C d_Dy_hearLine_52 ?_
      exact ih (i + 1) _ (by omega) (by simpa [hrM, nI_clamp (n := i) (by omega), c_2] using hE)
    · skip
      refine g_aload_n C 0 rfl d_Dy_hearLine_29 ?_
      refine g_get C 0 rfl rfl in_Dy 2 (by decide) kw_281 rfl d_Dy_hearLine_30 ?_
      refine g_iload_n C 2 rfl d_Dy_hearLine_33 ?_
      refine g_aload_n C 0 rfl d_Dy_hearLine_34 ?_
      refine g_get C 0 rfl rfl in_Dy 2 (by decide) kw_281 rfl d_Dy_hearLine_35 ?_
      refine g_iload_n C 2 rfl d_Dy_hearLine_38 ?_
      refine g_iald C 1 rfl (vp_in_nI (by omega) (by decide)) d_Dy_hearLine_39 ?_
      refine g_eq (st1 := [.int (st i), .int (nI i), .ref q1]) (congrArg (fun z => Value.int z :: [.int (nI i), .ref q1]) (congrArg st (nI_clamp (by omega)))) rfl ?_
      refine g_aload_n C 1 rfl d_Dy_hearLine_40 ?_
      refine g_iload_n C 2 rfl d_Dy_hearLine_41 ?_
      refine g_callVN0 (rest := [.int (st i), .int (nI i), .ref q1]) (Xn := [(q0, .inr (1, [.ref q6, .ref q7, .ref q1, .ref q2, .int wt, .int wu])), (q1, .inl (g.2.1 0, 12, .inl st)), (q6, .inr (7, [.ref m1, .ref m2, .ref m3, .int (nI n)])), (m2, .inl (g.2.1 0, 12, .inl sf)), (v, .inr (6, [.int ld, .int ls1, .ref v1, .int gp, .int lw])), (v1, .inl (g.2.1 0, 12, .inl ef))]) C (c_Li_tells l g v v1 ld ls1 gp lw ef (nI i) (vp_in_nI (by omega) (by decide))) [4, 5] [0, 1, 2, 3] [0, 1, 2, 3, 4, 5] rfl (by decide) (by decide) rfl mo_Li_tells mv_Li_tells kw_734 (by decide) (rcX 4 rfl rfl) rfl (Nat.le_of_ble_eq_true rfl) ⟨Nat.le_of_ble_eq_true rfl, Nat.le_of_ble_eq_true rfl⟩ d_Dy_hearLine_42 ?_
      refine g_callS0 (rest := [.int (nI i), .ref q1]) (Xn := [(q0, .inr (1, [.ref q6, .ref q7, .ref q1, .ref q2, .int wt, .int wu])), (q1, .inl (g.2.1 0, 12, .inl st)), (q6, .inr (7, [.ref m1, .ref m2, .ref m3, .int (nI n)])), (m2, .inl (g.2.1 0, 12, .inl sf)), (v, .inr (6, [.int ld, .int ls1, .ref v1, .int gp, .int lw])), (v1, .inl (g.2.1 0, 12, .inl ef))]) C (c_Dy_joined l g (st i) (telC (ef (nI i).toNatClampNeg) gp)) [] [0, 1, 2, 3, 4, 5] [0, 1, 2, 3, 4, 5] rfl (by decide) (by decide) rfl mo_Dy_joined ms_Dy_joined kw_738 (by decide) rfl (Nat.le_of_ble_eq_true rfl) ⟨Nat.le_of_ble_eq_true rfl, Nat.le_of_ble_eq_true rfl⟩ d_Dy_hearLine_45 ?_
      refine g_iast (X1 := [(q0, .inr (1, [.ref q6, .ref q7, .ref q1, .ref q2, .int wt, .int wu])), (q1, .inl (g.2.1 0, 12, .inl (upd st (Int32.toNatClampNeg (nI i)) (joi (st i) (telC (ef (nI i).toNatClampNeg) gp))))), (q6, .inr (7, [.ref m1, .ref m2, .ref m3, .int (nI n)])), (m2, .inl (g.2.1 0, 12, .inl sf)), (v, .inr (6, [.int ld, .int ls1, .ref v1, .int gp, .int lw])), (v1, .inl (g.2.1 0, 12, .inl ef))]) C 1 rfl (vp_in_nI (by omega) (by decide)) rfl d_Dy_hearLine_48 ?_
      refine g_eq (X1 := [(q0, .inr (1, [.ref q6, .ref q7, .ref q1, .ref q2, .int wt, .int wu])), (q1, .inl (g.2.1 0, 12, .inl (upd st i (joi (st i) (telC (ef (nI i).toNatClampNeg) gp))))), (q6, .inr (7, [.ref m1, .ref m2, .ref m3, .int (nI n)])), (m2, .inl (g.2.1 0, 12, .inl sf)), (v, .inr (6, [.int ld, .int ls1, .ref v1, .int gp, .int lw])), (v1, .inl (g.2.1 0, 12, .inl ef))]) rfl (by rw [nI_clamp (by omega)]) ?_
      refine g_iinc (v := nI (i + 1)) (lv1 := [(0, .ref q0), (1, .ref v), (2, .int (nI (i + 1)))]) C d_Dy_hearLine_49 2 rfl (nI_1 _) [1, 2, 0] (by decide) rfl ?_
      refine g_goto C d_Dy_hearLine_52 ?_
      exact ih (i + 1) _ (by omega) (by simpa [hrM, nI_clamp (n := i) (by omega), eq_true c_2] using hE)

set_option maxHeartbeats 4000000 in
set_option maxRecDepth 100000 in
theorem c_Dy_hearLine (l : Launch) (g : Gx) (q0 q1 q2 q6 q7 m1 m2 m3 n v v1 : Nat) (wt wu ld ls1 gp lw : Int32) (sf ef : Nat → Int32) (st : Nat → Int32) (hn : n ≤ 12) : M0 l g y_Dy_hearLine b_Dy_hearLine 3 (none : Option FieldType) ({ frames := 1, cells := 0, slots := 0, locals := 21 }) [.ref q0, .ref v] [(q0, .inr (1, [.ref q6, .ref q7, .ref q1, .ref q2, .int wt, .int wu])), (q1, .inl (g.2.1 0, 12, .inl st)), (q6, .inr (7, [.ref m1, .ref m2, .ref m3, .int (nI n)])), (m2, .inl (g.2.1 0, 12, .inl sf)), (v, .inr (6, [.int ld, .int ls1, .ref v1, .int gp, .int lw])), (v1, .inl (g.2.1 0, 12, .inl ef))] none [(q0, .inr (1, [.ref q6, .ref q7, .ref q1, .ref q2, .int (lnC sf n ls1 lw gp ef (st, wt, wu)).2.1, .int (lnC sf n ls1 lw gp ef (st, wt, wu)).2.2])), (q1, .inl (g.2.1 0, 12, .inl (lnC sf n ls1 lw gp ef (st, wt, wu)).1)), (q6, .inr (7, [.ref m1, .ref m2, .ref m3, .int (nI n)])), (m2, .inl (g.2.1 0, 12, .inl sf)), (v, .inr (6, [.int ld, .int ls1, .ref v1, .int gp, .int lw])), (v1, .inl (g.2.1 0, 12, .inl ef))] := by
  refine MP.of (by decide) (Nat.le_of_ble_eq_true rfl) (fun κ C => ?_)
  have C : zC κ l g ({ frames := 1, cells := 0, slots := 0, locals := 21 }) b_Dy_hearLine 3 "TombLane$DayBook" "hearLine" (none : Option FieldType) _ := C
  refine g_lv (lv1 := [(0, .ref q0), (1, .ref v)]) [0, 1] rfl ?_
  refine g_iconst (v := 0) C rfl d_Dy_hearLine_0 ?_
  refine g_istore_n (lv1 := [(0, .ref q0), (1, .ref v), (2, .int 0)]) C d_Dy_hearLine_1 [1, 2, 0] (by decide) rfl ?_
  refine lp_hearLine l g q0 q1 q2 q6 q7 m1 m2 m3 n v v1 wt wu ld ls1 gp lw sf ef hn C n 0 st (by omega) ?_
  refine g_aload_n C 1 rfl d_Dy_hearLine_55 ?_
  refine g_getN C 4 rfl rfl in_Li 4 (by decide) kw_171 rfl d_Dy_hearLine_56 ?_
  refine g_iconst (v := (-1)) C rfl d_Dy_hearLine_59 ?_
  refine g_icmp_eq C d_Dy_hearLine_60 (fun c_1 => ?_) (fun c_1 => ?_)
  · skip
    exact g_vret C rfl ⟨rfl, (by simp [lnC, zb, eq_true c_1]), rfl⟩ (by decide) (by decide) d_Dy_hearLine_106
  · skip
    refine g_aload_n C 0 rfl d_Dy_hearLine_63 ?_
    refine g_aload_n C 0 rfl d_Dy_hearLine_64 ?_
    refine g_get C 0 rfl rfl in_Dy 5 (by decide) kw_284 rfl d_Dy_hearLine_65 ?_
    refine g_if_ne C d_Dy_hearLine_68 (fun c_2 => ?_) (fun c_2 => ?_)
    · skip
      refine g_iconst (v := 1) C rfl d_Dy_hearLine_90 ?_
      refine g_goto C d_Dy_hearLine_91 ?_
      refine g_put (X1 := [(q0, .inr (1, [.ref q6, .ref q7, .ref q1, .ref q2, .int wt, .int 1])), (q1, .inl (g.2.1 0, 12, .inl (hrM sf ls1 (fun m => telC (ef m) gp) n 0 st))), (q6, .inr (7, [.ref m1, .ref m2, .ref m3, .int (nI n)])), (m2, .inl (g.2.1 0, 12, .inl sf)), (v, .inr (6, [.int ld, .int ls1, .ref v1, .int gp, .int lw])), (v1, .inl (g.2.1 0, 12, .inl ef))]) C 0 rfl rfl in_Dy 5 (by decide) ok_Dy nm_Dy kw_284 rfl rfl rfl (Nat.le_of_ble_eq_true rfl) rfl d_Dy_hearLine_95 ?_
      refine g_aload_n C 0 rfl d_Dy_hearLine_98 ?_
      refine g_aload_n C 1 rfl d_Dy_hearLine_99 ?_
      refine g_getN C 4 rfl rfl in_Li 4 (by decide) kw_171 rfl d_Dy_hearLine_100 ?_
      refine g_put (X1 := [(q0, .inr (1, [.ref q6, .ref q7, .ref q1, .ref q2, .int lw, .int 1])), (q1, .inl (g.2.1 0, 12, .inl (hrM sf ls1 (fun m => telC (ef m) gp) n 0 st))), (q6, .inr (7, [.ref m1, .ref m2, .ref m3, .int (nI n)])), (m2, .inl (g.2.1 0, 12, .inl sf)), (v, .inr (6, [.int ld, .int ls1, .ref v1, .int gp, .int lw])), (v1, .inl (g.2.1 0, 12, .inl ef))]) C 0 rfl rfl in_Dy 4 (by decide) ok_Dy nm_Dy kw_283 rfl rfl rfl (Nat.le_of_ble_eq_true rfl) rfl d_Dy_hearLine_103 ?_
      exact g_vret C rfl ⟨rfl, (by simp [lnC, zb, c_1, c_2]), rfl⟩ (by decide) (by decide) d_Dy_hearLine_106
    · skip
      refine g_aload_n C 0 rfl d_Dy_hearLine_71 ?_
      refine g_get C 0 rfl rfl in_Dy 4 (by decide) kw_283 rfl d_Dy_hearLine_72 ?_
      refine g_iconst (v := (-1)) C rfl d_Dy_hearLine_75 ?_
      refine g_icmp_eq C d_Dy_hearLine_76 (fun c_3 => ?_) (fun c_3 => ?_)
      · skip
        refine g_iconst (v := 0) C rfl d_Dy_hearLine_94 ?_
        refine g_put (X1 := [(q0, .inr (1, [.ref q6, .ref q7, .ref q1, .ref q2, .int wt, .int 0])), (q1, .inl (g.2.1 0, 12, .inl (hrM sf ls1 (fun m => telC (ef m) gp) n 0 st))), (q6, .inr (7, [.ref m1, .ref m2, .ref m3, .int (nI n)])), (m2, .inl (g.2.1 0, 12, .inl sf)), (v, .inr (6, [.int ld, .int ls1, .ref v1, .int gp, .int lw])), (v1, .inl (g.2.1 0, 12, .inl ef))]) C 0 rfl rfl in_Dy 5 (by decide) ok_Dy nm_Dy kw_284 rfl rfl rfl (Nat.le_of_ble_eq_true rfl) rfl d_Dy_hearLine_95 ?_
        refine g_aload_n C 0 rfl d_Dy_hearLine_98 ?_
        refine g_aload_n C 1 rfl d_Dy_hearLine_99 ?_
        refine g_getN C 4 rfl rfl in_Li 4 (by decide) kw_171 rfl d_Dy_hearLine_100 ?_
        refine g_put (X1 := [(q0, .inr (1, [.ref q6, .ref q7, .ref q1, .ref q2, .int lw, .int 0])), (q1, .inl (g.2.1 0, 12, .inl (hrM sf ls1 (fun m => telC (ef m) gp) n 0 st))), (q6, .inr (7, [.ref m1, .ref m2, .ref m3, .int (nI n)])), (m2, .inl (g.2.1 0, 12, .inl sf)), (v, .inr (6, [.int ld, .int ls1, .ref v1, .int gp, .int lw])), (v1, .inl (g.2.1 0, 12, .inl ef))]) C 0 rfl rfl in_Dy 4 (by decide) ok_Dy nm_Dy kw_283 rfl rfl rfl (Nat.le_of_ble_eq_true rfl) rfl d_Dy_hearLine_103 ?_
        exact g_vret C rfl ⟨rfl, (by simp [lnC, zb, c_1, eq_true c_2, eq_true c_3]), rfl⟩ (by decide) (by decide) d_Dy_hearLine_106
      · skip
        refine g_aload_n C 0 rfl d_Dy_hearLine_79 ?_
        refine g_get C 0 rfl rfl in_Dy 4 (by decide) kw_283 rfl d_Dy_hearLine_80 ?_
        refine g_aload_n C 1 rfl d_Dy_hearLine_83 ?_
        refine g_getN C 4 rfl rfl in_Li 4 (by decide) kw_171 rfl d_Dy_hearLine_84 ?_
        refine g_icmp_eq C d_Dy_hearLine_87 (fun c_4 => ?_) (fun c_4 => ?_)
        · skip
          refine g_iconst (v := 0) C rfl d_Dy_hearLine_94 ?_
          refine g_put (X1 := [(q0, .inr (1, [.ref q6, .ref q7, .ref q1, .ref q2, .int wt, .int 0])), (q1, .inl (g.2.1 0, 12, .inl (hrM sf ls1 (fun m => telC (ef m) gp) n 0 st))), (q6, .inr (7, [.ref m1, .ref m2, .ref m3, .int (nI n)])), (m2, .inl (g.2.1 0, 12, .inl sf)), (v, .inr (6, [.int ld, .int ls1, .ref v1, .int gp, .int lw])), (v1, .inl (g.2.1 0, 12, .inl ef))]) C 0 rfl rfl in_Dy 5 (by decide) ok_Dy nm_Dy kw_284 rfl rfl rfl (Nat.le_of_ble_eq_true rfl) rfl d_Dy_hearLine_95 ?_
          refine g_aload_n C 0 rfl d_Dy_hearLine_98 ?_
          refine g_aload_n C 1 rfl d_Dy_hearLine_99 ?_
          refine g_getN C 4 rfl rfl in_Li 4 (by decide) kw_171 rfl d_Dy_hearLine_100 ?_
          refine g_put (X1 := [(q0, .inr (1, [.ref q6, .ref q7, .ref q1, .ref q2, .int lw, .int 0])), (q1, .inl (g.2.1 0, 12, .inl (hrM sf ls1 (fun m => telC (ef m) gp) n 0 st))), (q6, .inr (7, [.ref m1, .ref m2, .ref m3, .int (nI n)])), (m2, .inl (g.2.1 0, 12, .inl sf)), (v, .inr (6, [.int ld, .int ls1, .ref v1, .int gp, .int lw])), (v1, .inl (g.2.1 0, 12, .inl ef))]) C 0 rfl rfl in_Dy 4 (by decide) ok_Dy nm_Dy kw_283 rfl rfl rfl (Nat.le_of_ble_eq_true rfl) rfl d_Dy_hearLine_103 ?_
          exact g_vret C rfl ⟨rfl, (by simp [lnC, zb, c_1, eq_true c_2, c_3, eq_true c_4]), rfl⟩ (by decide) (by decide) d_Dy_hearLine_106
        · skip
          refine g_iconst (v := 1) C rfl d_Dy_hearLine_90 ?_
          refine g_goto C d_Dy_hearLine_91 ?_
          refine g_put (X1 := [(q0, .inr (1, [.ref q6, .ref q7, .ref q1, .ref q2, .int wt, .int 1])), (q1, .inl (g.2.1 0, 12, .inl (hrM sf ls1 (fun m => telC (ef m) gp) n 0 st))), (q6, .inr (7, [.ref m1, .ref m2, .ref m3, .int (nI n)])), (m2, .inl (g.2.1 0, 12, .inl sf)), (v, .inr (6, [.int ld, .int ls1, .ref v1, .int gp, .int lw])), (v1, .inl (g.2.1 0, 12, .inl ef))]) C 0 rfl rfl in_Dy 5 (by decide) ok_Dy nm_Dy kw_284 rfl rfl rfl (Nat.le_of_ble_eq_true rfl) rfl d_Dy_hearLine_95 ?_
          refine g_aload_n C 0 rfl d_Dy_hearLine_98 ?_
          refine g_aload_n C 1 rfl d_Dy_hearLine_99 ?_
          refine g_getN C 4 rfl rfl in_Li 4 (by decide) kw_171 rfl d_Dy_hearLine_100 ?_
          refine g_put (X1 := [(q0, .inr (1, [.ref q6, .ref q7, .ref q1, .ref q2, .int lw, .int 1])), (q1, .inl (g.2.1 0, 12, .inl (hrM sf ls1 (fun m => telC (ef m) gp) n 0 st))), (q6, .inr (7, [.ref m1, .ref m2, .ref m3, .int (nI n)])), (m2, .inl (g.2.1 0, 12, .inl sf)), (v, .inr (6, [.int ld, .int ls1, .ref v1, .int gp, .int lw])), (v1, .inl (g.2.1 0, 12, .inl ef))]) C 0 rfl rfl in_Dy 4 (by decide) ok_Dy nm_Dy kw_283 rfl rfl rfl (Nat.le_of_ble_eq_true rfl) rfl d_Dy_hearLine_103 ?_
          exact g_vret C rfl ⟨rfl, (by simp [lnC, zb, c_1, eq_true c_2, c_3, c_4]), rfl⟩ (by decide) (by decide) d_Dy_hearLine_106

set_option maxHeartbeats 4000000 in
set_option maxRecDepth 100000 in
theorem lp_hearFlake (l : Launch) (g : Gx) {κ : Kx} {E : Ex} {P : va_W} (q0 q1 q2 q6 q7 m1 m2 m3 n f f1 ea cp : Nat) (fd gu on mc p1 p2 : Int32) (sf : Nat → Int32) (af : Nat → Option Nat) (ls : List LR) (hn : n ≤ 12) (hc : ls.length ≤ cp) (hc2 : cp ≤ 1000) (haf : ∀ j (h : j < ls.length), af j = some (ls[j]).1) (C : zC κ l g ({ frames := 4, cells := 0, slots := 0, locals := 84 }) b_Dy_hearFlake 6 "TombLane$DayBook" "hearFlake" (none : Option FieldType) E) : ∀ (b a : List LR) (t : DS), ls = a ++ b → (G κ 6 0 0 51 [(0, .ref q0), (1, .ref f), (2, .int p1), (3, .int p2)] [] [(q0, .inr (1, [.ref q6, .ref q7, .ref q1, .ref q2, .int (hfC sf n p1 p2 b t).2.1, .int (hfC sf n p1 p2 b t).2.2])), (q1, .inl (g.2.1 0, 12, .inl (hfC sf n p1 p2 b t).1)), (q6, .inr (7, [.ref m1, .ref m2, .ref m3, .int (nI n)])), (m2, .inl (g.2.1 0, 12, .inl sf)), (f, .inr (3, [.int fd, .ref f1, .int gu, .int on])), (f1, .inr (0, [.int mc, .ref ea, .int (nI ls.length)])), (ea, .inl (g.2.1 4, cp, .inr (.inr (.inr (.inr af)))))] (lcs g ls ++ P)) → G κ 6 0 0 3 [(0, .ref q0), (1, .ref f), (2, .int p1), (3, .int p2), (4, .int (nI a.length))] [] [(q0, .inr (1, [.ref q6, .ref q7, .ref q1, .ref q2, .int t.2.1, .int t.2.2])), (q1, .inl (g.2.1 0, 12, .inl t.1)), (q6, .inr (7, [.ref m1, .ref m2, .ref m3, .int (nI n)])), (m2, .inl (g.2.1 0, 12, .inl sf)), (f, .inr (3, [.int fd, .ref f1, .int gu, .int on])), (f1, .inr (0, [.int mc, .ref ea, .int (nI ls.length)])), (ea, .inl (g.2.1 4, cp, .inr (.inr (.inr (.inr af)))))] (lcs g ls ++ P) := by
  intro b
  induction b with
  | nil =>
    intro a t he hE
    have hlen : ls.length = a.length := by rw [he, List.append_nil]
    refine g_iload C 4 rfl d_Dy_hearFlake_3 ?_
    refine g_aload_n C 1 rfl d_Dy_hearFlake_5 ?_
    refine g_getN C 4 rfl rfl in_Fk 1 (by decide) kw_482 rfl d_Dy_hearFlake_6 ?_
    refine g_callV0 (rest := [.int (nI a.length)]) (Xn := [(q0, .inr (1, [.ref q6, .ref q7, .ref q1, .ref q2, .int t.2.1, .int t.2.2])), (q1, .inl (g.2.1 0, 12, .inl t.1)), (q6, .inr (7, [.ref m1, .ref m2, .ref m3, .int (nI n)])), (m2, .inl (g.2.1 0, 12, .inl sf)), (f, .inr (3, [.int fd, .ref f1, .int gu, .int on])), (f1, .inr (0, [.int mc, .ref ea, .int (nI ls.length)])), (ea, .inl (g.2.1 4, cp, .inr (.inr (.inr (.inr af)))))]) C (c_AL_size l g f1 ea mc (nI ls.length)) [5] [0, 1, 2, 3, 4, 6] [0, 1, 2, 3, 4, 6, 5] rfl (by decide) (by decide) rfl mo_AL_size mv_AL_size kw_714 (by decide) (rcX 5 rfl rfl) rfl (Nat.le_of_ble_eq_true rfl) ⟨Nat.le_of_ble_eq_true rfl, Nat.le_of_ble_eq_true rfl⟩ d_Dy_hearFlake_9 ?_
    refine g_icmp_ge C d_Dy_hearFlake_12 (fun _ => ?_) (fun c_1 => absurd (nI_le (by omega) (by omega)) c_1)
    refine g_lv (lv1 := [(0, .ref q0), (1, .ref f), (2, .int p1), (3, .int p2)]) [0, 1, 2, 3] rfl ?_
    exact hE
  | cons r b ih =>
    intro a t he hE
    have hlen : ls.length = a.length + (b.length + 1) := by rw [he, List.length_append, List.length_cons]
    have hx : af a.length = some r.1 := by rw [haf a.length (by omega)]; simp [he]
    refine g_iload C 4 rfl d_Dy_hearFlake_3 ?_
    refine g_aload_n C 1 rfl d_Dy_hearFlake_5 ?_
    refine g_getN C 4 rfl rfl in_Fk 1 (by decide) kw_482 rfl d_Dy_hearFlake_6 ?_
    refine g_callV0 (rest := [.int (nI a.length)]) (Xn := [(q0, .inr (1, [.ref q6, .ref q7, .ref q1, .ref q2, .int t.2.1, .int t.2.2])), (q1, .inl (g.2.1 0, 12, .inl t.1)), (q6, .inr (7, [.ref m1, .ref m2, .ref m3, .int (nI n)])), (m2, .inl (g.2.1 0, 12, .inl sf)), (f, .inr (3, [.int fd, .ref f1, .int gu, .int on])), (f1, .inr (0, [.int mc, .ref ea, .int (nI ls.length)])), (ea, .inl (g.2.1 4, cp, .inr (.inr (.inr (.inr af)))))]) C (c_AL_size l g f1 ea mc (nI ls.length)) [5] [0, 1, 2, 3, 4, 6] [0, 1, 2, 3, 4, 6, 5] rfl (by decide) (by decide) rfl mo_AL_size mv_AL_size kw_714 (by decide) (rcX 5 rfl rfl) rfl (Nat.le_of_ble_eq_true rfl) ⟨Nat.le_of_ble_eq_true rfl, Nat.le_of_ble_eq_true rfl⟩ d_Dy_hearFlake_9 ?_
    refine g_icmp_ge C d_Dy_hearFlake_12 (fun c_1 => absurd c_1 (nI_ge (by omega) (by omega))) (fun _ => ?_)
    refine g_aload_n C 1 rfl d_Dy_hearFlake_15 ?_
    refine g_getN C 4 rfl rfl in_Fk 1 (by decide) kw_482 rfl d_Dy_hearFlake_16 ?_
    refine g_iload C 4 rfl d_Dy_hearFlake_19 ?_
    refine g_callVP (rest := []) C (c_AL_get l g f1 ea ls.length cp a.length r.1 mc af (lcs g ls ++ P) (by omega) hc hc2 hx) [5, 6] [0, 1, 2, 3, 4] rfl (by decide) mo_AL_get mv_AL_get kw_715 (by decide) (rcX 5 rfl rfl) rfl (Nat.le_of_ble_eq_true rfl) ⟨Nat.le_of_ble_eq_true rfl, Nat.le_of_ble_eq_true rfl⟩ d_Dy_hearFlake_21 (fun v2 X2 P2 q => ?_)
    obtain ⟨rfl, rfl, rfl⟩ := q
    refine g_ord (X1 := [(q0, .inr (1, [.ref q6, .ref q7, .ref q1, .ref q2, .int t.2.1, .int t.2.2])), (q1, .inl (g.2.1 0, 12, .inl t.1)), (q6, .inr (7, [.ref m1, .ref m2, .ref m3, .int (nI n)])), (m2, .inl (g.2.1 0, 12, .inl sf)), (f, .inr (3, [.int fd, .ref f1, .int gu, .int on])), (f1, .inr (0, [.int mc, .ref ea, .int (nI ls.length)])), (ea, .inl (g.2.1 4, cp, .inr (.inr (.inr (.inr af)))))]) [0, 1, 2, 3, 4, 5, 6] (by decide) rfl ?_
    rw [he]
    refine g_openL a r b ?_
    rw [← he]
    refine g_eq (X1 := [(q0, .inr (1, [.ref q6, .ref q7, .ref q1, .ref q2, .int t.2.1, .int t.2.2])), (q1, .inl (g.2.1 0, 12, .inl t.1)), (q6, .inr (7, [.ref m1, .ref m2, .ref m3, .int (nI n)])), (m2, .inl (g.2.1 0, 12, .inl sf)), (f, .inr (3, [.int fd, .ref f1, .int gu, .int on])), (f1, .inr (0, [.int mc, .ref ea, .int (nI ls.length)])), (ea, .inl (g.2.1 4, cp, .inr (.inr (.inr (.inr af))))), (r.1, .inr (6, [.int r.2.2.1, .int r.2.2.2.1, .ref r.2.1, .int r.2.2.2.2.2.1, .int r.2.2.2.2.2.2])), (r.2.1, .inl (g.2.1 0, 12, .inl r.2.2.2.2.1))]) rfl rfl ?_
    refine g_cast (ci := 6) C kw_725 rfl (rcX 7 rfl rfl) d_Dy_hearFlake_24 ?_
    refine g_astore (lv1 := [(0, .ref q0), (1, .ref f), (2, .int p1), (3, .int p2), (4, .int (nI a.length)), (5, .ref r.1)]) C d_Dy_hearFlake_27 [1, 2, 3, 4, 5, 0] (by decide) rfl ?_
    refine g_aload C 5 rfl d_Dy_hearFlake_29 ?_
    refine g_iload_n C 2 rfl d_Dy_hearFlake_31 ?_
    refine g_iload_n C 3 rfl d_Dy_hearFlake_32 ?_
    refine g_callVN0 (rest := []) (Xn := [(q0, .inr (1, [.ref q6, .ref q7, .ref q1, .ref q2, .int t.2.1, .int t.2.2])), (q1, .inl (g.2.1 0, 12, .inl t.1)), (q6, .inr (7, [.ref m1, .ref m2, .ref m3, .int (nI n)])), (m2, .inl (g.2.1 0, 12, .inl sf)), (f, .inr (3, [.int fd, .ref f1, .int gu, .int on])), (f1, .inr (0, [.int mc, .ref ea, .int (nI ls.length)])), (ea, .inl (g.2.1 4, cp, .inr (.inr (.inr (.inr af))))), (r.1, .inr (6, [.int r.2.2.1, .int r.2.2.2.1, .ref r.2.1, .int r.2.2.2.2.2.1, .int r.2.2.2.2.2.2])), (r.2.1, .inl (g.2.1 0, 12, .inl r.2.2.2.2.1))]) C (c_Li_isOf l g r.1 r.2.1 r.2.2.1 r.2.2.2.1 r.2.2.2.2.2.1 r.2.2.2.2.2.2 p1 p2) [7] [0, 1, 2, 3, 4, 5, 6, 8] [0, 1, 2, 3, 4, 5, 6, 8, 7] rfl (by decide) (by decide) rfl mo_Li_isOf mv_Li_isOf kw_726 (by decide) (rcX 7 rfl rfl) rfl (Nat.le_of_ble_eq_true rfl) ⟨Nat.le_of_ble_eq_true rfl, Nat.le_of_ble_eq_true rfl⟩ d_Dy_hearFlake_33 ?_
    refine g_if_eq C d_Dy_hearFlake_36 (fun c_2 => ?_) (fun c_2 => ?_)
    · have c_2 := zb_0.mp c_2
      refine g_iinc (v := nI (a.length + 1)) (lv1 := [(0, .ref q0), (1, .ref f), (2, .int p1), (3, .int p2), (4, .int (nI (a.length + 1))), (5, .ref r.1)]) C d_Dy_hearFlake_45 4 rfl (nI_1 _) [1, 2, 3, 4, 0, 5] (by decide) rfl ?_
      refine g_goto C d_Dy_hearFlake_48 ?_
      refine g_lv (lv1 := [(0, .ref q0), (1, .ref f), (2, .int p1), (3, .int p2), (4, .int (nI (a.length + 1)))]) [0, 1, 2, 3, 4] rfl ?_
      refine g_closeL (X := [(q0, .inr (1, [.ref q6, .ref q7, .ref q1, .ref q2, .int (t.1, t.2.1, t.2.2).2.1, .int (t.1, t.2.1, t.2.2).2.2])), (q1, .inl (g.2.1 0, 12, .inl (t.1, t.2.1, t.2.2).1)), (q6, .inr (7, [.ref m1, .ref m2, .ref m3, .int (nI n)])), (m2, .inl (g.2.1 0, 12, .inl sf)), (f, .inr (3, [.int fd, .ref f1, .int gu, .int on])), (f1, .inr (0, [.int mc, .ref ea, .int (nI ls.length)])), (ea, .inl (g.2.1 4, cp, .inr (.inr (.inr (.inr af)))))]) a r b ?_
      rw [← he]
      have h1 := ih (a ++ [r]) (t.1, t.2.1, t.2.2) (by rw [he]; simp) (by simpa [hfC, c_2] using hE)
      rw [List.length_append, List.length_singleton] at h1
      exact h1
    · have c_2 := zb_n0.mp c_2
      refine g_aload_n C 0 rfl d_Dy_hearFlake_39 ?_
      refine g_aload C 5 rfl d_Dy_hearFlake_40 ?_
      refine g_callV0 (rest := []) (Xn := [(q0, .inr (1, [.ref q6, .ref q7, .ref q1, .ref q2, .int (lnC sf n r.2.2.2.1 r.2.2.2.2.2.2 r.2.2.2.2.2.1 r.2.2.2.2.1 (t.1, t.2.1, t.2.2)).2.1, .int (lnC sf n r.2.2.2.1 r.2.2.2.2.2.2 r.2.2.2.2.2.1 r.2.2.2.2.1 (t.1, t.2.1, t.2.2)).2.2])), (q1, .inl (g.2.1 0, 12, .inl (lnC sf n r.2.2.2.1 r.2.2.2.2.2.2 r.2.2.2.2.2.1 r.2.2.2.2.1 (t.1, t.2.1, t.2.2)).1)), (q6, .inr (7, [.ref m1, .ref m2, .ref m3, .int (nI n)])), (m2, .inl (g.2.1 0, 12, .inl sf)), (f, .inr (3, [.int fd, .ref f1, .int gu, .int on])), (f1, .inr (0, [.int mc, .ref ea, .int (nI ls.length)])), (ea, .inl (g.2.1 4, cp, .inr (.inr (.inr (.inr af))))), (r.1, .inr (6, [.int r.2.2.1, .int r.2.2.2.1, .ref r.2.1, .int r.2.2.2.2.2.1, .int r.2.2.2.2.2.2])), (r.2.1, .inl (g.2.1 0, 12, .inl r.2.2.2.2.1))]) C (c_Dy_hearLine l g q0 q1 q2 q6 q7 m1 m2 m3 n r.1 r.2.1 t.2.1 t.2.2 r.2.2.1 r.2.2.2.1 r.2.2.2.2.2.1 r.2.2.2.2.2.2 sf r.2.2.2.2.1 t.1 (by first | assumption | omega | exact nI_pos (by omega))) [0, 1, 2, 3, 7, 8] [4, 5, 6] [3, 4, 5, 6, 0, 1, 2, 7, 8] rfl (by decide) (by decide) rfl mo_Dy_hearLine mv_Dy_hearLine kw_730 (by decide) (rcX 0 rfl rfl) rfl (Nat.le_of_ble_eq_true rfl) ⟨Nat.le_of_ble_eq_true rfl, Nat.le_of_ble_eq_true rfl⟩ d_Dy_hearFlake_42 ?_
      refine g_iinc (v := nI (a.length + 1)) (lv1 := [(0, .ref q0), (1, .ref f), (2, .int p1), (3, .int p2), (4, .int (nI (a.length + 1))), (5, .ref r.1)]) C d_Dy_hearFlake_45 4 rfl (nI_1 _) [1, 2, 3, 4, 0, 5] (by decide) rfl ?_
      refine g_goto C d_Dy_hearFlake_48 ?_
      refine g_lv (lv1 := [(0, .ref q0), (1, .ref f), (2, .int p1), (3, .int p2), (4, .int (nI (a.length + 1)))]) [0, 1, 2, 3, 4] rfl ?_
      refine g_closeL (X := [(q0, .inr (1, [.ref q6, .ref q7, .ref q1, .ref q2, .int ((lnC sf n r.2.2.2.1 r.2.2.2.2.2.2 r.2.2.2.2.2.1 r.2.2.2.2.1 (t.1, t.2.1, t.2.2)).1, (lnC sf n r.2.2.2.1 r.2.2.2.2.2.2 r.2.2.2.2.2.1 r.2.2.2.2.1 (t.1, t.2.1, t.2.2)).2.1, (lnC sf n r.2.2.2.1 r.2.2.2.2.2.2 r.2.2.2.2.2.1 r.2.2.2.2.1 (t.1, t.2.1, t.2.2)).2.2).2.1, .int ((lnC sf n r.2.2.2.1 r.2.2.2.2.2.2 r.2.2.2.2.2.1 r.2.2.2.2.1 (t.1, t.2.1, t.2.2)).1, (lnC sf n r.2.2.2.1 r.2.2.2.2.2.2 r.2.2.2.2.2.1 r.2.2.2.2.1 (t.1, t.2.1, t.2.2)).2.1, (lnC sf n r.2.2.2.1 r.2.2.2.2.2.2 r.2.2.2.2.2.1 r.2.2.2.2.1 (t.1, t.2.1, t.2.2)).2.2).2.2])), (q1, .inl (g.2.1 0, 12, .inl ((lnC sf n r.2.2.2.1 r.2.2.2.2.2.2 r.2.2.2.2.2.1 r.2.2.2.2.1 (t.1, t.2.1, t.2.2)).1, (lnC sf n r.2.2.2.1 r.2.2.2.2.2.2 r.2.2.2.2.2.1 r.2.2.2.2.1 (t.1, t.2.1, t.2.2)).2.1, (lnC sf n r.2.2.2.1 r.2.2.2.2.2.2 r.2.2.2.2.2.1 r.2.2.2.2.1 (t.1, t.2.1, t.2.2)).2.2).1)), (q6, .inr (7, [.ref m1, .ref m2, .ref m3, .int (nI n)])), (m2, .inl (g.2.1 0, 12, .inl sf)), (f, .inr (3, [.int fd, .ref f1, .int gu, .int on])), (f1, .inr (0, [.int mc, .ref ea, .int (nI ls.length)])), (ea, .inl (g.2.1 4, cp, .inr (.inr (.inr (.inr af)))))]) a r b ?_
      rw [← he]
      have h1 := ih (a ++ [r]) ((lnC sf n r.2.2.2.1 r.2.2.2.2.2.2 r.2.2.2.2.2.1 r.2.2.2.2.1 (t.1, t.2.1, t.2.2)).1, (lnC sf n r.2.2.2.1 r.2.2.2.2.2.2 r.2.2.2.2.2.1 r.2.2.2.2.1 (t.1, t.2.1, t.2.2)).2.1, (lnC sf n r.2.2.2.1 r.2.2.2.2.2.2 r.2.2.2.2.2.1 r.2.2.2.2.1 (t.1, t.2.1, t.2.2)).2.2) (by rw [he]; simp) (by simpa [hfC, c_2] using hE)
      rw [List.length_append, List.length_singleton] at h1
      exact h1

