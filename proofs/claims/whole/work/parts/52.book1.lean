set_option maxHeartbeats 4000000 in
set_option maxRecDepth 100000 in
theorem c_Li_isOf (l : Launch) (g : Gx) (q0 q1 : Nat) (dy sd gp wt : Int32) (p0 p1 : Int32) : M0 l g y_Li_isOf b_Li_isOf 3 (some FieldType.boolean) ({ frames := 0, cells := 0, slots := 0, locals := 0 }) [.ref q0, .int p0, .int p1] [(q0, .inr (6, [.int dy, .int sd, .ref q1, .int gp, .int wt]))] (some (.int (zb (sd = p0 ∧ dy = p1)))) [(q0, .inr (6, [.int dy, .int sd, .ref q1, .int gp, .int wt]))] := by
  refine MP.of (by decide) (Nat.le_of_ble_eq_true rfl) (fun κ C => ?_)
  have C : zC κ l g ({ frames := 0, cells := 0, slots := 0, locals := 0 }) b_Li_isOf 3 "TombLane$Line" "isOf" (some FieldType.boolean) _ := C
  refine g_lv (lv1 := [(0, .ref q0), (1, .int p0), (2, .int p1)]) [0, 1, 2] rfl ?_
  refine g_aload_n C 0 rfl d_Li_isOf_0 ?_
  refine g_get C 0 rfl rfl in_Li 1 (by decide) kw_163 rfl d_Li_isOf_1 ?_
  refine g_iload_n C 1 rfl d_Li_isOf_4 ?_
  refine g_icmp_ne C d_Li_isOf_5 (fun c_1 => ?_) (fun c_1 => ?_)
  · skip
    refine g_iconst (v := 0) C rfl d_Li_isOf_20 ?_
    exact g_zret C (Or.inl rfl) rfl ⟨congrArg (fun z => some (Value.int z)) (by simp [zb, c_1]), rfl, rfl⟩ (by decide) (by decide) d_Li_isOf_21
  · skip
    refine g_aload_n C 0 rfl d_Li_isOf_8 ?_
    refine g_get C 0 rfl rfl in_Li 0 (by decide) kw_162 rfl d_Li_isOf_9 ?_
    refine g_iload_n C 2 rfl d_Li_isOf_12 ?_
    refine g_icmp_ne C d_Li_isOf_13 (fun c_2 => ?_) (fun c_2 => ?_)
    · skip
      refine g_iconst (v := 0) C rfl d_Li_isOf_20 ?_
      exact g_zret C (Or.inl rfl) rfl ⟨congrArg (fun z => some (Value.int z)) (by simp [zb, eq_true c_1, c_2]), rfl, rfl⟩ (by decide) (by decide) d_Li_isOf_21
    · skip
      refine g_iconst (v := 1) C rfl d_Li_isOf_16 ?_
      refine g_goto C d_Li_isOf_17 ?_
      exact g_zret C (Or.inr rfl) rfl ⟨congrArg (fun z => some (Value.int z)) (by simp [zb, eq_true c_1, eq_true c_2]), rfl, rfl⟩ (by decide) (by decide) d_Li_isOf_21

set_option maxHeartbeats 4000000 in
set_option maxRecDepth 100000 in
theorem c_Li_names (l : Launch) (g : Gx) (q0 q1 : Nat) (dy sd gp wt : Int32) (ef : Nat → Int32) (p0 : Int32) (hp : vp_in p0 12) : M0 l g y_Li_names b_Li_names 2 (some FieldType.boolean) ({ frames := 0, cells := 0, slots := 0, locals := 0 }) [.ref q0, .int p0] [(q0, .inr (6, [.int dy, .int sd, .ref q1, .int gp, .int wt])), (q1, .inl (g.2.1 0, 12, .inl ef))] (some (.int (zb (¬ ef p0.toNatClampNeg = 0)))) [(q0, .inr (6, [.int dy, .int sd, .ref q1, .int gp, .int wt])), (q1, .inl (g.2.1 0, 12, .inl ef))] := by
  refine MP.of (by decide) (Nat.le_of_ble_eq_true rfl) (fun κ C => ?_)
  have C : zC κ l g ({ frames := 0, cells := 0, slots := 0, locals := 0 }) b_Li_names 2 "TombLane$Line" "names" (some FieldType.boolean) _ := C
  refine g_lv (lv1 := [(0, .ref q0), (1, .int p0)]) [0, 1] rfl ?_
  refine g_aload_n C 0 rfl d_Li_names_0 ?_
  refine g_get C 0 rfl rfl in_Li 2 (by decide) kw_166 rfl d_Li_names_1 ?_
  refine g_iload_n C 1 rfl d_Li_names_4 ?_
  refine g_iald C 1 rfl hp d_Li_names_5 ?_
  refine g_if_eq C d_Li_names_6 (fun c_1 => ?_) (fun c_1 => ?_)
  · skip
    refine g_iconst (v := 0) C rfl d_Li_names_13 ?_
    exact g_zret C (Or.inl rfl) rfl ⟨congrArg (fun z => some (Value.int z)) (by simp [zb, eq_true c_1]), rfl, rfl⟩ (by decide) (by decide) d_Li_names_14
  · skip
    refine g_iconst (v := 1) C rfl d_Li_names_9 ?_
    refine g_goto C d_Li_names_10 ?_
    exact g_zret C (Or.inr rfl) rfl ⟨congrArg (fun z => some (Value.int z)) (by simp [zb, c_1]), rfl, rfl⟩ (by decide) (by decide) d_Li_names_14

def telC (e gp : Int32) : Int32 := if e = (-1) then 0 else if e = 0 then (if gp = 0 then 1 else 0) else e
set_option maxHeartbeats 4000000 in
set_option maxRecDepth 100000 in
theorem c_Li_tells (l : Launch) (g : Gx) (q0 q1 : Nat) (dy sd gp wt : Int32) (ef : Nat → Int32) (p0 : Int32) (hp : vp_in p0 12) : M0 l g y_Li_tells b_Li_tells 2 (some FieldType.int) ({ frames := 0, cells := 0, slots := 0, locals := 0 }) [.ref q0, .int p0] [(q0, .inr (6, [.int dy, .int sd, .ref q1, .int gp, .int wt])), (q1, .inl (g.2.1 0, 12, .inl ef))] (some (.int (telC (ef p0.toNatClampNeg) gp))) [(q0, .inr (6, [.int dy, .int sd, .ref q1, .int gp, .int wt])), (q1, .inl (g.2.1 0, 12, .inl ef))] := by
  refine MP.of (by decide) (Nat.le_of_ble_eq_true rfl) (fun κ C => ?_)
  have C : zC κ l g ({ frames := 0, cells := 0, slots := 0, locals := 0 }) b_Li_tells 2 "TombLane$Line" "tells" (some FieldType.int) _ := C
  refine g_lv (lv1 := [(0, .ref q0), (1, .int p0)]) [0, 1] rfl ?_
  refine g_aload_n C 0 rfl d_Li_tells_0 ?_
  refine g_get C 0 rfl rfl in_Li 2 (by decide) kw_166 rfl d_Li_tells_1 ?_
  refine g_iload_n C 1 rfl d_Li_tells_4 ?_
  refine g_iald C 1 rfl hp d_Li_tells_5 ?_
  refine g_iconst (v := (-1)) C rfl d_Li_tells_6 ?_
  refine g_icmp_ne C d_Li_tells_7 (fun c_1 => ?_) (fun c_1 => ?_)
  · skip
    refine g_aload_n C 0 rfl d_Li_tells_12 ?_
    refine g_get C 0 rfl rfl in_Li 2 (by decide) kw_166 rfl d_Li_tells_13 ?_
    refine g_iload_n C 1 rfl d_Li_tells_16 ?_
    refine g_iald C 1 rfl hp d_Li_tells_17 ?_
    refine g_if_ne C d_Li_tells_18 (fun c_2 => ?_) (fun c_2 => ?_)
    · skip
      refine g_aload_n C 0 rfl d_Li_tells_34 ?_
      refine g_get C 0 rfl rfl in_Li 2 (by decide) kw_166 rfl d_Li_tells_35 ?_
      refine g_iload_n C 1 rfl d_Li_tells_38 ?_
      refine g_iald C 1 rfl hp d_Li_tells_39 ?_
      exact g_iret C rfl ⟨congrArg (fun z => some (Value.int z)) (by simp [telC, c_1, c_2]), rfl, rfl⟩ (by decide) (by decide) d_Li_tells_40
    · skip
      refine g_aload_n C 0 rfl d_Li_tells_21 ?_
      refine g_get C 0 rfl rfl in_Li 3 (by decide) kw_168 rfl d_Li_tells_22 ?_
      refine g_if_eq C d_Li_tells_25 (fun c_3 => ?_) (fun c_3 => ?_)
      · skip
        refine g_iconst (v := 1) C rfl d_Li_tells_32 ?_
        exact g_iret C rfl ⟨congrArg (fun z => some (Value.int z)) (by simp [telC, c_1, eq_true c_2, eq_true c_3]), rfl, rfl⟩ (by decide) (by decide) d_Li_tells_33
      · skip
        refine g_iconst (v := 0) C rfl d_Li_tells_28 ?_
        refine g_goto C d_Li_tells_29 ?_
        exact g_iret C rfl ⟨congrArg (fun z => some (Value.int z)) (by simp [telC, c_1, eq_true c_2, c_3]), rfl, rfl⟩ (by decide) (by decide) d_Li_tells_33
  · skip
    refine g_iconst (v := 0) C rfl d_Li_tells_10 ?_
    exact g_iret C rfl ⟨congrArg (fun z => some (Value.int z)) (by simp [telC, eq_true c_1]), rfl, rfl⟩ (by decide) (by decide) d_Li_tells_11

def cntC (fd gu on k : Int32) : Bool := decide (¬ k < fd ∧ (gu = 0 ∨ k < on))
set_option maxHeartbeats 4000000 in
set_option maxRecDepth 100000 in
theorem c_Fk_counts (l : Launch) (g : Gx) (q0 q1 : Nat) (fd gu on p0 : Int32) : M0 l g y_Fk_counts b_Fk_counts 2 (some FieldType.boolean) ({ frames := 0, cells := 0, slots := 0, locals := 0 }) [.ref q0, .int p0] [(q0, .inr (3, [.int fd, .ref q1, .int gu, .int on]))] (some (.int (zb (cntC fd gu on p0)))) [(q0, .inr (3, [.int fd, .ref q1, .int gu, .int on]))] := by
  refine MP.of (by decide) (Nat.le_of_ble_eq_true rfl) (fun κ C => ?_)
  have C : zC κ l g ({ frames := 0, cells := 0, slots := 0, locals := 0 }) b_Fk_counts 2 "TombLane$Flake" "counts" (some FieldType.boolean) _ := C
  refine g_lv (lv1 := [(0, .ref q0), (1, .int p0)]) [0, 1] rfl ?_
  refine g_aload_n C 0 rfl d_Fk_counts_0 ?_
  refine g_get C 0 rfl rfl in_Fk 0 (by decide) kw_479 rfl d_Fk_counts_1 ?_
  refine g_iload_n C 1 rfl d_Fk_counts_4 ?_
  refine g_icmp_gt C d_Fk_counts_5 (fun c_1 => ?_) (fun c_1 => ?_)
  · skip
    refine g_iconst (v := 0) C rfl d_Fk_counts_27 ?_
    exact g_zret C (Or.inl rfl) rfl ⟨congrArg (fun z => some (Value.int z)) (by simp [zb, cntC, c_1, Int32.not_le.mpr c_1]), rfl, rfl⟩ (by decide) (by decide) d_Fk_counts_28
  · skip
    refine g_aload_n C 0 rfl d_Fk_counts_8 ?_
    refine g_get C 0 rfl rfl in_Fk 2 (by decide) kw_484 rfl d_Fk_counts_9 ?_
    refine g_if_eq C d_Fk_counts_12 (fun c_2 => ?_) (fun c_2 => ?_)
    · skip
      refine g_iconst (v := 1) C rfl d_Fk_counts_23 ?_
      refine g_goto C d_Fk_counts_24 ?_
      exact g_zret C (Or.inr rfl) rfl ⟨congrArg (fun z => some (Value.int z)) (by simp [zb, cntC, c_1, Int32.not_lt.mp c_1, eq_true c_2]), rfl, rfl⟩ (by decide) (by decide) d_Fk_counts_28
    · skip
      refine g_aload_n C 0 rfl d_Fk_counts_15 ?_
      refine g_get C 0 rfl rfl in_Fk 3 (by decide) kw_486 rfl d_Fk_counts_16 ?_
      refine g_iload_n C 1 rfl d_Fk_counts_19 ?_
      refine g_icmp_le C d_Fk_counts_20 (fun c_3 => ?_) (fun c_3 => ?_)
      · skip
        refine g_iconst (v := 0) C rfl d_Fk_counts_27 ?_
        exact g_zret C (Or.inl rfl) rfl ⟨congrArg (fun z => some (Value.int z)) (by simp [zb, cntC, c_1, Int32.not_lt.mp c_1, c_2, c_3, Int32.not_lt.mpr c_3]), rfl, rfl⟩ (by decide) (by decide) d_Fk_counts_28
      · skip
        refine g_iconst (v := 1) C rfl d_Fk_counts_23 ?_
        refine g_goto C d_Fk_counts_24 ?_
        exact g_zret C (Or.inr rfl) rfl ⟨congrArg (fun z => some (Value.int z)) (by simp [zb, cntC, c_1, Int32.not_lt.mp c_1, c_2, c_3, Int32.not_le.mp c_3]), rfl, rfl⟩ (by decide) (by decide) d_Fk_counts_28

set_option maxHeartbeats 4000000 in
set_option maxRecDepth 100000 in
theorem c_Dy_joined (l : Launch) (g : Gx) (p0 p1 : Int32) : M0 l g y_Dy_joined b_Dy_joined 2 (some FieldType.int) ({ frames := 0, cells := 0, slots := 0, locals := 0 }) [.int p0, .int p1] [] (some (.int (joi p0 p1))) [] := by
  refine MP.of (by decide) (Nat.le_of_ble_eq_true rfl) (fun κ C => ?_)
  have C : zC κ l g ({ frames := 0, cells := 0, slots := 0, locals := 0 }) b_Dy_joined 2 "TombLane$DayBook" "joined" (some FieldType.int) _ := C
  refine g_lv (lv1 := [(0, .int p0), (1, .int p1)]) [0, 1] rfl ?_
  refine g_iload_n C 1 rfl d_Dy_joined_0 ?_
  refine g_if_eq C d_Dy_joined_1 (fun c_1 => ?_) (fun c_1 => ?_)
  · skip
    refine g_iload_n C 0 rfl d_Dy_joined_10 ?_
    exact g_iret C rfl ⟨congrArg (fun z => some (Value.int z)) (by simp [joi, eq_true c_1]), rfl, rfl⟩ (by decide) (by decide) d_Dy_joined_11
  · skip
    refine g_iload_n C 0 rfl d_Dy_joined_4 ?_
    refine g_bipush (v := 7) C rfl d_Dy_joined_5 ?_
    refine g_icmp_ne C d_Dy_joined_7 (fun c_2 => ?_) (fun c_2 => ?_)
    · skip
      refine g_iload_n C 0 rfl d_Dy_joined_12 ?_
      refine g_if_ne C d_Dy_joined_13 (fun c_3 => ?_) (fun c_3 => ?_)
      · skip
        refine g_iload_n C 0 rfl d_Dy_joined_18 ?_
        refine g_iconst (v := 1) C rfl d_Dy_joined_19 ?_
        refine g_icmp_ne C d_Dy_joined_20 (fun c_4 => ?_) (fun c_4 => ?_)
        · skip
          refine g_iconst (v := 0) C rfl d_Dy_joined_27 ?_
          refine g_iload_n C 1 rfl d_Dy_joined_28 ?_
          refine g_iconst (v := 1) C rfl d_Dy_joined_29 ?_
          refine g_icmp_ne C d_Dy_joined_30 (fun c_5 => ?_) (fun c_5 => ?_)
          · skip
            refine g_iconst (v := 0) C rfl d_Dy_joined_37 ?_
            refine g_icmp_ne C d_Dy_joined_38 (fun c_6 => absurd c_6 (by decide)) (fun _ => ?_)
            refine g_iload_n C 0 rfl d_Dy_joined_41 ?_
            refine g_goto C d_Dy_joined_42 ?_
            exact g_iret C rfl ⟨congrArg (fun z => some (Value.int z)) (by simp [joi, c_1, c_2, c_3, c_4, c_5]), rfl, rfl⟩ (by decide) (by decide) d_Dy_joined_47
          · skip
            refine g_iconst (v := 1) C rfl d_Dy_joined_33 ?_
            refine g_goto C d_Dy_joined_34 ?_
            refine g_icmp_ne C d_Dy_joined_38 (fun _ => ?_) (fun c_7 => absurd c_7 (by decide))
            refine g_bipush (v := 7) C rfl d_Dy_joined_45 ?_
            exact g_iret C rfl ⟨congrArg (fun z => some (Value.int z)) (by simp [joi, c_1, c_2, c_3, c_4, eq_true c_5]), rfl, rfl⟩ (by decide) (by decide) d_Dy_joined_47
        · skip
          refine g_iconst (v := 1) C rfl d_Dy_joined_23 ?_
          refine g_goto C d_Dy_joined_24 ?_
          refine g_iload_n C 1 rfl d_Dy_joined_28 ?_
          refine g_iconst (v := 1) C rfl d_Dy_joined_29 ?_
          refine g_icmp_ne C d_Dy_joined_30 (fun c_8 => ?_) (fun c_8 => ?_)
          · skip
            refine g_iconst (v := 0) C rfl d_Dy_joined_37 ?_
            refine g_icmp_ne C d_Dy_joined_38 (fun _ => ?_) (fun c_9 => absurd c_9 (by decide))
            refine g_bipush (v := 7) C rfl d_Dy_joined_45 ?_
            exact g_iret C rfl ⟨congrArg (fun z => some (Value.int z)) (by simp [joi, c_1, c_2, c_3, eq_true c_4, c_8]), rfl, rfl⟩ (by decide) (by decide) d_Dy_joined_47
          · skip
            refine g_iconst (v := 1) C rfl d_Dy_joined_33 ?_
            refine g_goto C d_Dy_joined_34 ?_
            refine g_icmp_ne C d_Dy_joined_38 (fun c_10 => absurd c_10 (by decide)) (fun _ => ?_)
            refine g_iload_n C 0 rfl d_Dy_joined_41 ?_
            refine g_goto C d_Dy_joined_42 ?_
            exact g_iret C rfl ⟨congrArg (fun z => some (Value.int z)) (by simp [joi, c_1, c_2, c_3, eq_true c_4, eq_true c_8]), rfl, rfl⟩ (by decide) (by decide) d_Dy_joined_47
      · skip
        refine g_iload_n C 1 rfl d_Dy_joined_16 ?_
        exact g_iret C rfl ⟨congrArg (fun z => some (Value.int z)) (by simp [joi, c_1, c_2, eq_true c_3]), rfl, rfl⟩ (by decide) (by decide) d_Dy_joined_17
    · skip
      refine g_iload_n C 0 rfl d_Dy_joined_10 ?_
      exact g_iret C rfl ⟨congrArg (fun z => some (Value.int z)) (by simp [joi, c_1, eq_true c_2]), rfl, rfl⟩ (by decide) (by decide) d_Dy_joined_11

def mta (sf st : Nat → Int32) (x sd : Int32) : Nat → Nat → Int32 → Int32
  | 0, _, a => a
  | k + 1, i, a => mta sf st x sd k (i + 1) (if sf i = sd ∧ st i = x then a + 1 else a)
def cop (sf : Nat → Int32) (sd v : Int32) : Nat → Nat → (Nat → Int32) → (Nat → Int32)
  | 0, _, d => d
  | k + 1, i, d => cop sf sd v k (i + 1) (if sf i = sd ∧ d i = 0 then upd d i v else d)
def nrw (sf st : Nat → Int32) (wt wu sd : Int32) (n : Nat) : Int32 × (Nat → Int32) :=
  if wt = (-1) then (0, st)
  else if ¬ wu = 0 ∨ 0 < mta sf st 7 sd n 0 0 ∨ wt / 2 - mta sf st 1 sd n 0 0 < 0 ∨ mta sf st 0 sd n 0 0 < wt / 2 - mta sf st 1 sd n 0 0 then (1, st)
  else if wt / 2 - mta sf st 1 sd n 0 0 = mta sf st 0 sd n 0 0 then (2, cop sf sd 1 n 0 st)
  else if wt / 2 - mta sf st 1 sd n 0 0 = 0 then (2, cop sf sd 6 n 0 st) else (2, st)
set_option maxHeartbeats 4000000 in
set_option maxRecDepth 100000 in
theorem lp_Dy_mta (l : Launch) (g : Gx) {κ : Kx} {E : Ex} {P : va_W} (q0 q1 q2 q6 q7 m1 m2 m3 n : Nat) (wt wu : Int32) (sf st : Nat → Int32) (p0 p1 : Int32) (hn : n ≤ 12) (C : zC κ l g ({ frames := 0, cells := 0, slots := 0, locals := 0 }) b_Dy_menThatAre 5 "TombLane$DayBook" "menThatAre" (some FieldType.int) E) : ∀ (k : Nat) (i : Nat) (a : Int32), (i + k = n) → (E (some (.int (mta sf st p0 p1 k i a))) [(q0, .inr (1, [.ref q6, .ref q7, .ref q1, .ref q2, .int wt, .int wu])), (q1, .inl (g.2.1 0, 12, .inl st)), (q6, .inr (7, [.ref m1, .ref m2, .ref m3, .int (nI n)])), (m2, .inl (g.2.1 0, 12, .inl sf))] P) → G κ 5 0 0 5 [(0, .ref q0), (1, .int p0), (2, .int p1), (3, .int a), (4, .int (nI i))] [] [(q0, .inr (1, [.ref q6, .ref q7, .ref q1, .ref q2, .int wt, .int wu])), (q1, .inl (g.2.1 0, 12, .inl st)), (q6, .inr (7, [.ref m1, .ref m2, .ref m3, .int (nI n)])), (m2, .inl (g.2.1 0, 12, .inl sf))] P := by
  intro k
  induction k with
  | zero =>
    intro i a hi hE
    refine g_iload C 4 rfl d_Dy_menThatAre_5 ?_
    refine g_aload_n C 0 rfl d_Dy_menThatAre_7 ?_
    refine g_get C 0 rfl rfl in_Dy 0 (by decide) kw_279 rfl d_Dy_menThatAre_8 ?_
    refine g_getN C 2 rfl rfl in_Me 3 (by decide) kw_122 rfl d_Dy_menThatAre_11 ?_
    refine g_icmp_ge C d_Dy_menThatAre_14 (fun _ => ?_) (fun c_1 => absurd (nI_le (by omega) (by omega)) c_1)
    refine g_iload_n C 3 rfl d_Dy_menThatAre_51 ?_
    exact g_iret C rfl hE (by decide) (by decide) d_Dy_menThatAre_52
  | succ k ih =>
    intro i a hi hE
    refine g_iload C 4 rfl d_Dy_menThatAre_5 ?_
    refine g_aload_n C 0 rfl d_Dy_menThatAre_7 ?_
    refine g_get C 0 rfl rfl in_Dy 0 (by decide) kw_279 rfl d_Dy_menThatAre_8 ?_
    refine g_getN C 2 rfl rfl in_Me 3 (by decide) kw_122 rfl d_Dy_menThatAre_11 ?_
    refine g_icmp_ge C d_Dy_menThatAre_14 (fun c_1 => absurd c_1 (nI_ge (by omega) (by omega))) (fun _ => ?_)
    refine g_aload_n C 0 rfl d_Dy_menThatAre_17 ?_
    refine g_get C 0 rfl rfl in_Dy 0 (by decide) kw_279 rfl d_Dy_menThatAre_18 ?_
    refine g_getN C 2 rfl rfl in_Me 1 (by decide) kw_116 rfl d_Dy_menThatAre_21 ?_
    refine g_iload C 4 rfl d_Dy_menThatAre_24 ?_
    refine g_iald C 3 rfl (vp_in_nI (by omega) (by decide)) d_Dy_menThatAre_26 ?_
    refine g_eq (st1 := [.int (sf i)]) (congrArg (fun z => Value.int z :: []) (congrArg sf (nI_clamp (by omega)))) rfl ?_
    refine g_iload_n C 2 rfl d_Dy_menThatAre_27 ?_
    refine g_icmp_ne C d_Dy_menThatAre_28 (fun c_2 => ?_) (fun c_2 => ?_)
    · skip
      refine g_iinc (v := nI (i + 1)) (lv1 := [(0, .ref q0), (1, .int p0), (2, .int p1), (3, .int a), (4, .int (nI (i + 1)))]) C d_Dy_menThatAre_45 4 rfl (nI_1 _) [1, 2, 3, 4, 0] (by decide) rfl ?_
      refine g_goto C d_Dy_menThatAre_48 ?_
      exact ih (i + 1) _ (by omega) (by simpa [mta, c_2] using hE)
    · skip
      refine g_aload_n C 0 rfl d_Dy_menThatAre_31 ?_
      refine g_get C 0 rfl rfl in_Dy 2 (by decide) kw_281 rfl d_Dy_menThatAre_32 ?_
      refine g_iload C 4 rfl d_Dy_menThatAre_35 ?_
      refine g_iald C 1 rfl (vp_in_nI (by omega) (by decide)) d_Dy_menThatAre_37 ?_
      refine g_eq (st1 := [.int (st i)]) (congrArg (fun z => Value.int z :: []) (congrArg st (nI_clamp (by omega)))) rfl ?_
      refine g_iload_n C 1 rfl d_Dy_menThatAre_38 ?_
      refine g_icmp_ne C d_Dy_menThatAre_39 (fun c_3 => ?_) (fun c_3 => ?_)
      · skip
        refine g_iinc (v := nI (i + 1)) (lv1 := [(0, .ref q0), (1, .int p0), (2, .int p1), (3, .int a), (4, .int (nI (i + 1)))]) C d_Dy_menThatAre_45 4 rfl (nI_1 _) [1, 2, 3, 4, 0] (by decide) rfl ?_
        refine g_goto C d_Dy_menThatAre_48 ?_
        exact ih (i + 1) _ (by omega) (by simpa [mta, eq_true c_2, c_3] using hE)
      · skip
        refine g_iinc (v := a + 1) (lv1 := [(0, .ref q0), (1, .int p0), (2, .int p1), (3, .int (a + 1)), (4, .int (nI i))]) C d_Dy_menThatAre_42 3 rfl rfl [1, 2, 3, 0, 4] (by decide) rfl ?_
        refine g_iinc (v := nI (i + 1)) (lv1 := [(0, .ref q0), (1, .int p0), (2, .int p1), (3, .int (a + 1)), (4, .int (nI (i + 1)))]) C d_Dy_menThatAre_45 4 rfl (nI_1 _) [1, 2, 3, 4, 0] (by decide) rfl ?_
        refine g_goto C d_Dy_menThatAre_48 ?_
        exact ih (i + 1) _ (by omega) (by simpa [mta, eq_true c_2, eq_true c_3] using hE)

set_option maxHeartbeats 4000000 in
set_option maxRecDepth 100000 in
theorem c_Dy_menThatAre (l : Launch) (g : Gx) (q0 q1 q2 q6 q7 m1 m2 m3 n : Nat) (wt wu : Int32) (sf st : Nat → Int32) (p0 p1 : Int32) (hn : n ≤ 12) : M0 l g y_Dy_menThatAre b_Dy_menThatAre 5 (some FieldType.int) ({ frames := 0, cells := 0, slots := 0, locals := 0 }) [.ref q0, .int p0, .int p1] [(q0, .inr (1, [.ref q6, .ref q7, .ref q1, .ref q2, .int wt, .int wu])), (q1, .inl (g.2.1 0, 12, .inl st)), (q6, .inr (7, [.ref m1, .ref m2, .ref m3, .int (nI n)])), (m2, .inl (g.2.1 0, 12, .inl sf))] (some (.int (mta sf st p0 p1 n 0 0))) [(q0, .inr (1, [.ref q6, .ref q7, .ref q1, .ref q2, .int wt, .int wu])), (q1, .inl (g.2.1 0, 12, .inl st)), (q6, .inr (7, [.ref m1, .ref m2, .ref m3, .int (nI n)])), (m2, .inl (g.2.1 0, 12, .inl sf))] := by
  refine MP.of (by decide) (Nat.le_of_ble_eq_true rfl) (fun κ C => ?_)
  have C : zC κ l g ({ frames := 0, cells := 0, slots := 0, locals := 0 }) b_Dy_menThatAre 5 "TombLane$DayBook" "menThatAre" (some FieldType.int) _ := C
  refine g_lv (lv1 := [(0, .ref q0), (1, .int p0), (2, .int p1)]) [0, 1, 2] rfl ?_
  refine g_iconst (v := 0) C rfl d_Dy_menThatAre_0 ?_
  refine g_istore_n (lv1 := [(0, .ref q0), (1, .int p0), (2, .int p1), (3, .int 0)]) C d_Dy_menThatAre_1 [1, 2, 3, 0] (by decide) rfl ?_
  refine g_iconst (v := 0) C rfl d_Dy_menThatAre_2 ?_
  refine g_istore (lv1 := [(0, .ref q0), (1, .int p0), (2, .int p1), (3, .int 0), (4, .int 0)]) C d_Dy_menThatAre_3 [1, 2, 3, 4, 0] (by decide) rfl ?_
  exact lp_Dy_mta l g q0 q1 q2 q6 q7 m1 m2 m3 n wt wu sf st p0 p1 hn C n 0 0 (by omega) ⟨rfl, rfl, rfl⟩

set_option maxHeartbeats 4000000 in
set_option maxRecDepth 100000 in
theorem lp_Dy_cop (l : Launch) (g : Gx) {κ : Kx} {E : Ex} {P : va_W} (q0 q1 q2 q6 q7 m1 m2 m3 n : Nat) (wt wu : Int32) (sf : Nat → Int32) (p0 p1 : Int32) (hn : n ≤ 12) (C : zC κ l g ({ frames := 0, cells := 0, slots := 0, locals := 0 }) b_Dy_closeOpen 4 "TombLane$DayBook" "closeOpen" (none : Option FieldType) E) : ∀ (k : Nat) (i : Nat) (st : Nat → Int32), (i + k = n) → (E none [(q0, .inr (1, [.ref q6, .ref q7, .ref q1, .ref q2, .int wt, .int wu])), (q1, .inl (g.2.1 0, 12, .inl (cop sf p0 p1 k i st))), (q6, .inr (7, [.ref m1, .ref m2, .ref m3, .int (nI n)])), (m2, .inl (g.2.1 0, 12, .inl sf))] P) → G κ 4 0 0 2 [(0, .ref q0), (1, .int p0), (2, .int p1), (3, .int (nI i))] [] [(q0, .inr (1, [.ref q6, .ref q7, .ref q1, .ref q2, .int wt, .int wu])), (q1, .inl (g.2.1 0, 12, .inl st)), (q6, .inr (7, [.ref m1, .ref m2, .ref m3, .int (nI n)])), (m2, .inl (g.2.1 0, 12, .inl sf))] P := by
  intro k
  induction k with
  | zero =>
    intro i st hi hE
    refine g_iload_n C 3 rfl d_Dy_closeOpen_2 ?_
    refine g_aload_n C 0 rfl d_Dy_closeOpen_3 ?_
    refine g_get C 0 rfl rfl in_Dy 0 (by decide) kw_279 rfl d_Dy_closeOpen_4 ?_
    refine g_getN C 2 rfl rfl in_Me 3 (by decide) kw_122 rfl d_Dy_closeOpen_7 ?_
    refine g_icmp_ge C d_Dy_closeOpen_10 (fun _ => ?_) (fun c_1 => absurd (nI_le (by omega) (by omega)) c_1)
    exact g_vret C rfl hE (by decide) (by decide) d_Dy_closeOpen_48
  | succ k ih =>
    intro i st hi hE
    refine g_iload_n C 3 rfl d_Dy_closeOpen_2 ?_
    refine g_aload_n C 0 rfl d_Dy_closeOpen_3 ?_
    refine g_get C 0 rfl rfl in_Dy 0 (by decide) kw_279 rfl d_Dy_closeOpen_4 ?_
    refine g_getN C 2 rfl rfl in_Me 3 (by decide) kw_122 rfl d_Dy_closeOpen_7 ?_
    refine g_icmp_ge C d_Dy_closeOpen_10 (fun c_1 => absurd c_1 (nI_ge (by omega) (by omega))) (fun _ => ?_)
    refine g_aload_n C 0 rfl d_Dy_closeOpen_13 ?_
    refine g_get C 0 rfl rfl in_Dy 0 (by decide) kw_279 rfl d_Dy_closeOpen_14 ?_
    refine g_getN C 2 rfl rfl in_Me 1 (by decide) kw_116 rfl d_Dy_closeOpen_17 ?_
    refine g_iload_n C 3 rfl d_Dy_closeOpen_20 ?_
    refine g_iald C 3 rfl (vp_in_nI (by omega) (by decide)) d_Dy_closeOpen_21 ?_
    refine g_eq (st1 := [.int (sf i)]) (congrArg (fun z => Value.int z :: []) (congrArg sf (nI_clamp (by omega)))) rfl ?_
    refine g_iload_n C 1 rfl d_Dy_closeOpen_22 ?_
    refine g_icmp_ne C d_Dy_closeOpen_23 (fun c_2 => ?_) (fun c_2 => ?_)
    · skip
      refine g_iinc (v := nI (i + 1)) (lv1 := [(0, .ref q0), (1, .int p0), (2, .int p1), (3, .int (nI (i + 1)))]) C d_Dy_closeOpen_42 3 rfl (nI_1 _) [1, 2, 3, 0] (by decide) rfl ?_
      refine g_goto C d_Dy_closeOpen_45 ?_
      exact ih (i + 1) _ (by omega) (by simpa [cop, c_2] using hE)
    · skip
      refine g_aload_n C 0 rfl d_Dy_closeOpen_26 ?_
      refine g_get C 0 rfl rfl in_Dy 2 (by decide) kw_281 rfl d_Dy_closeOpen_27 ?_
      refine g_iload_n C 3 rfl d_Dy_closeOpen_30 ?_
      refine g_iald C 1 rfl (vp_in_nI (by omega) (by decide)) d_Dy_closeOpen_31 ?_
      refine g_eq (st1 := [.int (st i)]) (congrArg (fun z => Value.int z :: []) (congrArg st (nI_clamp (by omega)))) rfl ?_
      refine g_if_ne C d_Dy_closeOpen_32 (fun c_3 => ?_) (fun c_3 => ?_)
      · skip
        refine g_iinc (v := nI (i + 1)) (lv1 := [(0, .ref q0), (1, .int p0), (2, .int p1), (3, .int (nI (i + 1)))]) C d_Dy_closeOpen_42 3 rfl (nI_1 _) [1, 2, 3, 0] (by decide) rfl ?_
        refine g_goto C d_Dy_closeOpen_45 ?_
        exact ih (i + 1) _ (by omega) (by simpa [cop, eq_true c_2, c_3] using hE)
      · skip
        refine g_aload_n C 0 rfl d_Dy_closeOpen_35 ?_
        refine g_get C 0 rfl rfl in_Dy 2 (by decide) kw_281 rfl d_Dy_closeOpen_36 ?_
        refine g_iload_n C 3 rfl d_Dy_closeOpen_39 ?_
        refine g_iload_n C 2 rfl d_Dy_closeOpen_40 ?_
        refine g_iast (X1 := [(q0, .inr (1, [.ref q6, .ref q7, .ref q1, .ref q2, .int wt, .int wu])), (q1, .inl (g.2.1 0, 12, .inl (upd st (Int32.toNatClampNeg (nI i)) p1))), (q6, .inr (7, [.ref m1, .ref m2, .ref m3, .int (nI n)])), (m2, .inl (g.2.1 0, 12, .inl sf))]) C 1 rfl (vp_in_nI (by omega) (by decide)) rfl d_Dy_closeOpen_41 ?_
        refine g_eq (X1 := [(q0, .inr (1, [.ref q6, .ref q7, .ref q1, .ref q2, .int wt, .int wu])), (q1, .inl (g.2.1 0, 12, .inl (upd st i p1))), (q6, .inr (7, [.ref m1, .ref m2, .ref m3, .int (nI n)])), (m2, .inl (g.2.1 0, 12, .inl sf))]) rfl (by rw [nI_clamp (by omega)]) ?_
        refine g_iinc (v := nI (i + 1)) (lv1 := [(0, .ref q0), (1, .int p0), (2, .int p1), (3, .int (nI (i + 1)))]) C d_Dy_closeOpen_42 3 rfl (nI_1 _) [1, 2, 3, 0] (by decide) rfl ?_
        refine g_goto C d_Dy_closeOpen_45 ?_
        exact ih (i + 1) _ (by omega) (by simpa [cop, eq_true c_2, eq_true c_3] using hE)

set_option maxHeartbeats 4000000 in
set_option maxRecDepth 100000 in
theorem c_Dy_closeOpen (l : Launch) (g : Gx) (q0 q1 q2 q6 q7 m1 m2 m3 n : Nat) (wt wu : Int32) (sf st : Nat → Int32) (p0 p1 : Int32) (hn : n ≤ 12) : M0 l g y_Dy_closeOpen b_Dy_closeOpen 4 (none : Option FieldType) ({ frames := 0, cells := 0, slots := 0, locals := 0 }) [.ref q0, .int p0, .int p1] [(q0, .inr (1, [.ref q6, .ref q7, .ref q1, .ref q2, .int wt, .int wu])), (q1, .inl (g.2.1 0, 12, .inl st)), (q6, .inr (7, [.ref m1, .ref m2, .ref m3, .int (nI n)])), (m2, .inl (g.2.1 0, 12, .inl sf))] none [(q0, .inr (1, [.ref q6, .ref q7, .ref q1, .ref q2, .int wt, .int wu])), (q1, .inl (g.2.1 0, 12, .inl (cop sf p0 p1 n 0 st))), (q6, .inr (7, [.ref m1, .ref m2, .ref m3, .int (nI n)])), (m2, .inl (g.2.1 0, 12, .inl sf))] := by
  refine MP.of (by decide) (Nat.le_of_ble_eq_true rfl) (fun κ C => ?_)
  have C : zC κ l g ({ frames := 0, cells := 0, slots := 0, locals := 0 }) b_Dy_closeOpen 4 "TombLane$DayBook" "closeOpen" (none : Option FieldType) _ := C
  refine g_lv (lv1 := [(0, .ref q0), (1, .int p0), (2, .int p1)]) [0, 1, 2] rfl ?_
  refine g_iconst (v := 0) C rfl d_Dy_closeOpen_0 ?_
  refine g_istore_n (lv1 := [(0, .ref q0), (1, .int p0), (2, .int p1), (3, .int 0)]) C d_Dy_closeOpen_1 [1, 2, 3, 0] (by decide) rfl ?_
  exact lp_Dy_cop l g q0 q1 q2 q6 q7 m1 m2 m3 n wt wu sf p0 p1 hn C n 0 st (by omega) ⟨rfl, rfl, rfl⟩

set_option maxHeartbeats 4000000 in
set_option maxRecDepth 100000 in
theorem c_Dy_narrow (l : Launch) (g : Gx) (q0 q1 q2 q6 q7 m1 m2 m3 n : Nat) (wt wu : Int32) (sf st : Nat → Int32) (p0 : Int32) (hn : n ≤ 12) : M0 l g y_Dy_narrow b_Dy_narrow 4 (some FieldType.int) ({ frames := 1, cells := 0, slots := 0, locals := 24 }) [.ref q0, .int p0] [(q0, .inr (1, [.ref q6, .ref q7, .ref q1, .ref q2, .int wt, .int wu])), (q1, .inl (g.2.1 0, 12, .inl st)), (q6, .inr (7, [.ref m1, .ref m2, .ref m3, .int (nI n)])), (m2, .inl (g.2.1 0, 12, .inl sf))] (some (.int (nrw sf st wt wu p0 n).1)) [(q0, .inr (1, [.ref q6, .ref q7, .ref q1, .ref q2, .int wt, .int wu])), (q1, .inl (g.2.1 0, 12, .inl (nrw sf st wt wu p0 n).2)), (q6, .inr (7, [.ref m1, .ref m2, .ref m3, .int (nI n)])), (m2, .inl (g.2.1 0, 12, .inl sf))] := by
  refine MP.of (by decide) (Nat.le_of_ble_eq_true rfl) (fun κ C => ?_)
  have C : zC κ l g ({ frames := 1, cells := 0, slots := 0, locals := 24 }) b_Dy_narrow 4 "TombLane$DayBook" "narrow" (some FieldType.int) _ := C
  refine g_lv (lv1 := [(0, .ref q0), (1, .int p0)]) [0, 1] rfl ?_
  refine g_aload_n C 0 rfl d_Dy_narrow_0 ?_
  refine g_get C 0 rfl rfl in_Dy 4 (by decide) kw_283 rfl d_Dy_narrow_1 ?_
  refine g_iconst (v := (-1)) C rfl d_Dy_narrow_4 ?_
  refine g_icmp_ne C d_Dy_narrow_5 (fun c_1 => ?_) (fun c_1 => ?_)
  · skip
    refine g_aload_n C 0 rfl d_Dy_narrow_10 ?_
    refine g_iconst (v := 0) C rfl d_Dy_narrow_11 ?_
    refine g_iload_n C 1 rfl d_Dy_narrow_12 ?_
    refine g_callV0 (rest := []) (Xn := [(q0, .inr (1, [.ref q6, .ref q7, .ref q1, .ref q2, .int wt, .int wu])), (q1, .inl (g.2.1 0, 12, .inl st)), (q6, .inr (7, [.ref m1, .ref m2, .ref m3, .int (nI n)])), (m2, .inl (g.2.1 0, 12, .inl sf))]) C (c_Dy_menThatAre l g q0 q1 q2 q6 q7 m1 m2 m3 n wt wu sf st 0 p0 (by first | assumption | omega | exact nI_pos (by omega))) [0, 1, 2, 3] [] [0, 1, 2, 3] rfl (by decide) (by decide) rfl mo_Dy_menThatAre mv_Dy_menThatAre kw_745 (by decide) (rcX 0 rfl rfl) rfl (Nat.le_of_ble_eq_true rfl) ⟨Nat.le_of_ble_eq_true rfl, Nat.le_of_ble_eq_true rfl⟩ d_Dy_narrow_13 ?_
    refine g_istore_n (lv1 := [(0, .ref q0), (1, .int p0), (2, .int (mta sf st 0 p0 n 0 0))]) C d_Dy_narrow_16 [1, 2, 0] (by decide) rfl ?_
    refine g_aload_n C 0 rfl d_Dy_narrow_17 ?_
    refine g_get C 0 rfl rfl in_Dy 4 (by decide) kw_283 rfl d_Dy_narrow_18 ?_
    refine g_iconst (v := 2) C rfl d_Dy_narrow_21 ?_
    refine g_idiv C (by decide) d_Dy_narrow_22 ?_
    refine g_aload_n C 0 rfl d_Dy_narrow_23 ?_
    refine g_iconst (v := 1) C rfl d_Dy_narrow_24 ?_
    refine g_iload_n C 1 rfl d_Dy_narrow_25 ?_
    refine g_callV0 (rest := [.int (wt / 2)]) (Xn := [(q0, .inr (1, [.ref q6, .ref q7, .ref q1, .ref q2, .int wt, .int wu])), (q1, .inl (g.2.1 0, 12, .inl st)), (q6, .inr (7, [.ref m1, .ref m2, .ref m3, .int (nI n)])), (m2, .inl (g.2.1 0, 12, .inl sf))]) C (c_Dy_menThatAre l g q0 q1 q2 q6 q7 m1 m2 m3 n wt wu sf st 1 p0 (by first | assumption | omega | exact nI_pos (by omega))) [0, 1, 2, 3] [] [0, 1, 2, 3] rfl (by decide) (by decide) rfl mo_Dy_menThatAre mv_Dy_menThatAre kw_745 (by decide) (rcX 0 rfl rfl) rfl (Nat.le_of_ble_eq_true rfl) ⟨Nat.le_of_ble_eq_true rfl, Nat.le_of_ble_eq_true rfl⟩ d_Dy_narrow_26 ?_
    refine g_isub C d_Dy_narrow_29 ?_
    refine g_istore_n (lv1 := [(0, .ref q0), (1, .int p0), (2, .int (mta sf st 0 p0 n 0 0)), (3, .int ((wt / 2) - (mta sf st 1 p0 n 0 0)))]) C d_Dy_narrow_30 [1, 2, 3, 0] (by decide) rfl ?_
    refine g_aload_n C 0 rfl d_Dy_narrow_31 ?_
    refine g_get C 0 rfl rfl in_Dy 5 (by decide) kw_284 rfl d_Dy_narrow_32 ?_
    refine g_if_ne C d_Dy_narrow_35 (fun c_2 => ?_) (fun c_2 => ?_)
    · skip
      refine g_iconst (v := 1) C rfl d_Dy_narrow_57 ?_
      exact g_iret C rfl ⟨congrArg (fun z => some (Value.int z)) (by simp [nrw, c_1, c_2]), (by simp [nrw, c_1, c_2]), rfl⟩ (by decide) (by decide) d_Dy_narrow_58
    · skip
      refine g_aload_n C 0 rfl d_Dy_narrow_38 ?_
      refine g_bipush (v := 7) C rfl d_Dy_narrow_39 ?_
      refine g_iload_n C 1 rfl d_Dy_narrow_41 ?_
      refine g_callV0 (rest := []) (Xn := [(q0, .inr (1, [.ref q6, .ref q7, .ref q1, .ref q2, .int wt, .int wu])), (q1, .inl (g.2.1 0, 12, .inl st)), (q6, .inr (7, [.ref m1, .ref m2, .ref m3, .int (nI n)])), (m2, .inl (g.2.1 0, 12, .inl sf))]) C (c_Dy_menThatAre l g q0 q1 q2 q6 q7 m1 m2 m3 n wt wu sf st 7 p0 (by first | assumption | omega | exact nI_pos (by omega))) [0, 1, 2, 3] [] [0, 1, 2, 3] rfl (by decide) (by decide) rfl mo_Dy_menThatAre mv_Dy_menThatAre kw_745 (by decide) (rcX 0 rfl rfl) rfl (Nat.le_of_ble_eq_true rfl) ⟨Nat.le_of_ble_eq_true rfl, Nat.le_of_ble_eq_true rfl⟩ d_Dy_narrow_42 ?_
      refine g_if_gt C d_Dy_narrow_45 (fun c_3 => ?_) (fun c_3 => ?_)
      · skip
        refine g_iconst (v := 1) C rfl d_Dy_narrow_57 ?_
        exact g_iret C rfl ⟨congrArg (fun z => some (Value.int z)) (by simp [nrw, c_1, eq_true c_2, c_3, Int32.not_le.mpr c_3]), (by simp [nrw, c_1, eq_true c_2, c_3, Int32.not_le.mpr c_3]), rfl⟩ (by decide) (by decide) d_Dy_narrow_58
      · skip
        refine g_iload_n C 3 rfl d_Dy_narrow_48 ?_
        refine g_if_lt C d_Dy_narrow_49 (fun c_4 => ?_) (fun c_4 => ?_)
        · skip
          refine g_iconst (v := 1) C rfl d_Dy_narrow_57 ?_
          exact g_iret C rfl ⟨congrArg (fun z => some (Value.int z)) (by simp [nrw, c_1, eq_true c_2, c_3, Int32.not_lt.mp c_3, c_4, Int32.not_le.mpr c_4]), (by simp [nrw, c_1, eq_true c_2, c_3, Int32.not_lt.mp c_3, c_4, Int32.not_le.mpr c_4]), rfl⟩ (by decide) (by decide) d_Dy_narrow_58
        · skip
          refine g_iload_n C 3 rfl d_Dy_narrow_52 ?_
          refine g_iload_n C 2 rfl d_Dy_narrow_53 ?_
          refine g_icmp_le C d_Dy_narrow_54 (fun c_5 => ?_) (fun c_5 => ?_)
          · skip
            refine g_iload_n C 3 rfl d_Dy_narrow_59 ?_
            refine g_iload_n C 2 rfl d_Dy_narrow_60 ?_
            refine g_icmp_ne C d_Dy_narrow_61 (fun c_6 => ?_) (fun c_6 => ?_)
            · skip
              refine g_iload_n C 3 rfl d_Dy_narrow_73 ?_
              refine g_if_ne C d_Dy_narrow_74 (fun c_7 => ?_) (fun c_7 => ?_)
              · skip
                refine g_iconst (v := 2) C rfl d_Dy_narrow_84 ?_
                exact g_iret C rfl ⟨congrArg (fun z => some (Value.int z)) (by simp [nrw, c_1, eq_true c_2, c_3, Int32.not_lt.mp c_3, c_4, Int32.not_lt.mp c_4, c_5, Int32.not_lt.mpr c_5, c_6, c_7]), (by simp [nrw, c_1, eq_true c_2, c_3, Int32.not_lt.mp c_3, c_4, Int32.not_lt.mp c_4, c_5, Int32.not_lt.mpr c_5, c_6, c_7]), rfl⟩ (by decide) (by decide) d_Dy_narrow_85
              · skip
                refine g_aload_n C 0 rfl d_Dy_narrow_77 ?_
                refine g_iload_n C 1 rfl d_Dy_narrow_78 ?_
                refine g_bipush (v := 6) C rfl d_Dy_narrow_79 ?_
                refine g_callV0 (rest := []) (Xn := [(q0, .inr (1, [.ref q6, .ref q7, .ref q1, .ref q2, .int wt, .int wu])), (q1, .inl (g.2.1 0, 12, .inl (cop sf p0 6 n 0 st))), (q6, .inr (7, [.ref m1, .ref m2, .ref m3, .int (nI n)])), (m2, .inl (g.2.1 0, 12, .inl sf))]) C (c_Dy_closeOpen l g q0 q1 q2 q6 q7 m1 m2 m3 n wt wu sf st p0 6 (by first | assumption | omega | exact nI_pos (by omega))) [0, 1, 2, 3] [] [0, 1, 2, 3] rfl (by decide) (by decide) rfl mo_Dy_closeOpen mv_Dy_closeOpen kw_749 (by decide) (rcX 0 rfl rfl) rfl (Nat.le_of_ble_eq_true rfl) ⟨Nat.le_of_ble_eq_true rfl, Nat.le_of_ble_eq_true rfl⟩ d_Dy_narrow_81 ?_
                refine g_iconst (v := 2) C rfl d_Dy_narrow_84 ?_
                exact g_iret C rfl ⟨congrArg (fun z => some (Value.int z)) (by simp [nrw, c_1, eq_true c_2, c_3, Int32.not_lt.mp c_3, c_4, Int32.not_lt.mp c_4, c_5, Int32.not_lt.mpr c_5, c_6, eq_true c_7]), (by simp [nrw, c_1, eq_true c_2, c_3, Int32.not_lt.mp c_3, c_4, Int32.not_lt.mp c_4, c_5, Int32.not_lt.mpr c_5, c_6, eq_true c_7]), rfl⟩ (by decide) (by decide) d_Dy_narrow_85
            · skip
              refine g_aload_n C 0 rfl d_Dy_narrow_64 ?_
              refine g_iload_n C 1 rfl d_Dy_narrow_65 ?_
              refine g_iconst (v := 1) C rfl d_Dy_narrow_66 ?_
              refine g_callV0 (rest := []) (Xn := [(q0, .inr (1, [.ref q6, .ref q7, .ref q1, .ref q2, .int wt, .int wu])), (q1, .inl (g.2.1 0, 12, .inl (cop sf p0 1 n 0 st))), (q6, .inr (7, [.ref m1, .ref m2, .ref m3, .int (nI n)])), (m2, .inl (g.2.1 0, 12, .inl sf))]) C (c_Dy_closeOpen l g q0 q1 q2 q6 q7 m1 m2 m3 n wt wu sf st p0 1 (by first | assumption | omega | exact nI_pos (by omega))) [0, 1, 2, 3] [] [0, 1, 2, 3] rfl (by decide) (by decide) rfl mo_Dy_closeOpen mv_Dy_closeOpen kw_749 (by decide) (rcX 0 rfl rfl) rfl (Nat.le_of_ble_eq_true rfl) ⟨Nat.le_of_ble_eq_true rfl, Nat.le_of_ble_eq_true rfl⟩ d_Dy_narrow_67 ?_
              refine g_goto C d_Dy_narrow_70 ?_
              refine g_iconst (v := 2) C rfl d_Dy_narrow_84 ?_
              exact g_iret C rfl ⟨congrArg (fun z => some (Value.int z)) (by simp [nrw, c_1, eq_true c_2, c_3, Int32.not_lt.mp c_3, c_4, Int32.not_lt.mp c_4, c_5, Int32.not_lt.mpr c_5, eq_true c_6]), (by simp [nrw, c_1, eq_true c_2, c_3, Int32.not_lt.mp c_3, c_4, Int32.not_lt.mp c_4, c_5, Int32.not_lt.mpr c_5, eq_true c_6]), rfl⟩ (by decide) (by decide) d_Dy_narrow_85
          · skip
            refine g_iconst (v := 1) C rfl d_Dy_narrow_57 ?_
            exact g_iret C rfl ⟨congrArg (fun z => some (Value.int z)) (by simp [nrw, c_1, eq_true c_2, c_3, Int32.not_lt.mp c_3, c_4, Int32.not_lt.mp c_4, c_5, Int32.not_le.mp c_5]), (by simp [nrw, c_1, eq_true c_2, c_3, Int32.not_lt.mp c_3, c_4, Int32.not_lt.mp c_4, c_5, Int32.not_le.mp c_5]), rfl⟩ (by decide) (by decide) d_Dy_narrow_58
  · skip
    refine g_iconst (v := 0) C rfl d_Dy_narrow_8 ?_
    exact g_iret C rfl ⟨congrArg (fun z => some (Value.int z)) (by simp [nrw, eq_true c_1]), (by simp [nrw, eq_true c_1]), rfl⟩ (by decide) (by decide) d_Dy_narrow_9

