section GO
variable {g : Gx}
theorem okA_e {ds : List Nat} (q v b : Nat) (mc : Int32) (h : ds = []) : okA g (q, mc, b, 10, va_up (fun _ => none) 0 (some v)) (ds ++ [v]) := by
  subst h
  refine ⟨fun z => absurd z (by simp), fun _ => ⟨by simp, (show (10 : Nat) ≤ 1000 by decide), fun j hj => ?_⟩⟩
  have : j = 0 := by simp at hj; omega
  subst this
  simp [va_up]
theorem okA_r {a : AR} {ds : List Nat} (v : Nat) (mc : Int32) (ha : okA g a ds) (h : ¬ ds = []) (hl : ds.length < a.2.2.2.1) : okA g (a.1, mc, a.2.2.1, a.2.2.2.1, va_up a.2.2.2.2 ds.length (some v)) (ds ++ [v]) := by
  obtain ⟨h1, h2, h3⟩ := ha.2 h
  refine ⟨fun z => absurd z (by simp), fun _ => ⟨by simp; omega, h2, fun j hj => ?_⟩⟩
  simp only [va_up]
  by_cases hh : j = ds.length
  · subst hh; simp
  · have hj2 : j < ds.length := by simp at hj; omega
    simp [hh, hj2, h3 j hj2]
theorem okA_g {a : AR} {ds : List Nat} (v b : Nat) (mc : Int32) (ha : okA g a ds) (h : ¬ ds = []) (hl : ds.length ≤ 40) : okA g (a.1, mc, b, ds.length + max 1 (ds.length / 2), va_up (va_cpy a.2.2.2.2 (fun _ => none) 0 0 ds.length) ds.length (some v)) (ds ++ [v]) := by
  obtain ⟨h1, h2, h3⟩ := ha.2 h
  refine ⟨fun z => absurd z (by simp), fun _ => ⟨by simp; omega, by simp only; omega, fun j hj => ?_⟩⟩
  simp only [va_up]
  by_cases hh : j = ds.length
  · subst hh; simp
  · have hj2 : j < ds.length := by simp at hj; omega
    simp [hh, hj2, va_cpy, h3 j hj2]
end GO
theorem perm_a3 {c1 c2 c3 : Nat × va_E} {P : va_W} : ([c1, c2] ++ ([c3] ++ P)).Perm ([c1, c3, c2] ++ P) := List.Perm.cons _ (List.Perm.swap _ _ _)
theorem perm_last {X Q A B P : va_W} : ((X ++ B) ++ (Q ++ (A ++ P))).Perm (X ++ (Q ++ ((A ++ B) ++ P))) := by
  have h1 : (X ++ B) ++ (Q ++ (A ++ P)) = X ++ ((B ++ (Q ++ A)) ++ P) := by simp only [List.append_assoc]
  have h2 : X ++ (Q ++ ((A ++ B) ++ P)) = X ++ (((Q ++ A) ++ B) ++ P) := by simp only [List.append_assoc]
  rw [h1, h2]
  exact List.Perm.append_left _ (List.Perm.append_right _ List.perm_append_comm)
theorem lcs_snoc (g : Gx) (ls : List LR) (r : LR) : lcs g (ls ++ [r]) = lcs g ls ++ lc1 g r := by
  rw [lcs_mid]; unfold lcs; simp
theorem elk_lcs {g : Gx} {ls : List LR} {a : AR} {P : va_W} (ha : okA g a (lad ls)) : elk (lcs g ls ++ P) a.2.2.2.2 ls.length := by
  intro i hi y hy
  have hne : ¬ lad ls = [] := by intro z; unfold lad at z; simp at z; rw [z] at hi; exact absurd hi (Nat.not_lt_zero _)
  have h1 := (ha.2 hne).2.2 i (by simpa [lad] using hi)
  rw [h1] at hy
  have h2 : y = (ls[i]).1 := by simpa [lad] using (Option.some.inj hy).symm
  subst h2
  refine ⟨6, [.int (ls[i]).2.2.1, .int (ls[i]).2.2.2.1, .ref (ls[i]).2.1, .int (ls[i]).2.2.2.2.2.1, .int (ls[i]).2.2.2.2.2.2], _, _, _, List.mem_append_left _ ?_, rfl, kw_1204⟩
  unfold lcs
  exact List.mem_flatMap.mpr ⟨ls[i], List.getElem_mem _, List.mem_cons_self⟩
theorem elk_fcs {g : Gx} {fs : List FR} {a : AR} {P : va_W} (ha : okA g a (fad fs)) : elk (fcs g fs ++ P) a.2.2.2.2 fs.length := by
  intro i hi y hy
  have hne : ¬ fad fs = [] := by intro z; unfold fad at z; simp at z; rw [z] at hi; exact absurd hi (Nat.not_lt_zero _)
  have h1 := (ha.2 hne).2.2 i (by simpa [fad] using hi)
  rw [h1] at hy
  have h2 : y = (fs[i]).1 := by simpa [fad] using (Option.some.inj hy).symm
  subst h2
  refine ⟨3, [.int (fs[i]).2.2.1, .ref (fs[i]).2.1.1, .int (fs[i]).2.2.2.1, .int (fs[i]).2.2.2.2.1], _, _, _, List.mem_append_left _ ?_, rfl, kw_1213⟩
  unfold fcs
  exact List.mem_flatMap.mpr ⟨fs[i], List.getElem_mem _, List.mem_cons_self⟩
set_option maxHeartbeats 4000000 in
set_option maxRecDepth 100000 in
theorem c_AL_add_uLi (l : Launch) (g : Gx) (a : AR) (c : Nat) (ds : List Nat) (v e3 : Nat) (e1 e2 e4 e5 : Int32) (P : va_W) (ha : okA g a ds) (hcd : ds.length = c) (hc : c ≤ 40) (hel : elk P a.2.2.2.2 c) : MP l g y_AL_add b_AL_add 2 (some FieldType.boolean) ({ frames := 6, cells := 1, slots := 60, locals := 150 }) [.ref a.1, .ref v] [(a.1, .inr (0, [.int a.2.1, .ref a.2.2.1, .int (nI c)])), (v, .inr (6, [.int e1, .int e2, .ref e3, .int e4, .int e5]))] (arc g a c ++ P) (fun v2 X2 P2 => ∃ (b2 : Int32 × Nat × Nat × (Nat → Option Nat)), (okA g (a.1, b2) (ds ++ [v])) ∧ v2 = some (.int 1) ∧ X2 = [(a.1, .inr (0, [.int b2.1, .ref b2.2.1, .int (nI (c + 1))])), (v, .inr (6, [.int e1, .int e2, .ref e3, .int e4, .int e5]))] ∧ P2 = arc g (a.1, b2) (c + 1) ++ P) := by
  refine MP.of (by decide) (Nat.le_of_ble_eq_true rfl) (fun κ C => ?_)
  have C : zC κ l g ({ frames := 6, cells := 1, slots := 60, locals := 150 }) b_AL_add 2 "java/util/ArrayList" "add" (some FieldType.boolean) _ := C
  refine g_lv (lv1 := [(0, .ref a.1), (1, .ref v)]) [0, 1] rfl ?_
  by_cases h0 : ds = []
  · have hl0 : c = 0 := by rw [← hcd, h0]; rfl
    have hea : a.2.2.1 = g.2.2.1 := ha.1 h0
    refine g_pm (X1 := [(a.1, .inr (0, [.int a.2.1, .ref g.2.2.1, .int 0])), (v, .inr (6, [.int e1, .int e2, .ref e3, .int e4, .int e5]))]) (P1 := P) (by rw [hl0, hea]; exact List.Perm.refl _) ?_
    refine g_aload_n C 0 rfl d_AL_add_0 ?_
    refine g_dup C rfl d_AL_add_1 ?_
    refine g_getS C 0 rfl rfl in_AL 0 (by decide) kw_259 kw_260 rfl d_AL_add_2 ?_
    refine g_iconst (v := 1) C rfl d_AL_add_5 ?_
    refine g_iadd C d_AL_add_6 ?_
    refine g_putS (X1 := [(a.1, .inr (0, [.int (a.2.1 + 1), .ref g.2.2.1, .int 0])), (v, .inr (6, [.int e1, .int e2, .ref e3, .int e4, .int e5]))]) C 0 rfl rfl in_AL 0 (by decide) ok_AL nm_AL kw_259 kw_260 rfl rfl rfl (Nat.le_of_ble_eq_true rfl) rfl d_AL_add_7 ?_
    refine g_aload_n C 0 rfl d_AL_add_10 ?_
    refine g_aload_n C 1 rfl d_AL_add_11 ?_
    refine g_aload_n C 0 rfl d_AL_add_12 ?_
    refine g_get C 0 rfl rfl in_AL 1 (by decide) kw_256 rfl d_AL_add_13 ?_
    refine g_aload_n C 0 rfl d_AL_add_16 ?_
    refine g_get C 0 rfl rfl in_AL 2 (by decide) kw_257 rfl d_AL_add_17 ?_
    refine g_callVP (rest := []) C (c_AL_add3_eLi l g a.1 (a.2.1 + 1) v e3 e1 e2 e4 e5 P) [0, 1] [] rfl (by decide) mo_AL_add3 mv_AL_add3 kw_567 (by decide) (rcX 0 rfl rfl) rfl (Nat.le_of_ble_eq_true rfl) ⟨Nat.le_of_ble_eq_true rfl, Nat.le_of_ble_eq_true rfl⟩ d_AL_add_20 (fun v2 X2 P2 q => ?_)
    obtain ⟨b, rfl, rfl, hP2⟩ := q
    rw [hP2]
    refine g_ord (X1 := [(a.1, .inr (0, [.int (a.2.1 + 1), .ref b, .int 1])), (b, .inl (g.2.1 4, 10, .inr (.inr (.inr (.inr (va_up (fun _ => none) 0 (some v))))))), (v, .inr (6, [.int e1, .int e2, .ref e3, .int e4, .int e5]))]) [0, 1, 2] (by decide) rfl ?_
    refine g_iconst (v := 1) C rfl d_AL_add_23 ?_
    refine g_pm (X1 := [(a.1, .inr (0, [.int (a.2.1 + 1, b, 10, va_up (fun _ => none) 0 (some v)).1, .ref (a.2.1 + 1, b, 10, va_up (fun _ => none) 0 (some v)).2.1, .int (nI (c + 1))])), (v, .inr (6, [.int e1, .int e2, .ref e3, .int e4, .int e5]))]) (P1 := arc g (a.1, (a.2.1 + 1, b, 10, va_up (fun _ => none) 0 (some v))) (c + 1) ++ P) (by rw [arc_ne (Nat.succ_ne_zero c), hl0]; exact perm_a3.symm) ?_
    exact g_zret C (Or.inr rfl) rfl ⟨(a.2.1 + 1, b, 10, va_up (fun _ => none) 0 (some v)), okA_e _ _ _ _ h0, rfl, rfl, rfl⟩ (by decide) (by decide) d_AL_add_24
  · have hl0 : ¬ c = 0 := fun z => h0 (List.eq_nil_of_length_eq_zero (by omega))
    have h4 := (ha.2 h0).1
    have h5 := (ha.2 h0).2.1
    rcases Nat.lt_or_ge c a.2.2.2.1 with hlt | hge
    · refine g_pm (X1 := [(a.1, .inr (0, [.int a.2.1, .ref a.2.2.1, .int (nI c)])), (a.2.2.1, .inl (g.2.1 4, a.2.2.2.1, .inr (.inr (.inr (.inr a.2.2.2.2))))), (v, .inr (6, [.int e1, .int e2, .ref e3, .int e4, .int e5]))]) (P1 := P) (by rw [arc_ne hl0]; exact perm_a3) ?_
      refine g_aload_n C 0 rfl d_AL_add_0 ?_
      refine g_dup C rfl d_AL_add_1 ?_
      refine g_getS C 0 rfl rfl in_AL 0 (by decide) kw_259 kw_260 rfl d_AL_add_2 ?_
      refine g_iconst (v := 1) C rfl d_AL_add_5 ?_
      refine g_iadd C d_AL_add_6 ?_
      refine g_putS (X1 := [(a.1, .inr (0, [.int (a.2.1 + 1), .ref a.2.2.1, .int (nI c)])), (a.2.2.1, .inl (g.2.1 4, a.2.2.2.1, .inr (.inr (.inr (.inr a.2.2.2.2))))), (v, .inr (6, [.int e1, .int e2, .ref e3, .int e4, .int e5]))]) C 0 rfl rfl in_AL 0 (by decide) ok_AL nm_AL kw_259 kw_260 rfl rfl rfl (Nat.le_of_ble_eq_true rfl) rfl d_AL_add_7 ?_
      refine g_aload_n C 0 rfl d_AL_add_10 ?_
      refine g_aload_n C 1 rfl d_AL_add_11 ?_
      refine g_aload_n C 0 rfl d_AL_add_12 ?_
      refine g_get C 0 rfl rfl in_AL 1 (by decide) kw_256 rfl d_AL_add_13 ?_
      refine g_aload_n C 0 rfl d_AL_add_16 ?_
      refine g_get C 0 rfl rfl in_AL 2 (by decide) kw_257 rfl d_AL_add_17 ?_
      refine g_callVP (rest := []) C (c_AL_add3_rLi l g a.1 a.2.2.1 c a.2.2.2.1 (a.2.1 + 1) a.2.2.2.2 v e3 e1 e2 e4 e5 P hlt h5) [0, 1, 2] [] rfl (by decide) mo_AL_add3 mv_AL_add3 kw_567 (by decide) (rcX 0 rfl rfl) rfl (Nat.le_of_ble_eq_true rfl) ⟨Nat.le_of_ble_eq_true rfl, Nat.le_of_ble_eq_true rfl⟩ d_AL_add_20 (fun v2 X2 P2 q => ?_)
      obtain ⟨rfl, rfl, hP2⟩ := q
      rw [hP2]
      refine g_ord (X1 := [(a.1, .inr (0, [.int (a.2.1 + 1), .ref a.2.2.1, .int (nI (c + 1))])), (a.2.2.1, .inl (g.2.1 4, a.2.2.2.1, .inr (.inr (.inr (.inr (va_up a.2.2.2.2 c (some v))))))), (v, .inr (6, [.int e1, .int e2, .ref e3, .int e4, .int e5]))]) [0, 1, 2] (by decide) rfl ?_
      refine g_iconst (v := 1) C rfl d_AL_add_23 ?_
      refine g_pm (X1 := [(a.1, .inr (0, [.int (a.2.1 + 1, a.2.2.1, a.2.2.2.1, va_up a.2.2.2.2 c (some v)).1, .ref (a.2.1 + 1, a.2.2.1, a.2.2.2.1, va_up a.2.2.2.2 c (some v)).2.1, .int (nI (c + 1))])), (v, .inr (6, [.int e1, .int e2, .ref e3, .int e4, .int e5]))]) (P1 := arc g (a.1, (a.2.1 + 1, a.2.2.1, a.2.2.2.1, va_up a.2.2.2.2 c (some v))) (c + 1) ++ P) (by rw [arc_ne (Nat.succ_ne_zero c)]; exact perm_a3.symm) ?_
      exact g_zret C (Or.inr rfl) rfl ⟨(a.2.1 + 1, a.2.2.1, a.2.2.2.1, va_up a.2.2.2.2 c (some v)), (by rw [← hcd]; exact okA_r v _ ha h0 (by omega)), rfl, rfl, rfl⟩ (by decide) (by decide) d_AL_add_24
    · have hcp : a.2.2.2.1 = c := by omega
      refine g_pm (X1 := [(a.1, .inr (0, [.int a.2.1, .ref a.2.2.1, .int (nI c)])), (a.2.2.1, .inl (g.2.1 4, c, .inr (.inr (.inr (.inr a.2.2.2.2))))), (v, .inr (6, [.int e1, .int e2, .ref e3, .int e4, .int e5]))]) (P1 := P) (by rw [arc_ne hl0, hcp]; exact perm_a3) ?_
      refine g_aload_n C 0 rfl d_AL_add_0 ?_
      refine g_dup C rfl d_AL_add_1 ?_
      refine g_getS C 0 rfl rfl in_AL 0 (by decide) kw_259 kw_260 rfl d_AL_add_2 ?_
      refine g_iconst (v := 1) C rfl d_AL_add_5 ?_
      refine g_iadd C d_AL_add_6 ?_
      refine g_putS (X1 := [(a.1, .inr (0, [.int (a.2.1 + 1), .ref a.2.2.1, .int (nI c)])), (a.2.2.1, .inl (g.2.1 4, c, .inr (.inr (.inr (.inr a.2.2.2.2))))), (v, .inr (6, [.int e1, .int e2, .ref e3, .int e4, .int e5]))]) C 0 rfl rfl in_AL 0 (by decide) ok_AL nm_AL kw_259 kw_260 rfl rfl rfl (Nat.le_of_ble_eq_true rfl) rfl d_AL_add_7 ?_
      refine g_aload_n C 0 rfl d_AL_add_10 ?_
      refine g_aload_n C 1 rfl d_AL_add_11 ?_
      refine g_aload_n C 0 rfl d_AL_add_12 ?_
      refine g_get C 0 rfl rfl in_AL 1 (by decide) kw_256 rfl d_AL_add_13 ?_
      refine g_aload_n C 0 rfl d_AL_add_16 ?_
      refine g_get C 0 rfl rfl in_AL 2 (by decide) kw_257 rfl d_AL_add_17 ?_
      refine g_callVP (rest := []) C (c_AL_add3_gLi l g a.1 a.2.2.1 c (a.2.1 + 1) a.2.2.2.2 v e3 e1 e2 e4 e5 P (by omega) (by omega) hel) [0, 1, 2] [] rfl (by decide) mo_AL_add3 mv_AL_add3 kw_567 (by decide) (rcX 0 rfl rfl) rfl (Nat.le_of_ble_eq_true rfl) ⟨Nat.le_of_ble_eq_true rfl, Nat.le_of_ble_eq_true rfl⟩ d_AL_add_20 (fun v2 X2 P2 q => ?_)
      obtain ⟨b, rfl, rfl, hP2⟩ := q
      rw [hP2]
      refine g_ord (X1 := [(a.1, .inr (0, [.int (a.2.1 + 1), .ref b, .int (nI (c + 1))])), (b, .inl (g.2.1 4, c + max 1 (c / 2), .inr (.inr (.inr (.inr (va_up (va_cpy a.2.2.2.2 (fun _ => none) 0 0 c) c (some v))))))), (v, .inr (6, [.int e1, .int e2, .ref e3, .int e4, .int e5]))]) [0, 1, 2] (by decide) rfl ?_
      refine g_iconst (v := 1) C rfl d_AL_add_23 ?_
      refine g_pm (X1 := [(a.1, .inr (0, [.int (a.2.1 + 1, b, c + max 1 (c / 2), va_up (va_cpy a.2.2.2.2 (fun _ => none) 0 0 c) c (some v)).1, .ref (a.2.1 + 1, b, c + max 1 (c / 2), va_up (va_cpy a.2.2.2.2 (fun _ => none) 0 0 c) c (some v)).2.1, .int (nI (c + 1))])), (v, .inr (6, [.int e1, .int e2, .ref e3, .int e4, .int e5]))]) (P1 := arc g (a.1, (a.2.1 + 1, b, c + max 1 (c / 2), va_up (va_cpy a.2.2.2.2 (fun _ => none) 0 0 c) c (some v))) (c + 1) ++ P) (by rw [arc_ne (Nat.succ_ne_zero c)]; exact perm_a3.symm) ?_
      exact g_zret C (Or.inr rfl) rfl ⟨(a.2.1 + 1, b, c + max 1 (c / 2), va_up (va_cpy a.2.2.2.2 (fun _ => none) 0 0 c) c (some v)), (by rw [← hcd]; exact okA_g v b _ ha h0 (by omega)), rfl, rfl, rfl⟩ (by decide) (by decide) d_AL_add_24

set_option maxHeartbeats 4000000 in
set_option maxRecDepth 100000 in
theorem c_AL_add_uFk (l : Launch) (g : Gx) (a : AR) (c : Nat) (ds : List Nat) (v e2 : Nat) (e1 e3 e4 : Int32) (P : va_W) (ha : okA g a ds) (hcd : ds.length = c) (hc : c ≤ 40) (hel : elk P a.2.2.2.2 c) : MP l g y_AL_add b_AL_add 2 (some FieldType.boolean) ({ frames := 6, cells := 1, slots := 60, locals := 150 }) [.ref a.1, .ref v] [(a.1, .inr (0, [.int a.2.1, .ref a.2.2.1, .int (nI c)])), (v, .inr (3, [.int e1, .ref e2, .int e3, .int e4]))] (arc g a c ++ P) (fun v2 X2 P2 => ∃ (b2 : Int32 × Nat × Nat × (Nat → Option Nat)), (okA g (a.1, b2) (ds ++ [v])) ∧ v2 = some (.int 1) ∧ X2 = [(a.1, .inr (0, [.int b2.1, .ref b2.2.1, .int (nI (c + 1))])), (v, .inr (3, [.int e1, .ref e2, .int e3, .int e4]))] ∧ P2 = arc g (a.1, b2) (c + 1) ++ P) := by
  refine MP.of (by decide) (Nat.le_of_ble_eq_true rfl) (fun κ C => ?_)
  have C : zC κ l g ({ frames := 6, cells := 1, slots := 60, locals := 150 }) b_AL_add 2 "java/util/ArrayList" "add" (some FieldType.boolean) _ := C
  refine g_lv (lv1 := [(0, .ref a.1), (1, .ref v)]) [0, 1] rfl ?_
  by_cases h0 : ds = []
  · have hl0 : c = 0 := by rw [← hcd, h0]; rfl
    have hea : a.2.2.1 = g.2.2.1 := ha.1 h0
    refine g_pm (X1 := [(a.1, .inr (0, [.int a.2.1, .ref g.2.2.1, .int 0])), (v, .inr (3, [.int e1, .ref e2, .int e3, .int e4]))]) (P1 := P) (by rw [hl0, hea]; exact List.Perm.refl _) ?_
    refine g_aload_n C 0 rfl d_AL_add_0 ?_
    refine g_dup C rfl d_AL_add_1 ?_
    refine g_getS C 0 rfl rfl in_AL 0 (by decide) kw_259 kw_260 rfl d_AL_add_2 ?_
    refine g_iconst (v := 1) C rfl d_AL_add_5 ?_
    refine g_iadd C d_AL_add_6 ?_
    refine g_putS (X1 := [(a.1, .inr (0, [.int (a.2.1 + 1), .ref g.2.2.1, .int 0])), (v, .inr (3, [.int e1, .ref e2, .int e3, .int e4]))]) C 0 rfl rfl in_AL 0 (by decide) ok_AL nm_AL kw_259 kw_260 rfl rfl rfl (Nat.le_of_ble_eq_true rfl) rfl d_AL_add_7 ?_
    refine g_aload_n C 0 rfl d_AL_add_10 ?_
    refine g_aload_n C 1 rfl d_AL_add_11 ?_
    refine g_aload_n C 0 rfl d_AL_add_12 ?_
    refine g_get C 0 rfl rfl in_AL 1 (by decide) kw_256 rfl d_AL_add_13 ?_
    refine g_aload_n C 0 rfl d_AL_add_16 ?_
    refine g_get C 0 rfl rfl in_AL 2 (by decide) kw_257 rfl d_AL_add_17 ?_
    refine g_callVP (rest := []) C (c_AL_add3_eFk l g a.1 (a.2.1 + 1) v e2 e1 e3 e4 P) [0, 1] [] rfl (by decide) mo_AL_add3 mv_AL_add3 kw_567 (by decide) (rcX 0 rfl rfl) rfl (Nat.le_of_ble_eq_true rfl) ⟨Nat.le_of_ble_eq_true rfl, Nat.le_of_ble_eq_true rfl⟩ d_AL_add_20 (fun v2 X2 P2 q => ?_)
    obtain ⟨b, rfl, rfl, hP2⟩ := q
    rw [hP2]
    refine g_ord (X1 := [(a.1, .inr (0, [.int (a.2.1 + 1), .ref b, .int 1])), (b, .inl (g.2.1 4, 10, .inr (.inr (.inr (.inr (va_up (fun _ => none) 0 (some v))))))), (v, .inr (3, [.int e1, .ref e2, .int e3, .int e4]))]) [0, 1, 2] (by decide) rfl ?_
    refine g_iconst (v := 1) C rfl d_AL_add_23 ?_
    refine g_pm (X1 := [(a.1, .inr (0, [.int (a.2.1 + 1, b, 10, va_up (fun _ => none) 0 (some v)).1, .ref (a.2.1 + 1, b, 10, va_up (fun _ => none) 0 (some v)).2.1, .int (nI (c + 1))])), (v, .inr (3, [.int e1, .ref e2, .int e3, .int e4]))]) (P1 := arc g (a.1, (a.2.1 + 1, b, 10, va_up (fun _ => none) 0 (some v))) (c + 1) ++ P) (by rw [arc_ne (Nat.succ_ne_zero c), hl0]; exact perm_a3.symm) ?_
    exact g_zret C (Or.inr rfl) rfl ⟨(a.2.1 + 1, b, 10, va_up (fun _ => none) 0 (some v)), okA_e _ _ _ _ h0, rfl, rfl, rfl⟩ (by decide) (by decide) d_AL_add_24
  · have hl0 : ¬ c = 0 := fun z => h0 (List.eq_nil_of_length_eq_zero (by omega))
    have h4 := (ha.2 h0).1
    have h5 := (ha.2 h0).2.1
    rcases Nat.lt_or_ge c a.2.2.2.1 with hlt | hge
    · refine g_pm (X1 := [(a.1, .inr (0, [.int a.2.1, .ref a.2.2.1, .int (nI c)])), (a.2.2.1, .inl (g.2.1 4, a.2.2.2.1, .inr (.inr (.inr (.inr a.2.2.2.2))))), (v, .inr (3, [.int e1, .ref e2, .int e3, .int e4]))]) (P1 := P) (by rw [arc_ne hl0]; exact perm_a3) ?_
      refine g_aload_n C 0 rfl d_AL_add_0 ?_
      refine g_dup C rfl d_AL_add_1 ?_
      refine g_getS C 0 rfl rfl in_AL 0 (by decide) kw_259 kw_260 rfl d_AL_add_2 ?_
      refine g_iconst (v := 1) C rfl d_AL_add_5 ?_
      refine g_iadd C d_AL_add_6 ?_
      refine g_putS (X1 := [(a.1, .inr (0, [.int (a.2.1 + 1), .ref a.2.2.1, .int (nI c)])), (a.2.2.1, .inl (g.2.1 4, a.2.2.2.1, .inr (.inr (.inr (.inr a.2.2.2.2))))), (v, .inr (3, [.int e1, .ref e2, .int e3, .int e4]))]) C 0 rfl rfl in_AL 0 (by decide) ok_AL nm_AL kw_259 kw_260 rfl rfl rfl (Nat.le_of_ble_eq_true rfl) rfl d_AL_add_7 ?_
      refine g_aload_n C 0 rfl d_AL_add_10 ?_
      refine g_aload_n C 1 rfl d_AL_add_11 ?_
      refine g_aload_n C 0 rfl d_AL_add_12 ?_
      refine g_get C 0 rfl rfl in_AL 1 (by decide) kw_256 rfl d_AL_add_13 ?_
      refine g_aload_n C 0 rfl d_AL_add_16 ?_
      refine g_get C 0 rfl rfl in_AL 2 (by decide) kw_257 rfl d_AL_add_17 ?_
      refine g_callVP (rest := []) C (c_AL_add3_rFk l g a.1 a.2.2.1 c a.2.2.2.1 (a.2.1 + 1) a.2.2.2.2 v e2 e1 e3 e4 P hlt h5) [0, 1, 2] [] rfl (by decide) mo_AL_add3 mv_AL_add3 kw_567 (by decide) (rcX 0 rfl rfl) rfl (Nat.le_of_ble_eq_true rfl) ⟨Nat.le_of_ble_eq_true rfl, Nat.le_of_ble_eq_true rfl⟩ d_AL_add_20 (fun v2 X2 P2 q => ?_)
      obtain ⟨rfl, rfl, hP2⟩ := q
      rw [hP2]
      refine g_ord (X1 := [(a.1, .inr (0, [.int (a.2.1 + 1), .ref a.2.2.1, .int (nI (c + 1))])), (a.2.2.1, .inl (g.2.1 4, a.2.2.2.1, .inr (.inr (.inr (.inr (va_up a.2.2.2.2 c (some v))))))), (v, .inr (3, [.int e1, .ref e2, .int e3, .int e4]))]) [0, 1, 2] (by decide) rfl ?_
      refine g_iconst (v := 1) C rfl d_AL_add_23 ?_
      refine g_pm (X1 := [(a.1, .inr (0, [.int (a.2.1 + 1, a.2.2.1, a.2.2.2.1, va_up a.2.2.2.2 c (some v)).1, .ref (a.2.1 + 1, a.2.2.1, a.2.2.2.1, va_up a.2.2.2.2 c (some v)).2.1, .int (nI (c + 1))])), (v, .inr (3, [.int e1, .ref e2, .int e3, .int e4]))]) (P1 := arc g (a.1, (a.2.1 + 1, a.2.2.1, a.2.2.2.1, va_up a.2.2.2.2 c (some v))) (c + 1) ++ P) (by rw [arc_ne (Nat.succ_ne_zero c)]; exact perm_a3.symm) ?_
      exact g_zret C (Or.inr rfl) rfl ⟨(a.2.1 + 1, a.2.2.1, a.2.2.2.1, va_up a.2.2.2.2 c (some v)), (by rw [← hcd]; exact okA_r v _ ha h0 (by omega)), rfl, rfl, rfl⟩ (by decide) (by decide) d_AL_add_24
    · have hcp : a.2.2.2.1 = c := by omega
      refine g_pm (X1 := [(a.1, .inr (0, [.int a.2.1, .ref a.2.2.1, .int (nI c)])), (a.2.2.1, .inl (g.2.1 4, c, .inr (.inr (.inr (.inr a.2.2.2.2))))), (v, .inr (3, [.int e1, .ref e2, .int e3, .int e4]))]) (P1 := P) (by rw [arc_ne hl0, hcp]; exact perm_a3) ?_
      refine g_aload_n C 0 rfl d_AL_add_0 ?_
      refine g_dup C rfl d_AL_add_1 ?_
      refine g_getS C 0 rfl rfl in_AL 0 (by decide) kw_259 kw_260 rfl d_AL_add_2 ?_
      refine g_iconst (v := 1) C rfl d_AL_add_5 ?_
      refine g_iadd C d_AL_add_6 ?_
      refine g_putS (X1 := [(a.1, .inr (0, [.int (a.2.1 + 1), .ref a.2.2.1, .int (nI c)])), (a.2.2.1, .inl (g.2.1 4, c, .inr (.inr (.inr (.inr a.2.2.2.2))))), (v, .inr (3, [.int e1, .ref e2, .int e3, .int e4]))]) C 0 rfl rfl in_AL 0 (by decide) ok_AL nm_AL kw_259 kw_260 rfl rfl rfl (Nat.le_of_ble_eq_true rfl) rfl d_AL_add_7 ?_
      refine g_aload_n C 0 rfl d_AL_add_10 ?_
      refine g_aload_n C 1 rfl d_AL_add_11 ?_
      refine g_aload_n C 0 rfl d_AL_add_12 ?_
      refine g_get C 0 rfl rfl in_AL 1 (by decide) kw_256 rfl d_AL_add_13 ?_
      refine g_aload_n C 0 rfl d_AL_add_16 ?_
      refine g_get C 0 rfl rfl in_AL 2 (by decide) kw_257 rfl d_AL_add_17 ?_
      refine g_callVP (rest := []) C (c_AL_add3_gFk l g a.1 a.2.2.1 c (a.2.1 + 1) a.2.2.2.2 v e2 e1 e3 e4 P (by omega) (by omega) hel) [0, 1, 2] [] rfl (by decide) mo_AL_add3 mv_AL_add3 kw_567 (by decide) (rcX 0 rfl rfl) rfl (Nat.le_of_ble_eq_true rfl) ⟨Nat.le_of_ble_eq_true rfl, Nat.le_of_ble_eq_true rfl⟩ d_AL_add_20 (fun v2 X2 P2 q => ?_)
      obtain ⟨b, rfl, rfl, hP2⟩ := q
      rw [hP2]
      refine g_ord (X1 := [(a.1, .inr (0, [.int (a.2.1 + 1), .ref b, .int (nI (c + 1))])), (b, .inl (g.2.1 4, c + max 1 (c / 2), .inr (.inr (.inr (.inr (va_up (va_cpy a.2.2.2.2 (fun _ => none) 0 0 c) c (some v))))))), (v, .inr (3, [.int e1, .ref e2, .int e3, .int e4]))]) [0, 1, 2] (by decide) rfl ?_
      refine g_iconst (v := 1) C rfl d_AL_add_23 ?_
      refine g_pm (X1 := [(a.1, .inr (0, [.int (a.2.1 + 1, b, c + max 1 (c / 2), va_up (va_cpy a.2.2.2.2 (fun _ => none) 0 0 c) c (some v)).1, .ref (a.2.1 + 1, b, c + max 1 (c / 2), va_up (va_cpy a.2.2.2.2 (fun _ => none) 0 0 c) c (some v)).2.1, .int (nI (c + 1))])), (v, .inr (3, [.int e1, .ref e2, .int e3, .int e4]))]) (P1 := arc g (a.1, (a.2.1 + 1, b, c + max 1 (c / 2), va_up (va_cpy a.2.2.2.2 (fun _ => none) 0 0 c) c (some v))) (c + 1) ++ P) (by rw [arc_ne (Nat.succ_ne_zero c)]; exact perm_a3.symm) ?_
      exact g_zret C (Or.inr rfl) rfl ⟨(a.2.1 + 1, b, c + max 1 (c / 2), va_up (va_cpy a.2.2.2.2 (fun _ => none) 0 0 c) c (some v)), (by rw [← hcd]; exact okA_g v b _ ha h0 (by omega)), rfl, rfl, rfl⟩ (by decide) (by decide) d_AL_add_24

