section GN
variable {κ : Kx} {l : Launch} {g : Gx} {R : Room} {cc : ByteArray} {nL : Nat} {own name : String} {ret : Option FieldType} {E : Ex} {cs ss pc q : Nat} {lv : List (Nat × Value)} {st : List Value} {X P : va_W}
theorem push_perm {X P : va_W} {x : Nat × va_E} : ((X ++ P) ++ [x]).Perm ((X ++ [x]) ++ P) := by
  rw [List.append_assoc, List.append_assoc]
  exact List.Perm.append_left _ List.perm_append_comm
theorem g_objInit (C : zC κ l g R cc nL own name ret E) {index a : Nat} (hw : Cond.methodLink own index Lib.objectInit ∈ big) (h2 : Cond.instanceMethod Lib.objectInit ∈ big) (h3 : Cond.code Lib.objectInit ⟨#[0xb1]⟩ 1 none ∈ big) (hf : 1 ≤ R.frames) (hlo : (st.map fun v => v.category).sum + 12 ≤ R.locals) (hd : dz cc pc (.invokespecial index) 3 q) (k : G κ nL cs ss q lv st X P) : G κ nL cs ss pc lv (.ref a :: st) X P := by
  obtain ⟨hd, rfl⟩ := hd
  intro H locs ls hl hP hD hS
  have hx := id C
  obtain ⟨h1, h2', h3', h4, h5, h6, h7, h8, -⟩ := hx
  refine W.objInit h4 h5 h7 (C.w hw) (C.w h2) (C.w h3) (g := F0 κ.2.1.2.1 pc ls (.ref a :: st)) rfl (by rw [h6]; exact hl.1) rfl hd (by rw [h3']; exact hf) (by rw [h3']; show 2 * 0 + _ + 12 ≤ _; omega) ?_
  exact k H locs ls hl hP hD hS
theorem g_new (C : zC κ l g R cc nL own name ret E) {Cn : String} {T : u_T} {N ci index : Nat} {fs : List Value} {ty0 : Nat → FieldType} (hc : vwCl[ci]? = some (Cn, T, N)) (hin : ∀ w ∈ u_ws Cn T N, w ∈ big) (hty : ∀ k, k < N → parseFieldDescriptor (T k).2.2.1 = some (ty0 k)) (w1 : Cond.classLink own index Cn ∈ big) (w2 : Cond.instantiable Cn N ∈ big) (w3 : Cond.initialized Cn ∈ big) (hfs : ∀ j, j < N → defaultValue (ty0 j) = vp_V fs j) (hcc : cs + 1 ≤ R.cells) (hss : ss + N ≤ R.slots) (hd : dz cc pc (.new index) 3 q)
    (k : ∀ a : Nat, (∀ x ∈ X ++ P, x.1 ≠ a) → G κ nL (cs + 1) (ss + N) q lv (.ref a :: st) (X ++ [(a, .inr (ci, fs))]) P) : G κ nL cs ss pc lv st X P := by
  obtain ⟨hd, rfl⟩ := hd
  intro H locs ls hl hP hD hS
  have hx := id C
  obtain ⟨h1, h2', h3', h4, h5, h6, h7, h8, -⟩ := hx
  refine va_new (ci := ci) (fs := fs) h4 h5 h8 hin ty0 hty h7 (C.w w1) (C.w w2) (C.w w3) C.K hP hD hS C.A hc hfs (by rw [h3']; exact hcc) (by rw [h3']; exact hss) hd (fun a H1 hP1 hD1 hS1 => ?_)
  exact k a (fun x hx => D_apart hD1 x hx _ (List.mem_singleton.mpr rfl)) H1 locs ls hl (P_perm push_perm hP1) (D_perm push_perm hD1) hS1
theorem g_newa_i (C : zC κ l g R cc nL own name ret E) {n : Int32} (N : Nat) (hw : Cond.arrayClass .int ∈ big) (hn : ¬ n < 0) (hN : n.toNatClampNeg = N) (hby : N * 8 ≤ 536870912) (hcc : cs + 1 ≤ R.cells) (hss : ss + N ≤ R.slots) (hd : dz cc pc (.newarray .int) 2 q)
    (k : ∀ a : Nat, (∀ x ∈ X ++ P, x.1 ≠ a) → G κ nL (cs + 1) (ss + N) q lv (.ref a :: st) (X ++ [(a, .inl (g.2.1 0, N, .inl (fun _ => 0)))]) P) : G κ nL cs ss pc lv (.int n :: st) X P := by
  obtain ⟨hd, rfl⟩ := hd
  intro H locs ls hl hP hD hS
  have hx := id C
  obtain ⟨h1, h2', h3', h4, h5, h6, h7, h8, -⟩ := hx
  refine va_newa (atype := .int) (a0 := (N, .inl (fun _ => 0))) (ty := .int) h4 h5 (C.w hw) rfl C.K hP hD hS C.A (fun cA => rfl) hn hN (Nat.le_trans (Nat.mul_le_mul_left N (by decide)) hby) (by rw [h3']; exact hcc) (by rw [h3']; exact hss) hd (fun a cA H1 hK1 hP1 hD1 hS1 => ?_)
  have e1 := (hK1.2 5 (cA, .int) rfl).2
  have e2 := (C.K.2 0 (κ.2.2.1.1.2.1 0, .int) rfl).2
  have e3 : cA = g.2.1 0 := by rw [← C.2.1]; exact Option.some.inj (Eq.trans (Eq.symm e1) e2)
  subst e3
  exact k a (fun x hx => D_apart hD1 x hx _ (List.mem_singleton.mpr rfl)) H1 locs ls hl (P_perm push_perm hP1) (D_perm push_perm hD1) hS1
theorem g_newa_l (C : zC κ l g R cc nL own name ret E) {n : Int32} (N : Nat) (hw : Cond.arrayClass .long ∈ big) (hn : ¬ n < 0) (hN : n.toNatClampNeg = N) (hby : N * 8 ≤ 536870912) (hcc : cs + 1 ≤ R.cells) (hss : ss + N ≤ R.slots) (hd : dz cc pc (.newarray .long) 2 q)
    (k : ∀ a : Nat, (∀ x ∈ X ++ P, x.1 ≠ a) → G κ nL (cs + 1) (ss + N) q lv (.ref a :: st) (X ++ [(a, .inl (g.2.1 1, N, .inr (.inl (fun _ => 0))))]) P) : G κ nL cs ss pc lv (.int n :: st) X P := by
  obtain ⟨hd, rfl⟩ := hd
  intro H locs ls hl hP hD hS
  have hx := id C
  obtain ⟨h1, h2', h3', h4, h5, h6, h7, h8, -⟩ := hx
  refine va_newa (atype := .long) (a0 := (N, .inr (.inl (fun _ => 0)))) (ty := .long) h4 h5 (C.w hw) rfl C.K hP hD hS C.A (fun cA => rfl) hn hN (Nat.le_trans (Nat.mul_le_mul_left N (by decide)) hby) (by rw [h3']; exact hcc) (by rw [h3']; exact hss) hd (fun a cA H1 hK1 hP1 hD1 hS1 => ?_)
  have e1 := (hK1.2 5 (cA, .long) rfl).2
  have e2 := (C.K.2 1 (κ.2.2.1.1.2.1 1, .long) rfl).2
  have e3 : cA = g.2.1 1 := by rw [← C.2.1]; exact Option.some.inj (Eq.trans (Eq.symm e1) e2)
  subst e3
  exact k a (fun x hx => D_apart hD1 x hx _ (List.mem_singleton.mpr rfl)) H1 locs ls hl (P_perm push_perm hP1) (D_perm push_perm hD1) hS1
theorem g_newa_b (C : zC κ l g R cc nL own name ret E) {n : Int32} (N : Nat) (hw : Cond.arrayClass .byte ∈ big) (hn : ¬ n < 0) (hN : n.toNatClampNeg = N) (hby : N * 8 ≤ 536870912) (hcc : cs + 1 ≤ R.cells) (hss : ss + N ≤ R.slots) (hd : dz cc pc (.newarray .byte) 2 q)
    (k : ∀ a : Nat, (∀ x ∈ X ++ P, x.1 ≠ a) → G κ nL (cs + 1) (ss + N) q lv (.ref a :: st) (X ++ [(a, .inl (g.2.1 2, N, .inl (fun _ => 0)))]) P) : G κ nL cs ss pc lv (.int n :: st) X P := by
  obtain ⟨hd, rfl⟩ := hd
  intro H locs ls hl hP hD hS
  have hx := id C
  obtain ⟨h1, h2', h3', h4, h5, h6, h7, h8, -⟩ := hx
  refine va_newa (atype := .byte) (a0 := (N, .inl (fun _ => 0))) (ty := .byte) h4 h5 (C.w hw) rfl C.K hP hD hS C.A (fun cA => rfl) hn hN (Nat.le_trans (Nat.mul_le_mul_left N (by decide)) hby) (by rw [h3']; exact hcc) (by rw [h3']; exact hss) hd (fun a cA H1 hK1 hP1 hD1 hS1 => ?_)
  have e1 := (hK1.2 5 (cA, .byte) rfl).2
  have e2 := (C.K.2 2 (κ.2.2.1.1.2.1 2, .byte) rfl).2
  have e3 : cA = g.2.1 2 := by rw [← C.2.1]; exact Option.some.inj (Eq.trans (Eq.symm e1) e2)
  subst e3
  exact k a (fun x hx => D_apart hD1 x hx _ (List.mem_singleton.mpr rfl)) H1 locs ls hl (P_perm push_perm hP1) (D_perm push_perm hD1) hS1
theorem g_newa_z (C : zC κ l g R cc nL own name ret E) {n : Int32} (N : Nat) (hw : Cond.arrayClass .boolean ∈ big) (hn : ¬ n < 0) (hN : n.toNatClampNeg = N) (hby : N * 8 ≤ 536870912) (hcc : cs + 1 ≤ R.cells) (hss : ss + N ≤ R.slots) (hd : dz cc pc (.newarray .boolean) 2 q)
    (k : ∀ a : Nat, (∀ x ∈ X ++ P, x.1 ≠ a) → G κ nL (cs + 1) (ss + N) q lv (.ref a :: st) (X ++ [(a, .inl (g.2.1 3, N, .inl (fun _ => 0)))]) P) : G κ nL cs ss pc lv (.int n :: st) X P := by
  obtain ⟨hd, rfl⟩ := hd
  intro H locs ls hl hP hD hS
  have hx := id C
  obtain ⟨h1, h2', h3', h4, h5, h6, h7, h8, -⟩ := hx
  refine va_newa (atype := .boolean) (a0 := (N, .inl (fun _ => 0))) (ty := .boolean) h4 h5 (C.w hw) rfl C.K hP hD hS C.A (fun cA => rfl) hn hN (Nat.le_trans (Nat.mul_le_mul_left N (by decide)) hby) (by rw [h3']; exact hcc) (by rw [h3']; exact hss) hd (fun a cA H1 hK1 hP1 hD1 hS1 => ?_)
  have e1 := (hK1.2 5 (cA, .boolean) rfl).2
  have e2 := (C.K.2 3 (κ.2.2.1.1.2.1 3, .boolean) rfl).2
  have e3 : cA = g.2.1 3 := by rw [← C.2.1]; exact Option.some.inj (Eq.trans (Eq.symm e1) e2)
  subst e3
  exact k a (fun x hx => D_apart hD1 x hx _ (List.mem_singleton.mpr rfl)) H1 locs ls hl (P_perm push_perm hP1) (D_perm push_perm hD1) hS1
end GN
/-- a truth as an int -/
def zb (c : Prop) [Decidable c] : Int32 := if c then 1 else 0
theorem zb_t {c : Prop} [Decidable c] (h : c) : zb c = 1 := if_pos h
theorem zb_f {c : Prop} [Decidable c] (h : ¬ c) : zb c = 0 := if_neg h
theorem zb_0 {c : Prop} [Decidable c] : zb c = 0 ↔ ¬ c := by
  unfold zb
  by_cases h : c
  · simp [h]
  · simp [h]
theorem zb_n0 {c : Prop} [Decidable c] : ¬ zb c = 0 ↔ c := by
  unfold zb
  by_cases h : c
  · simp [h]
  · simp [h]
theorem zb_or {c : Prop} [Decidable c] : zb c = 0 ∨ zb c = 1 := by
  by_cases h : c
  · exact Or.inr (zb_t h)
  · exact Or.inl (zb_f h)
theorem zb_cong {c d : Prop} [Decidable c] [Decidable d] (h : c ↔ d) : zb c = zb d := by
  by_cases k : c
  · rw [zb_t k, zb_t (h.mp k)]
  · rw [zb_f k, zb_f (fun z => k (h.mpr z))]
