section GQ
variable {κ : Kx} {l : Launch} {g : Gx} {R : Room} {cc : ByteArray} {nL : Nat} {own name : String} {ret : Option FieldType} {E : Ex} {cs ss pc q : Nat} {lv : List (Nat × Value)} {st : List Value} {X P : va_W}
theorem g_qald (C : zC κ l g R cc nL own name ret E) {a n v : Nat} {f : Nat → Option Nat} {x : Int32} (i : Nat) (he : X[i]? = some (a, .inl (g.2.1 4, n, .inr (.inr (.inr (.inr f)))))) (hin : vp_in x n) (hv : f x.toNatClampNeg = some v) (hd : dz cc pc (.aaload) 1 q) (k : G κ nL cs ss q lv (.ref v :: st) X P) : G κ nL cs ss pc lv (.int x :: .ref a :: st) X P := by
  obtain ⟨hd, rfl⟩ := hd
  intro H locs ls hl hP hD hS
  have h := k H locs ls hl hP hD hS
  refine va_aldq C.2.2.2.1 C.2.2.2.2.1 C.K hP i 4 (by rw [List.getElem?_append_left (List.getElem?_eq_some_iff.mp he).1]; exact he) (C := "java/lang/Object") (by rw [C.2.1]; rfl) hin hd ?_
  rw [hv]
  exact h
theorem g_qast (C : zC κ l g R cc nL own name ret E) {a n v ci : Nat} {fs : List Value} {T : u_T} {N : Nat} {Cn : String} {f : Nat → Option Nat} {x : Int32} {X1 : va_W} (i j : Nat) (he : X[i]? = some (a, .inl (g.2.1 4, n, .inr (.inr (.inr (.inr f)))))) (hj : X[j]? = some (v, .inr (ci, fs))) (hc : vwCl[ci]? = some (Cn, T, N)) (hw : Cond.castable Cn "java/lang/Object" ∈ nn) (hin : vp_in x n) (hX : X.set i (a, .inl (g.2.1 4, n, .inr (.inr (.inr (.inr (va_up f x.toNatClampNeg (some v))))))) = X1) (hd : dz cc pc (.aastore) 1 q) (k : G κ nL cs ss q lv st X1 P) : G κ nL cs ss pc lv (.ref v :: .int x :: .ref a :: st) X P := by
  obtain ⟨hd, rfl⟩ := hd
  intro H locs ls hl hP hD hS
  have he2 : (X ++ P)[i]? = some (a, .inl (g.2.1 4, n, .inr (.inr (.inr (.inr f))))) := by rw [List.getElem?_append_left (List.getElem?_eq_some_iff.mp he).1]; exact he
  have hj2 : (X ++ P)[j]? = some (v, .inr (ci, fs)) := by rw [List.getElem?_append_left (List.getElem?_eq_some_iff.mp hj).1]; exact hj
  refine va_astqO C.2.2.2.1 C.2.2.2.2.1 C.K hP hD hS i 4 j ci he2 (E := "java/lang/Object") (by rw [C.2.1]; rfl) (C.ex.2.1 _ hw) hj2 hc hin hd (fun H1 l1 hP1 hD1 hS1 => ?_)
  rw [List.set_append_left _ _ (List.getElem?_eq_some_iff.mp he).1, hX] at hP1 hD1
  exact k H1 l1 ls hl hP1 hD1 hS1
theorem g_qalen (C : zC κ l g R cc nL own name ret E) {a n : Nat} {f : Nat → Option Nat} (i : Nat) (he : X[i]? = some (a, .inl (g.2.1 4, n, .inr (.inr (.inr (.inr f)))))) (hd : dz cc pc (.arraylength) 1 q) (k : G κ nL cs ss q lv (.int (nI n) :: st) X P) : G κ nL cs ss pc lv (.ref a :: st) X P := by
  obtain ⟨hd, rfl⟩ := hd
  intro H locs ls hl hP hD hS
  exact va_alen (x := (n, .inr (.inr (.inr (.inr f))))) C.2.2.2.1 C.2.2.2.2.1 C.K hP i 4 (by rw [List.getElem?_append_left (List.getElem?_eq_some_iff.mp he).1]; exact he) (ty := .object "java/lang/Object") (by rw [C.2.1]; rfl) rfl hd (k H locs ls hl hP hD hS)
theorem g_e0len (C : zC κ l g R cc nL own name ret E) (hd : dz cc pc (.arraylength) 1 q) (k : G κ nL cs ss q lv (.int 0 :: st) X P) : G κ nL cs ss pc lv (.ref g.2.2.1 :: st) X P := by
  obtain ⟨hd, rfl⟩ := hd
  intro H locs ls hl hP hD hS
  exact va_tlen C.2.2.2.1 C.2.2.2.2.1 C.ex.2.2.1.2 hS (v := 0) rfl hd (k H locs ls hl hP hD hS)
theorem g_gets (C : zC κ l g R cc nL own name ret E) {index : Nat} (hw : Cond.fieldLink own index "java/util/ArrayList" "DEFAULTCAPACITY_EMPTY_ELEMENTDATA" "[Ljava/lang/Object;" ∈ big) (hd : dz cc pc (.getstatic index) 3 q) (k : G κ nL cs ss q lv (.ref g.2.2.1 :: st) X P) : G κ nL cs ss pc lv st X P := by
  obtain ⟨hd, rfl⟩ := hd
  intro H locs ls hl hP hD hS
  exact va_gets C.2.2.2.1 C.2.2.2.2.1 C.ex.2.2.1.1 hS C.2.2.2.2.2.2.1 (C.w hw) (fun _ h => h) hd (k H locs ls hl hP hD hS)
theorem g_acmp_eq (C : zC κ l g R cc nL own name ret E) {a b tgt : Nat} (hd : dj cc pc (.if_acmp .eq) q tgt) (kt : a = b → G κ nL cs ss tgt lv st X P) (kf : ¬ a = b → G κ nL cs ss q lv st X P) : G κ nL cs ss pc lv (.ref b :: .ref a :: st) X P := by
  obtain ⟨off, hd, rfl, ht⟩ := hd
  intro H locs ls hl hP hD hS
  exact lv_acmp_eq (rx := some a) (ry := some b) C.2.2.2.1 C.2.2.2.2.1 hd ht (fun h => kt (Option.some.inj h) H locs ls hl hP hD hS) (fun h => kf (fun z => h (congrArg some z)) H locs ls hl hP hD hS)
theorem g_acmp_ne (C : zC κ l g R cc nL own name ret E) {a b tgt : Nat} (hd : dj cc pc (.if_acmp .ne) q tgt) (kt : ¬ a = b → G κ nL cs ss tgt lv st X P) (kf : a = b → G κ nL cs ss q lv st X P) : G κ nL cs ss pc lv (.ref b :: .ref a :: st) X P := by
  obtain ⟨off, hd, rfl, ht⟩ := hd
  intro H locs ls hl hP hD hS
  exact lv_acmp_ne (rx := some a) (ry := some b) C.2.2.2.1 C.2.2.2.2.1 hd ht (fun h => kt (fun z => h (congrArg some z)) H locs ls hl hP hD hS) (fun h => kf (Option.some.inj h) H locs ls hl hP hD hS)
theorem g_newq (C : zC κ l g R cc nL own name ret E) {index : Nat} {n : Int32} (N : Nat) (hw : Cond.classLink own index "java/lang/Object" ∈ big) (hn : ¬ n < 0) (hN : n.toNatClampNeg = N) (hby : N * 4 ≤ 536870912) (hcc : cs + 1 ≤ R.cells) (hss : ss + N ≤ R.slots) (hd : dz cc pc (.anewarray index) 3 q)
    (k : ∀ a : Nat, (∀ x ∈ X ++ P, x.1 ≠ a) → G κ nL (cs + 1) (ss + N) q lv (.ref a :: st) (X ++ [(a, .inl (g.2.1 4, N, .inr (.inr (.inr (.inr (fun _ => none))))))]) P) : G κ nL cs ss pc lv (.int n :: st) X P := by
  obtain ⟨hd, rfl⟩ := hd
  intro H locs ls hl hP hD hS
  have hx := id C
  obtain ⟨h1, h2', h3', h4, h5, h6, h7, h8, -⟩ := hx
  refine va_newq h4 h5 h7 (C.w hw) C.ex.2.2.2.2 C.K hP hD hS C.A hn hN hby (by rw [h3']; exact hcc) (by rw [h3']; exact hss) hd (fun a cA H1 hK1 hP1 hD1 hS1 => ?_)
  have e1 := va_nmO (hK1.2 5 (cA, .object "java/lang/Object") rfl).2 rfl
  have e2 := va_nmO (C.K.2 4 (κ.2.2.1.1.2.1 4, .object "java/lang/Object") rfl).2 rfl
  have e3 : cA = g.2.1 4 := by rw [← C.2.1]; exact Option.some.inj (Eq.trans (Eq.symm e1) e2)
  subst e3
  exact k a (fun x hx => D_apart hD1 x hx _ (List.mem_singleton.mpr rfl)) H1 locs ls hl (P_perm push_perm hP1) (D_perm push_perm hD1) hS1
theorem g_cast (C : zC κ l g R cc nL own name ret E) {index a ci : Nat} {Cn : String} {T : u_T} {N : Nat} (hw : Cond.classLink own index Cn ∈ big) (hc : vwCl[ci]? = some (Cn, T, N)) (hr : rcv (X ++ P) a Cn) (hd : dz cc pc (.checkcast index) 3 q) (k : G κ nL cs ss q lv (.ref a :: st) X P) : G κ nL cs ss pc lv (.ref a :: st) X P := by
  obtain ⟨hd, rfl⟩ := hd
  intro H locs ls hl hP hD hS
  exact va_castS C.2.2.2.1 C.2.2.2.2.1 C.2.2.2.2.2.2.1 (C.w hw) (C.K.1 ci _ hc).2 (rcv_of C hP hr) hd (k H locs ls hl hP hD hS)
theorem g_ldcM (C : zC κ l g R cc nL own name ret E) {index : Nat} (hw : Cond.classLink own index "[Ljava/lang/Object;" ∈ big) (hd : dz cc pc (.ldc index) 2 q) (k : G κ nL cs ss q lv (.ref g.2.2.2 :: st) X P) : G κ nL cs ss pc lv st X P := by
  obtain ⟨hd, rfl⟩ := hd
  intro H locs ls hl hP hD hS
  exact va_ldcM C.2.2.2.1 C.2.2.2.2.1 C.2.2.2.2.2.2.1 (C.w hw) C.ex.2.2.2.1 hd (k H locs ls hl hP hD hS)
theorem g_getC (C : zC κ l g R cc nL own name ret E) {index a n : Nat} {f : Nat → Option Nat} (i : Nat) (he : X[i]? = some (a, .inl (g.2.1 4, n, .inr (.inr (.inr (.inr f)))))) (hw : Cond.methodLink own index ⟨"java/lang/Object", "getClass", "()Ljava/lang/Class;"⟩ ∈ big) (h1 : Cond.declares ⟨"java/lang/Object", "getClass", "()Ljava/lang/Class;"⟩ ∈ nn) (h2 : Cond.selects "[Ljava/lang/Object;" ⟨"java/lang/Object", "getClass", "()Ljava/lang/Class;"⟩ ⟨"java/lang/Object", "getClass", "()Ljava/lang/Class;"⟩ ∈ big) (h3 : Cond.instanceMethod ⟨"java/lang/Object", "getClass", "()Ljava/lang/Class;"⟩ ∈ big) (h4 : Cond.native ⟨"java/lang/Object", "getClass", "()Ljava/lang/Class;"⟩ ∈ big) (hf : 1 ≤ R.frames) (hlo : (st.map fun v => v.category).sum + 14 ≤ R.locals) (hd : dz cc pc (.invokevirtual index) 3 q) (k : G κ nL cs ss q lv (.ref g.2.2.2 :: st) X P) : G κ nL cs ss pc lv (.ref a :: st) X P := by
  obtain ⟨hd, rfl⟩ := hd
  intro H locs ls hl hP hD hS
  have hx := id C
  obtain ⟨q1, q2, q3, q4, q5, q6, q7, q8, -⟩ := hx
  have he2 : (X ++ P)[i]? = some (a, .inl (g.2.1 4, n, .inr (.inr (.inr (.inr f))))) := by rw [List.getElem?_append_left (List.getElem?_eq_some_iff.mp he).1]; exact he
  have e2 := va_nmO (C.K.2 4 (κ.2.2.1.1.2.1 4, .object "java/lang/Object") rfl).2 rfl
  refine va_getC (C := "[Ljava/lang/Object;") q4 q5 (q6.trans hl.1.symm) q7 (C.w hw) (C.nw h1) (C.w h2) (C.w h3) (C.w h4) C.ex.2.2.2.1 ⟨vp_cell (g.2.1 4) (n, .inr (.inr (.inr (.inr f)))), hP i _ he2, rfl, ?_⟩ (by rw [q3]; exact hf) (by rw [q3]; exact hlo) hd (k H locs ls hl hP hD hS)
  rw [← q2]
  exact e2
/-- the elements of a row are objects that a row of Objects may hold -/
def elk (ws : va_W) (f : Nat → Option Nat) (n : Nat) : Prop := ∀ i, i < n → ∀ y, f i = some y → ∃ (ci : Nat) (fs : List Value) (Cn : String) (T : u_T) (N : Nat), (y, .inr (ci, fs)) ∈ ws ∧ vwCl[ci]? = some (Cn, T, N) ∧ Cond.castable Cn "java/lang/Object" ∈ nn
theorem g_copy (C : zC κ l g R cc nL own name ret E) {index a b n0 n1 : Nat} {f h : Nat → Option Nat} {n : Int32} {X1 : va_W} (i j N : Nat) (he : X[i]? = some (a, .inl (g.2.1 4, n0, .inr (.inr (.inr (.inr f)))))) (hj : X[j]? = some (b, .inl (g.2.1 4, n1, .inr (.inr (.inr (.inr h)))))) (hn : ¬ n < 0) (hN : n.toNatClampNeg = N) (h4 : N ≤ n0) (h5 : N ≤ n1) (hel : elk (X ++ P) f N) (w1 : Cond.methodLink own index arraycopyName ∈ big) (w2 : Cond.native arraycopyName ∈ big) (w3 : Cond.static arraycopyName ∈ big) (w4 : Cond.initialized "java/lang/System" ∈ big) (hX : X.set j (b, .inl (g.2.1 4, n1, .inr (.inr (.inr (.inr (va_cpy f h 0 0 N)))))) = X1) (hf : 1 ≤ R.frames) (hlo : (st.map fun v => v.category).sum + (nativeFrameWords "java/lang/System" "arraycopy" 5 + 11) ≤ R.locals) (hd : dz cc pc (.invokestatic index) 3 q) (k : G κ nL cs ss q lv st X1 P) : G κ nL cs ss pc lv (.int n :: .int 0 :: .ref b :: .int 0 :: .ref a :: st) X P := by
  obtain ⟨hd, rfl⟩ := hd
  subst hN
  intro H locs ls hl hP hD hS
  have hx := id C
  obtain ⟨q1, q2, q3, q4, q5, q6, q7, q8, -⟩ := hx
  have he2 : (X ++ P)[i]? = some (a, .inl (g.2.1 4, n0, .inr (.inr (.inr (.inr f))))) := by rw [List.getElem?_append_left (List.getElem?_eq_some_iff.mp he).1]; exact he
  have hj2 : (X ++ P)[j]? = some (b, .inl (g.2.1 4, n1, .inr (.inr (.inr (.inr h))))) := by rw [List.getElem?_append_left (List.getElem?_eq_some_iff.mp hj).1]; exact hj
  have e0 : (0 : Int32).toNatClampNeg = 0 := by decide
  refine va_copyM q4 q5 (q6.trans hl.1.symm) q7 (C.w w1) (C.w w2) (C.w w3) (C.w w4) C.K hP hD hS i j 4 4 he2 hj2 (E0 := "java/lang/Object") (E1 := "java/lang/Object") (by rw [q2]; rfl) (by rw [q2]; rfl) (by decide) (by decide) hn (by rw [e0]; omega) (by rw [e0]; omega) (fun z hz y hy => ?_) (by rw [q3]; exact hf) (by rw [q3]; exact hlo) hd (fun H1 l1 hP1 hD1 hS1 => ?_)
  · rw [e0, Nat.zero_add] at hy
    obtain ⟨ci, fs, Cn, T, N, g1, g2, g3⟩ := hel z hz y hy
    obtain ⟨kk, hk⟩ := List.getElem?_of_mem g1
    refine va_rAny C.K hP hk g2 (fun comp c0 p1 p2 => ?_)
    obtain ⟨c3, t3, w1, w2, w3⟩ := Cond.castable_spec (va_Nw.use (A := #[]) rfl (C.ex.2.1 _ g3))
    cases p1.symm.trans w2
    cases p2.symm.trans w1
    exact w3
  · rw [e0, List.set_append_left _ _ (List.getElem?_eq_some_iff.mp hj).1, hX] at hP1 hD1
    exact k H1 l1 ls hl hP1 hD1 hS1
end GQ
