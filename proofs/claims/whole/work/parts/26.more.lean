section GM
variable {κ : Kx} {l : Launch} {g : Gx} {R : Room} {cc : ByteArray} {nL : Nat} {own name : String} {ret : Option FieldType} {E : Ex} {cs ss pc q : Nat} {lv : List (Nat × Value)} {st : List Value} {X P : va_W}
theorem arrV_ext {cA : ClassId} {n : Nat} {f f' : Nat → Value} (h : ∀ j, j < n → f j = f' j) : arrV cA n f = arrV cA n f' := by
  unfold arrV
  congr 1
  apply Array.ext
  · simp
  · intro i h1 h2
    simp at h1
    simp [h i h1]
/-- a row of ints counts by its first n places alone -/
theorem g_exti {X1 : va_W} {a n : Nat} {cA : ClassId} {f f' : Nat → Int32} (i : Nat) (he : X[i]? = some (a, .inl (cA, n, .inl f))) (hf : ∀ j, j < n → f j = f' j) (hX : X.set i (a, .inl (cA, n, .inl f')) = X1) (k : G κ nL cs ss pc lv st X1 P) : G κ nL cs ss pc lv st X P := by
  intro H locs ls hl hP hD hS
  have he2 : (X ++ P)[i]? = some (a, .inl (cA, n, .inl f)) := by rw [List.getElem?_append_left (List.getElem?_eq_some_iff.mp he).1]; exact he
  have h0 := hP i _ he2
  have h1 : va_at κ.2.2.1.1.1 vwCl (a, .inl (cA, n, .inl f')) H := by
    show H[a]? = some (vp_cell cA (n, .inl f'))
    rw [vp_cell_i, ← arrV_ext (f := fun j => Value.int (f j)) (fun j hj => by rw [hf j hj])]
    exact h0
  have hP1 := hP.set hD he2 h1 (fun _ _ => rfl)
  have hD1 := hD.set (e := .inl (cA, n, .inl f')) he2
  rw [List.set_append_left _ _ (List.getElem?_eq_some_iff.mp he).1, hX] at hP1 hD1
  exact k H locs ls hl hP1 hD1 hS
theorem g_mmax (C : zC κ l g R cc nL own name ret E) {index : Nat} {x y : Int32} (hw : Cond.methodLink own index Lib.Math.max.name ∈ big) (h2 : Cond.static Lib.Math.max.name ∈ big) (h3 : Cond.initialized "java/lang/Math" ∈ big) (h4 : Cond.code Lib.Math.max.name Lib.Math.max.code 2 (some .int) ∈ big) (hf : 1 ≤ R.frames) (hlo : (st.map fun v => v.category).sum + 13 ≤ R.locals) (hc : cs ≤ R.cells) (hs : ss ≤ R.slots) (hd : dz cc pc (.invokestatic index) 3 q) (k : G κ nL cs ss q lv (.int (if x < y then y else x) :: st) X P) : G κ nL cs ss pc lv (.int y :: .int x :: st) X P := by
  obtain ⟨hd, rfl⟩ := hd
  intro H locs ls hl hP hD hS
  have hx := id C
  obtain ⟨h1', h2', h3', h4', h5, h6, h7, h8, -⟩ := hx
  refine va_mmax h4' h5 (h6.trans hl.1.symm) h7 (C.w hw) (C.w h2) (C.w h3) (C.w h4) (by rw [h3']; exact hf) (by rw [h3']; exact hlo) (by rw [h3']; exact hc) (by rw [h3']; exact hs) hd ?_
  exact k H locs ls hl hP hD hS
theorem g_mmin (C : zC κ l g R cc nL own name ret E) {index : Nat} {x y : Int32} (hw : Cond.methodLink own index Lib.Math.min.name ∈ big) (h2 : Cond.static Lib.Math.min.name ∈ big) (h3 : Cond.initialized "java/lang/Math" ∈ big) (h4 : Cond.code Lib.Math.min.name Lib.Math.min.code 2 (some .int) ∈ big) (hf : 1 ≤ R.frames) (hlo : (st.map fun v => v.category).sum + 13 ≤ R.locals) (hc : cs ≤ R.cells) (hs : ss ≤ R.slots) (hd : dz cc pc (.invokestatic index) 3 q) (k : G κ nL cs ss q lv (.int (if y < x then y else x) :: st) X P) : G κ nL cs ss pc lv (.int y :: .int x :: st) X P := by
  obtain ⟨hd, rfl⟩ := hd
  intro H locs ls hl hP hD hS
  have hx := id C
  obtain ⟨h1', h2', h3', h4', h5, h6, h7, h8, -⟩ := hx
  refine va_mmin h4' h5 (h6.trans hl.1.symm) h7 (C.w hw) (C.w h2) (C.w h3) (C.w h4) (by rw [h3']; exact hf) (by rw [h3']; exact hlo) (by rw [h3']; exact hc) (by rw [h3']; exact hs) hd ?_
  exact k H locs ls hl hP hD hS
end GM
section GT
variable {κ : Kx} {l : Launch} {g : Gx} {R : Room} {cc : ByteArray} {nL : Nat} {own name : String} {ret : Option FieldType} {E : Ex} {cs ss pc q : Nat} {lv : List (Nat × Value)} {st : List Value} {X P : va_W}
theorem g_tabIn (C : zC κ l g R cc nL own name ret E) {dflt lo hi off : Int} {offs : Array Int} {len tgt : Nat} {x : Int32} (c : Int32) (hx : x = c) (hd : dz cc pc (.tableswitch dflt lo hi offs) len q) (h1 : ¬ c.toInt < lo) (h2 : ¬ hi < c.toInt) (ho : offs[(c.toInt - lo).toNat]? = some off) (ht : (pc : Int) + off = (tgt : Int)) (k : G κ nL cs ss tgt lv st X P) : G κ nL cs ss pc lv (.int x :: st) X P := by
  subst hx
  obtain ⟨hd, -⟩ := hd
  intro H locs ls hl hP hD hS
  exact lv_tableIn C.2.2.2.1 C.2.2.2.2.1 hd h1 h2 ho ht (k H locs ls hl hP hD hS)
theorem g_tabOut (C : zC κ l g R cc nL own name ret E) {dflt hi : Int} {offs : Array Int} {len tgt : Nat} {x : Int32} (N : Nat) (hN : N < 1000) (hhi : hi = (N : Int)) (hx : ∀ c : Nat, c ≤ N → ¬ x = nI c) (hd : dz cc pc (.tableswitch dflt 0 hi offs) len q) (ht : (pc : Int) + dflt = (tgt : Int)) (k : G κ nL cs ss tgt lv st X P) : G κ nL cs ss pc lv (.int x :: st) X P := by
  obtain ⟨hd, -⟩ := hd
  intro H locs ls hl hP hD hS
  refine lv_tableOut C.2.2.2.1 C.2.2.2.2.1 hd ?_ ht (k H locs ls hl hP hD hS)
  rcases Int.lt_or_le x.toInt 0 with h | h
  · exact Or.inl h
  · refine Or.inr ?_
    rw [hhi]
    rcases Int.lt_or_le (N : Int) x.toInt with h2 | h2
    · exact h2
    · exfalso
      refine hx x.toInt.toNat (by omega) ?_
      apply Int32.toInt_inj.mp
      rw [nI_toInt (by omega)]
      omega
end GT
section GS
variable {κ : Kx} {nL cs ss pc : Nat} {lv : List (Nat × Value)} {st : List Value} {X P : va_W}
/-- some cells go to the tail -/
theorem g_split {X1 P1 : va_W} (ord : List Nat) (hn : va_nd ord = true) (h : pk X ord = X1 ++ P1) (k : G κ nL cs ss pc lv st X1 P1) : G κ nL cs ss pc lv st X [] := by
  intro H locs ls hl hP hD hS
  have a := ord_P (ord := ord) hP
  have b := ord_D hn hD
  rw [h, List.append_nil] at a b
  exact k H locs ls hl a b hS
/-- and come back -/
theorem g_merge {X1 : va_W} (ord : List Nat) (hn : va_nd ord = true) (h : pk (X ++ P) ord = X1) (k : G κ nL cs ss pc lv st X1 []) : G κ nL cs ss pc lv st X P := by
  intro H locs ls hl hP hD hS
  have a := ord_P (ord := ord) (Z := []) (by rw [List.append_nil]; exact hP)
  have b := ord_D (Z := []) hn (by rw [List.append_nil]; exact hD)
  rw [h] at a b
  exact k H locs ls hl a b hS
end GS
