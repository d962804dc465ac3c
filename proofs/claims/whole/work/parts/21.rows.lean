section GR
variable {κ : Kx} {l : Launch} {g : Gx} {R : Room} {cc : ByteArray} {nL : Nat} {own name : String} {ret : Option FieldType} {E : Ex} {cs ss pc q : Nat} {lv : List (Nat × Value)} {st : List Value} {X P : va_W}
theorem zC.w (C : zC κ l g R cc nL own name ret E) {w : Cond} (h : w ∈ big) : w.before κ.2.1.2.2.1 κ.2.1.1 = true := C.2.2.2.2.2.2.2.1 w h
theorem zC.nw (C : zC κ l g R cc nL own name ret E) {w : Cond} (h : w ∈ nn) : w.before κ.2.1.2.2.1 κ.2.1.1 = true := nn_use C.2.2.2.2.2.2.2.2.1.2.1 h
theorem zC.K (C : zC κ l g R cc nL own name ret E) : va_K κ.2.2.1.1.1 vwCl (tyz κ.2.2.1.1.2.1) κ.2.1.1 := by rw [C.2.1]; exact C.2.2.2.2.2.2.2.2.1.1
theorem zC.ex (C : zC κ l g R cc nL own name ret E) : ex_ok g κ.2.2.1.2 κ.2.1.1 := C.2.2.2.2.2.2.2.2.1
theorem zC.A (C : zC κ l g R cc nL own name ret E) : ∀ q, κ.2.1.1.heap.size ≤ q → κ.2.2.1.2 q := C.2.2.2.2.2.2.2.2.2.1
theorem g_iadd (C : zC κ l g R cc nL own name ret E) {x y : Int32} (hd : dz cc pc (.iadd) 1 q) (k : G κ nL cs ss q lv (.int (x + y) :: st) X P) : G κ nL cs ss pc lv (.int y :: .int x :: st) X P := by
  obtain ⟨hd, rfl⟩ := hd
  intro H locs ls hl hP hD hS
  exact lv_iadd C.2.2.2.1 C.2.2.2.2.1 hd (k H locs ls hl hP hD hS)
theorem g_isub (C : zC κ l g R cc nL own name ret E) {x y : Int32} (hd : dz cc pc (.isub) 1 q) (k : G κ nL cs ss q lv (.int (x - y) :: st) X P) : G κ nL cs ss pc lv (.int y :: .int x :: st) X P := by
  obtain ⟨hd, rfl⟩ := hd
  intro H locs ls hl hP hD hS
  exact lv_isub C.2.2.2.1 C.2.2.2.2.1 hd (k H locs ls hl hP hD hS)
theorem g_imul (C : zC κ l g R cc nL own name ret E) {x y : Int32} (hd : dz cc pc (.imul) 1 q) (k : G κ nL cs ss q lv (.int (x * y) :: st) X P) : G κ nL cs ss pc lv (.int y :: .int x :: st) X P := by
  obtain ⟨hd, rfl⟩ := hd
  intro H locs ls hl hP hD hS
  exact lv_imul C.2.2.2.1 C.2.2.2.2.1 hd (k H locs ls hl hP hD hS)
theorem g_iand (C : zC κ l g R cc nL own name ret E) {x y : Int32} (hd : dz cc pc (.iand) 1 q) (k : G κ nL cs ss q lv (.int (x &&& y) :: st) X P) : G κ nL cs ss pc lv (.int y :: .int x :: st) X P := by
  obtain ⟨hd, rfl⟩ := hd
  intro H locs ls hl hP hD hS
  exact lv_iand C.2.2.2.1 C.2.2.2.2.1 hd (k H locs ls hl hP hD hS)
theorem g_ior (C : zC κ l g R cc nL own name ret E) {x y : Int32} (hd : dz cc pc (.ior) 1 q) (k : G κ nL cs ss q lv (.int (x ||| y) :: st) X P) : G κ nL cs ss pc lv (.int y :: .int x :: st) X P := by
  obtain ⟨hd, rfl⟩ := hd
  intro H locs ls hl hP hD hS
  exact lv_ior C.2.2.2.1 C.2.2.2.2.1 hd (k H locs ls hl hP hD hS)
theorem g_ixor (C : zC κ l g R cc nL own name ret E) {x y : Int32} (hd : dz cc pc (.ixor) 1 q) (k : G κ nL cs ss q lv (.int (x ^^^ y) :: st) X P) : G κ nL cs ss pc lv (.int y :: .int x :: st) X P := by
  obtain ⟨hd, rfl⟩ := hd
  intro H locs ls hl hP hD hS
  exact lv_ixor C.2.2.2.1 C.2.2.2.2.1 hd (k H locs ls hl hP hD hS)
theorem g_ladd (C : zC κ l g R cc nL own name ret E) {x y : Int64} (hd : dz cc pc (.ladd) 1 q) (k : G κ nL cs ss q lv (.long (x + y) :: st) X P) : G κ nL cs ss pc lv (.long y :: .long x :: st) X P := by
  obtain ⟨hd, rfl⟩ := hd
  intro H locs ls hl hP hD hS
  exact lv_ladd C.2.2.2.1 C.2.2.2.2.1 hd (k H locs ls hl hP hD hS)
theorem g_lmul (C : zC κ l g R cc nL own name ret E) {x y : Int64} (hd : dz cc pc (.lmul) 1 q) (k : G κ nL cs ss q lv (.long (x * y) :: st) X P) : G κ nL cs ss pc lv (.long y :: .long x :: st) X P := by
  obtain ⟨hd, rfl⟩ := hd
  intro H locs ls hl hP hD hS
  exact lv_lmul C.2.2.2.1 C.2.2.2.2.1 hd (k H locs ls hl hP hD hS)
theorem g_land (C : zC κ l g R cc nL own name ret E) {x y : Int64} (hd : dz cc pc (.land) 1 q) (k : G κ nL cs ss q lv (.long (x &&& y) :: st) X P) : G κ nL cs ss pc lv (.long y :: .long x :: st) X P := by
  obtain ⟨hd, rfl⟩ := hd
  intro H locs ls hl hP hD hS
  exact lv_land C.2.2.2.1 C.2.2.2.2.1 hd (k H locs ls hl hP hD hS)
theorem g_lor (C : zC κ l g R cc nL own name ret E) {x y : Int64} (hd : dz cc pc (.lor) 1 q) (k : G κ nL cs ss q lv (.long (x ||| y) :: st) X P) : G κ nL cs ss pc lv (.long y :: .long x :: st) X P := by
  obtain ⟨hd, rfl⟩ := hd
  intro H locs ls hl hP hD hS
  exact lv_lor C.2.2.2.1 C.2.2.2.2.1 hd (k H locs ls hl hP hD hS)
theorem g_ishl (C : zC κ l g R cc nL own name ret E) {x y : Int32} (hd : dz cc pc (.ishl) 1 q) (k : G κ nL cs ss q lv (.int (x <<< (y &&& 31)) :: st) X P) : G κ nL cs ss pc lv (.int y :: .int x :: st) X P := by
  obtain ⟨hd, rfl⟩ := hd
  intro H locs ls hl hP hD hS
  exact lv_ishl C.2.2.2.1 C.2.2.2.2.1 hd (k H locs ls hl hP hD hS)
theorem g_ishr (C : zC κ l g R cc nL own name ret E) {x y : Int32} (hd : dz cc pc (.ishr) 1 q) (k : G κ nL cs ss q lv (.int (x >>> (y &&& 31)) :: st) X P) : G κ nL cs ss pc lv (.int y :: .int x :: st) X P := by
  obtain ⟨hd, rfl⟩ := hd
  intro H locs ls hl hP hD hS
  exact lv_ishr C.2.2.2.1 C.2.2.2.2.1 hd (k H locs ls hl hP hD hS)
theorem g_iushr (C : zC κ l g R cc nL own name ret E) {x y v : Int32} (hv : (x.toUInt32 >>> (y.toUInt32 &&& Int32.toUInt32 31)).toInt32 = v) (hd : dz cc pc (.iushr) 1 q) (k : G κ nL cs ss q lv (.int v :: st) X P) : G κ nL cs ss pc lv (.int y :: .int x :: st) X P := by
  obtain ⟨hd, rfl⟩ := hd
  intro H locs ls hl hP hD hS
  exact lv_iushr C.2.2.2.1 C.2.2.2.2.1 hd hv (k H locs ls hl hP hD hS)
theorem g_lshl (C : zC κ l g R cc nL own name ret E) {x v : Int64} {y : Int32} (hv : x <<< (y.toInt64 &&& 63) = v) (hd : dz cc pc (.lshl) 1 q) (k : G κ nL cs ss q lv (.long v :: st) X P) : G κ nL cs ss pc lv (.int y :: .long x :: st) X P := by
  obtain ⟨hd, rfl⟩ := hd
  intro H locs ls hl hP hD hS
  exact lv_lshl C.2.2.2.1 C.2.2.2.2.1 hd hv (k H locs ls hl hP hD hS)
theorem g_lushr (C : zC κ l g R cc nL own name ret E) {x v : Int64} {y : Int32} (hv : (x.toUInt64 >>> (y.toInt64.toUInt64 &&& Int64.toUInt64 63)).toInt64 = v) (hd : dz cc pc (.lushr) 1 q) (k : G κ nL cs ss q lv (.long v :: st) X P) : G κ nL cs ss pc lv (.int y :: .long x :: st) X P := by
  obtain ⟨hd, rfl⟩ := hd
  intro H locs ls hl hP hD hS
  exact lv_lushr C.2.2.2.1 C.2.2.2.2.1 hd hv (k H locs ls hl hP hD hS)
theorem g_idiv (C : zC κ l g R cc nL own name ret E) {x y : Int32} (hne : ¬ y = 0) (hd : dz cc pc (.idiv) 1 q) (k : G κ nL cs ss q lv (.int (x / y) :: st) X P) : G κ nL cs ss pc lv (.int y :: .int x :: st) X P := by
  obtain ⟨hd, rfl⟩ := hd
  intro H locs ls hl hP hD hS
  exact lv_idiv C.2.2.2.1 C.2.2.2.2.1 hd hne (k H locs ls hl hP hD hS)
theorem g_irem (C : zC κ l g R cc nL own name ret E) {x y : Int32} (hne : ¬ y = 0) (hd : dz cc pc (.irem) 1 q) (k : G κ nL cs ss q lv (.int (x - x / y * y) :: st) X P) : G κ nL cs ss pc lv (.int y :: .int x :: st) X P := by
  obtain ⟨hd, rfl⟩ := hd
  intro H locs ls hl hP hD hS
  exact lv_irem C.2.2.2.1 C.2.2.2.2.1 hd hne (k H locs ls hl hP hD hS)
theorem g_ineg (C : zC κ l g R cc nL own name ret E) {x : Int32} (hd : dz cc pc (.ineg) 1 q) (k : G κ nL cs ss q lv (.int (-x) :: st) X P) : G κ nL cs ss pc lv (.int x :: st) X P := by
  obtain ⟨hd, rfl⟩ := hd
  intro H locs ls hl hP hD hS
  exact lv_ineg C.2.2.2.1 C.2.2.2.2.1 hd (k H locs ls hl hP hD hS)
theorem g_i2l (C : zC κ l g R cc nL own name ret E) {x : Int32} (hd : dz cc pc (.i2l) 1 q) (k : G κ nL cs ss q lv (.long x.toInt64 :: st) X P) : G κ nL cs ss pc lv (.int x :: st) X P := by
  obtain ⟨hd, rfl⟩ := hd
  intro H locs ls hl hP hD hS
  exact lv_i2l C.2.2.2.1 C.2.2.2.2.1 hd rfl (k H locs ls hl hP hD hS)
theorem g_l2i (C : zC κ l g R cc nL own name ret E) {x : Int64} (hd : dz cc pc (.l2i) 1 q) (k : G κ nL cs ss q lv (.int x.toInt32 :: st) X P) : G κ nL cs ss pc lv (.long x :: st) X P := by
  obtain ⟨hd, rfl⟩ := hd
  intro H locs ls hl hP hD hS
  exact lv_l2i C.2.2.2.1 C.2.2.2.2.1 hd rfl (k H locs ls hl hP hD hS)
theorem g_i2b (C : zC κ l g R cc nL own name ret E) {x : Int32} (hd : dz cc pc (.i2b) 1 q) (k : G κ nL cs ss q lv (.int x.toInt8.toInt32 :: st) X P) : G κ nL cs ss pc lv (.int x :: st) X P := by
  obtain ⟨hd, rfl⟩ := hd
  intro H locs ls hl hP hD hS
  exact lv_i2b C.2.2.2.1 C.2.2.2.2.1 hd rfl (k H locs ls hl hP hD hS)
theorem g_lcmp (C : zC κ l g R cc nL own name ret E) {x y : Int64} (hd : dz cc pc (.lcmp) 1 q) (k : G κ nL cs ss q lv (.int (lg_cmp x y) :: st) X P) : G κ nL cs ss pc lv (.long y :: .long x :: st) X P := by
  obtain ⟨hd, rfl⟩ := hd
  intro H locs ls hl hP hD hS
  exact W.lcmp C.2.2.2.1 C.2.2.2.2.1 hd (k H locs ls hl hP hD hS)
theorem g_iconst (C : zC κ l g R cc nL own name ret E) {n : Int} {v : Int32} (hv : Int32.ofInt n = v) (hd : dz cc pc (.iconst n) 1 q) (k : G κ nL cs ss q lv (.int v :: st) X P) : G κ nL cs ss pc lv st X P := by
  obtain ⟨hd, rfl⟩ := hd
  intro H locs ls hl hP hD hS
  exact lv_iconst C.2.2.2.1 C.2.2.2.2.1 hd hv (k H locs ls hl hP hD hS)
theorem g_bipush (C : zC κ l g R cc nL own name ret E) {n : Int} {v : Int32} (hv : (Int8.ofInt n).toInt32 = v) (hd : dz cc pc (.bipush n) 2 q) (k : G κ nL cs ss q lv (.int v :: st) X P) : G κ nL cs ss pc lv st X P := by
  obtain ⟨hd, rfl⟩ := hd
  intro H locs ls hl hP hD hS
  exact lv_bipush C.2.2.2.1 C.2.2.2.2.1 hd hv (k H locs ls hl hP hD hS)
theorem g_sipush (C : zC κ l g R cc nL own name ret E) {n : Int} {v : Int32} (hv : (Int16.ofInt n).toInt32 = v) (hd : dz cc pc (.sipush n) 3 q) (k : G κ nL cs ss q lv (.int v :: st) X P) : G κ nL cs ss pc lv st X P := by
  obtain ⟨hd, rfl⟩ := hd
  intro H locs ls hl hP hD hS
  exact lv_sipush C.2.2.2.1 C.2.2.2.2.1 hd hv (k H locs ls hl hP hD hS)
theorem g_lconst (C : zC κ l g R cc nL own name ret E) {n : Fin 2} {v : Int64} (hv : Int64.ofNat (n : Nat) = v) (hd : dz cc pc (.lconst n) 1 q) (k : G κ nL cs ss q lv (.long v :: st) X P) : G κ nL cs ss pc lv st X P := by
  obtain ⟨hd, rfl⟩ := hd
  intro H locs ls hl hP hD hS
  exact lv_lconst C.2.2.2.1 C.2.2.2.2.1 hd hv (k H locs ls hl hP hD hS)
theorem g_ldc (C : zC κ l g R cc nL own name ret E) {index : Nat} {v : Int32} (hw : Cond.constant own index v ∈ big) (hd : dz cc pc (.ldc index) 2 q) (k : G κ nL cs ss q lv (.int v :: st) X P) : G κ nL cs ss pc lv st X P := by
  obtain ⟨hd, rfl⟩ := hd
  intro H locs ls hl hP hD hS
  exact lv_ldc C.2.2.2.1 C.2.2.2.2.1 C.2.2.2.2.2.2.1 (C.w hw) hd (k H locs ls hl hP hD hS)
theorem g_ldcw (C : zC κ l g R cc nL own name ret E) {index : Nat} {v : Int32} (hw : Cond.constant own index v ∈ big) (hd : dz cc pc (.ldc_w index) 3 q) (k : G κ nL cs ss q lv (.int v :: st) X P) : G κ nL cs ss pc lv st X P := by
  obtain ⟨hd, rfl⟩ := hd
  intro H locs ls hl hP hD hS
  exact lv_ldcw C.2.2.2.1 C.2.2.2.2.1 C.2.2.2.2.2.2.1 (C.w hw) hd (k H locs ls hl hP hD hS)
theorem g_ldc2 (C : zC κ l g R cc nL own name ret E) {index : Nat} {v : Int64} (hw : Cond.constantLong own index v ∈ big) (hd : dz cc pc (.ldc2_w index) 3 q) (k : G κ nL cs ss q lv (.long v :: st) X P) : G κ nL cs ss pc lv st X P := by
  obtain ⟨hd, rfl⟩ := hd
  intro H locs ls hl hP hD hS
  exact lv_ldc2 C.2.2.2.1 C.2.2.2.2.1 C.2.2.2.2.2.2.1 (C.w hw) hd (k H locs ls hl hP hD hS)
theorem g_null (C : zC κ l g R cc nL own name ret E)  (hd : dz cc pc (.aconst_null) 1 q) (k : G κ nL cs ss q lv (.null :: st) X P) : G κ nL cs ss pc lv st X P := by
  obtain ⟨hd, rfl⟩ := hd
  intro H locs ls hl hP hD hS
  exact lv_null C.2.2.2.1 C.2.2.2.2.1 hd (k H locs ls hl hP hD hS)
theorem g_dup (C : zC κ l g R cc nL own name ret E) {va : Value} (hva : va.category = 1) (hd : dz cc pc (.dup) 1 q) (k : G κ nL cs ss q lv (va :: va :: st) X P) : G κ nL cs ss pc lv (va :: st) X P := by
  obtain ⟨hd, rfl⟩ := hd
  intro H locs ls hl hP hD hS
  exact lv_dup C.2.2.2.1 C.2.2.2.2.1 hd hva (k H locs ls hl hP hD hS)
theorem g_pop (C : zC κ l g R cc nL own name ret E) {va : Value} (hva : va.category = 1) (hd : dz cc pc (.pop) 1 q) (k : G κ nL cs ss q lv st X P) : G κ nL cs ss pc lv (va :: st) X P := by
  obtain ⟨hd, rfl⟩ := hd
  intro H locs ls hl hP hD hS
  exact lv_pop C.2.2.2.1 C.2.2.2.2.1 hd hva (k H locs ls hl hP hD hS)
theorem g_dup2 (C : zC κ l g R cc nL own name ret E) {va vb : Value} (hva : va.category = 1) (hvb : vb.category = 1) (hd : dz cc pc (.dup2) 1 q) (k : G κ nL cs ss q lv (va :: vb :: va :: vb :: st) X P) : G κ nL cs ss pc lv (va :: vb :: st) X P := by
  obtain ⟨hd, rfl⟩ := hd
  intro H locs ls hl hP hD hS
  exact lv_dup2_11 C.2.2.2.1 C.2.2.2.2.1 hd hva hvb (k H locs ls hl hP hD hS)
theorem g_dup_x1 (C : zC κ l g R cc nL own name ret E) {va vb : Value} (hva : va.category = 1) (hvb : vb.category = 1) (hd : dz cc pc (.dup_x1) 1 q) (k : G κ nL cs ss q lv (va :: vb :: va :: st) X P) : G κ nL cs ss pc lv (va :: vb :: st) X P := by
  obtain ⟨hd, rfl⟩ := hd
  intro H locs ls hl hP hD hS
  exact lv_dup_x1 C.2.2.2.1 C.2.2.2.2.1 hd hva hvb (k H locs ls hl hP hD hS)
theorem g_iload_n (C : zC κ l g R cc nL own name ret E) {k4 : Fin 4} {x : Int32} (i : Nat) (hk : lv[i]? = some ((k4 : Nat), .int x)) (hd : dz cc pc (.iload_n k4) 1 q) (k : G κ nL cs ss q lv (.int x :: st) X P) : G κ nL cs ss pc lv st X P := by
  obtain ⟨hd, rfl⟩ := hd
  intro H locs ls hl hP hD hS
  exact lv_iload_n C.2.2.2.1 C.2.2.2.2.1 hd rfl (lv_at hl i hk) (k H locs ls hl hP hD hS)
theorem g_iload (C : zC κ l g R cc nL own name ret E) {j : Nat} {x : Int32} (i : Nat) (hk : lv[i]? = some (j, .int x)) (hd : dz cc pc (.iload j) 2 q) (k : G κ nL cs ss q lv (.int x :: st) X P) : G κ nL cs ss pc lv st X P := by
  obtain ⟨hd, rfl⟩ := hd
  intro H locs ls hl hP hD hS
  exact lv_iload C.2.2.2.1 C.2.2.2.2.1 hd (lv_at hl i hk) (k H locs ls hl hP hD hS)
theorem g_lload_n (C : zC κ l g R cc nL own name ret E) {k4 : Fin 4} {x : Int64} (i : Nat) (hk : lv[i]? = some ((k4 : Nat), .long x)) (hd : dz cc pc (.lload_n k4) 1 q) (k : G κ nL cs ss q lv (.long x :: st) X P) : G κ nL cs ss pc lv st X P := by
  obtain ⟨hd, rfl⟩ := hd
  intro H locs ls hl hP hD hS
  exact lv_lload_n C.2.2.2.1 C.2.2.2.2.1 hd rfl (lv_at hl i hk) (k H locs ls hl hP hD hS)
theorem g_lload (C : zC κ l g R cc nL own name ret E) {j : Nat} {x : Int64} (i : Nat) (hk : lv[i]? = some (j, .long x)) (hd : dz cc pc (.lload j) 2 q) (k : G κ nL cs ss q lv (.long x :: st) X P) : G κ nL cs ss pc lv st X P := by
  obtain ⟨hd, rfl⟩ := hd
  intro H locs ls hl hP hD hS
  exact lv_lload C.2.2.2.1 C.2.2.2.2.1 hd (lv_at hl i hk) (k H locs ls hl hP hD hS)
theorem g_aload_n (C : zC κ l g R cc nL own name ret E) {k4 : Fin 4} {x : Nat} (i : Nat) (hk : lv[i]? = some ((k4 : Nat), .ref x)) (hd : dz cc pc (.aload_n k4) 1 q) (k : G κ nL cs ss q lv (.ref x :: st) X P) : G κ nL cs ss pc lv st X P := by
  obtain ⟨hd, rfl⟩ := hd
  intro H locs ls hl hP hD hS
  exact lv_aload_n C.2.2.2.1 C.2.2.2.2.1 hd rfl (lv_at hl i hk) (k H locs ls hl hP hD hS)
theorem g_aload (C : zC κ l g R cc nL own name ret E) {j : Nat} {x : Nat} (i : Nat) (hk : lv[i]? = some (j, .ref x)) (hd : dz cc pc (.aload j) 2 q) (k : G κ nL cs ss q lv (.ref x :: st) X P) : G κ nL cs ss pc lv st X P := by
  obtain ⟨hd, rfl⟩ := hd
  intro H locs ls hl hP hD hS
  exact lv_aload C.2.2.2.1 C.2.2.2.2.1 hd (lv_at hl i hk) (k H locs ls hl hP hD hS)
theorem g_istore (C : zC κ l g R cc nL own name ret E) {j : Nat} {x : Int32} {lv1 : List (Nat × Value)} (hd : dz cc pc (.istore j) 2 q) (ks : List Nat) (hn : j < nL) (hk : lv_pick ((j, Value.int x) :: lv.filter (fun q => !(q.1 == j) && !(q.1 + 1 == j && q.2.category == 2))) ks = lv1) (k : G κ nL cs ss q lv1 st X P) : G κ nL cs ss pc lv (.int x :: st) X P := by
  obtain ⟨hd, rfl⟩ := hd
  intro H locs ls hl hP hD hS
  exact lv_istore C.2.2.2.1 C.2.2.2.2.1 hd hl hn rfl (fun ls1 h1 => k H locs ls1 (lv_sub h1 ks hk) hP hD hS)
theorem g_istore_n (C : zC κ l g R cc nL own name ret E) {k4 : Fin 4} {x : Int32} {lv1 : List (Nat × Value)} (hd : dz cc pc (.istore_n k4) 1 q) (ks : List Nat) (hn : (k4 : Nat) < nL) (hk : lv_pick (((k4 : Nat), Value.int x) :: lv.filter (fun q => !(q.1 == (k4 : Nat)) && !(q.1 + 1 == (k4 : Nat) && q.2.category == 2))) ks = lv1) (k : G κ nL cs ss q lv1 st X P) : G κ nL cs ss pc lv (.int x :: st) X P := by
  obtain ⟨hd, rfl⟩ := hd
  intro H locs ls hl hP hD hS
  exact lv_istore_n C.2.2.2.1 C.2.2.2.2.1 hd rfl hl hn rfl (fun ls1 h1 => k H locs ls1 (lv_sub h1 ks hk) hP hD hS)
theorem g_lstore (C : zC κ l g R cc nL own name ret E) {j : Nat} {x : Int64} {lv1 : List (Nat × Value)} (hd : dz cc pc (.lstore j) 2 q) (ks : List Nat) (hn : j + 1 < nL) (hk : lv_pick ((j, Value.long x) :: lv.filter (fun q => !(q.1 == j) && (!(q.1 == j + 1) && !(q.1 + 1 == j && q.2.category == 2)))) ks = lv1) (k : G κ nL cs ss q lv1 st X P) : G κ nL cs ss pc lv (.long x :: st) X P := by
  obtain ⟨hd, rfl⟩ := hd
  intro H locs ls hl hP hD hS
  exact lv_lstore C.2.2.2.1 C.2.2.2.2.1 hd hl hn rfl (fun ls1 h1 => k H locs ls1 (lv_sub h1 ks hk) hP hD hS)
theorem g_lstore_n (C : zC κ l g R cc nL own name ret E) {k4 : Fin 4} {x : Int64} {lv1 : List (Nat × Value)} (hd : dz cc pc (.lstore_n k4) 1 q) (ks : List Nat) (hn : (k4 : Nat) + 1 < nL) (hk : lv_pick (((k4 : Nat), Value.long x) :: lv.filter (fun q => !(q.1 == (k4 : Nat)) && (!(q.1 == (k4 : Nat) + 1) && !(q.1 + 1 == (k4 : Nat) && q.2.category == 2)))) ks = lv1) (k : G κ nL cs ss q lv1 st X P) : G κ nL cs ss pc lv (.long x :: st) X P := by
  obtain ⟨hd, rfl⟩ := hd
  intro H locs ls hl hP hD hS
  exact lv_lstore_n C.2.2.2.1 C.2.2.2.2.1 hd rfl hl hn rfl (fun ls1 h1 => k H locs ls1 (lv_sub h1 ks hk) hP hD hS)
theorem g_astore (C : zC κ l g R cc nL own name ret E) {j : Nat} {x : Nat} {lv1 : List (Nat × Value)} (hd : dz cc pc (.astore j) 2 q) (ks : List Nat) (hn : j < nL) (hk : lv_pick ((j, Value.ref x) :: lv.filter (fun q => !(q.1 == j) && !(q.1 + 1 == j && q.2.category == 2))) ks = lv1) (k : G κ nL cs ss q lv1 st X P) : G κ nL cs ss pc lv (.ref x :: st) X P := by
  obtain ⟨hd, rfl⟩ := hd
  intro H locs ls hl hP hD hS
  exact lv_astore C.2.2.2.1 C.2.2.2.2.1 hd hl hn rfl (fun ls1 h1 => k H locs ls1 (lv_sub h1 ks hk) hP hD hS)
theorem g_astore_n (C : zC κ l g R cc nL own name ret E) {k4 : Fin 4} {x : Nat} {lv1 : List (Nat × Value)} (hd : dz cc pc (.astore_n k4) 1 q) (ks : List Nat) (hn : (k4 : Nat) < nL) (hk : lv_pick (((k4 : Nat), Value.ref x) :: lv.filter (fun q => !(q.1 == (k4 : Nat)) && !(q.1 + 1 == (k4 : Nat) && q.2.category == 2))) ks = lv1) (k : G κ nL cs ss q lv1 st X P) : G κ nL cs ss pc lv (.ref x :: st) X P := by
  obtain ⟨hd, rfl⟩ := hd
  intro H locs ls hl hP hD hS
  exact lv_astore_n C.2.2.2.1 C.2.2.2.2.1 hd rfl hl hn rfl (fun ls1 h1 => k H locs ls1 (lv_sub h1 ks hk) hP hD hS)
theorem g_iinc (C : zC κ l g R cc nL own name ret E) {j : Nat} {n : Int} {x v : Int32} {lv1 : List (Nat × Value)} (hd : dz cc pc (.iinc j n) 3 q) (i : Nat) (hi : lv[i]? = some (j, .int x)) (hv : x + Int32.ofInt n = v) (ks : List Nat) (hn : j < nL) (hk : lv_pick ((j, Value.int v) :: lv.filter (fun q => !(q.1 == j) && !(q.1 + 1 == j && q.2.category == 2))) ks = lv1) (k : G κ nL cs ss q lv1 st X P) : G κ nL cs ss pc lv st X P := by
  obtain ⟨hd, rfl⟩ := hd
  intro H locs ls hl hP hD hS
  exact lv_iinc C.2.2.2.1 C.2.2.2.2.1 hd hl hi hv hn rfl (fun ls1 h1 => k H locs ls1 (lv_sub h1 ks hk) hP hD hS)
theorem g_if_eq (C : zC κ l g R cc nL own name ret E) {x : Int32} {tgt : Nat} (hd : dj cc pc (.ifCond .eq) q tgt) (kt : x = 0 → G κ nL cs ss tgt lv st X P) (kf : ¬ x = 0 → G κ nL cs ss q lv st X P) : G κ nL cs ss pc lv (.int x :: st) X P := by
  obtain ⟨off, hd, rfl, ht⟩ := hd
  intro H locs ls hl hP hD hS
  exact lv_if_eq C.2.2.2.1 C.2.2.2.2.1 hd ht (fun h => kt h H locs ls hl hP hD hS) (fun h => kf h H locs ls hl hP hD hS)
theorem g_icmp_eq (C : zC κ l g R cc nL own name ret E) {x y : Int32} {tgt : Nat} (hd : dj cc pc (.if_icmp .eq) q tgt) (kt : x = y → G κ nL cs ss tgt lv st X P) (kf : ¬ x = y → G κ nL cs ss q lv st X P) : G κ nL cs ss pc lv (.int y :: .int x :: st) X P := by
  obtain ⟨off, hd, rfl, ht⟩ := hd
  intro H locs ls hl hP hD hS
  exact lv_icmp_eq C.2.2.2.1 C.2.2.2.2.1 hd ht (fun h => kt h H locs ls hl hP hD hS) (fun h => kf h H locs ls hl hP hD hS)
theorem g_if_ne (C : zC κ l g R cc nL own name ret E) {x : Int32} {tgt : Nat} (hd : dj cc pc (.ifCond .ne) q tgt) (kt : ¬ x = 0 → G κ nL cs ss tgt lv st X P) (kf : x = 0 → G κ nL cs ss q lv st X P) : G κ nL cs ss pc lv (.int x :: st) X P := by
  obtain ⟨off, hd, rfl, ht⟩ := hd
  intro H locs ls hl hP hD hS
  exact lv_if_ne C.2.2.2.1 C.2.2.2.2.1 hd ht (fun h => kt h H locs ls hl hP hD hS) (fun h => kf h H locs ls hl hP hD hS)
theorem g_icmp_ne (C : zC κ l g R cc nL own name ret E) {x y : Int32} {tgt : Nat} (hd : dj cc pc (.if_icmp .ne) q tgt) (kt : ¬ x = y → G κ nL cs ss tgt lv st X P) (kf : x = y → G κ nL cs ss q lv st X P) : G κ nL cs ss pc lv (.int y :: .int x :: st) X P := by
  obtain ⟨off, hd, rfl, ht⟩ := hd
  intro H locs ls hl hP hD hS
  exact lv_icmp_ne C.2.2.2.1 C.2.2.2.2.1 hd ht (fun h => kt h H locs ls hl hP hD hS) (fun h => kf h H locs ls hl hP hD hS)
theorem g_if_lt (C : zC κ l g R cc nL own name ret E) {x : Int32} {tgt : Nat} (hd : dj cc pc (.ifCond .lt) q tgt) (kt : x < 0 → G κ nL cs ss tgt lv st X P) (kf : ¬ x < 0 → G κ nL cs ss q lv st X P) : G κ nL cs ss pc lv (.int x :: st) X P := by
  obtain ⟨off, hd, rfl, ht⟩ := hd
  intro H locs ls hl hP hD hS
  exact lv_if_lt C.2.2.2.1 C.2.2.2.2.1 hd ht (fun h => kt h H locs ls hl hP hD hS) (fun h => kf h H locs ls hl hP hD hS)
theorem g_icmp_lt (C : zC κ l g R cc nL own name ret E) {x y : Int32} {tgt : Nat} (hd : dj cc pc (.if_icmp .lt) q tgt) (kt : x < y → G κ nL cs ss tgt lv st X P) (kf : ¬ x < y → G κ nL cs ss q lv st X P) : G κ nL cs ss pc lv (.int y :: .int x :: st) X P := by
  obtain ⟨off, hd, rfl, ht⟩ := hd
  intro H locs ls hl hP hD hS
  exact lv_icmp_lt C.2.2.2.1 C.2.2.2.2.1 hd ht (fun h => kt h H locs ls hl hP hD hS) (fun h => kf h H locs ls hl hP hD hS)
theorem g_if_ge (C : zC κ l g R cc nL own name ret E) {x : Int32} {tgt : Nat} (hd : dj cc pc (.ifCond .ge) q tgt) (kt : 0 ≤ x → G κ nL cs ss tgt lv st X P) (kf : ¬ 0 ≤ x → G κ nL cs ss q lv st X P) : G κ nL cs ss pc lv (.int x :: st) X P := by
  obtain ⟨off, hd, rfl, ht⟩ := hd
  intro H locs ls hl hP hD hS
  exact lv_if_ge C.2.2.2.1 C.2.2.2.2.1 hd ht (fun h => kt h H locs ls hl hP hD hS) (fun h => kf h H locs ls hl hP hD hS)
theorem g_icmp_ge (C : zC κ l g R cc nL own name ret E) {x y : Int32} {tgt : Nat} (hd : dj cc pc (.if_icmp .ge) q tgt) (kt : y ≤ x → G κ nL cs ss tgt lv st X P) (kf : ¬ y ≤ x → G κ nL cs ss q lv st X P) : G κ nL cs ss pc lv (.int y :: .int x :: st) X P := by
  obtain ⟨off, hd, rfl, ht⟩ := hd
  intro H locs ls hl hP hD hS
  exact lv_icmp_ge C.2.2.2.1 C.2.2.2.2.1 hd ht (fun h => kt h H locs ls hl hP hD hS) (fun h => kf h H locs ls hl hP hD hS)
theorem g_if_gt (C : zC κ l g R cc nL own name ret E) {x : Int32} {tgt : Nat} (hd : dj cc pc (.ifCond .gt) q tgt) (kt : 0 < x → G κ nL cs ss tgt lv st X P) (kf : ¬ 0 < x → G κ nL cs ss q lv st X P) : G κ nL cs ss pc lv (.int x :: st) X P := by
  obtain ⟨off, hd, rfl, ht⟩ := hd
  intro H locs ls hl hP hD hS
  exact lv_if_gt C.2.2.2.1 C.2.2.2.2.1 hd ht (fun h => kt h H locs ls hl hP hD hS) (fun h => kf h H locs ls hl hP hD hS)
theorem g_icmp_gt (C : zC κ l g R cc nL own name ret E) {x y : Int32} {tgt : Nat} (hd : dj cc pc (.if_icmp .gt) q tgt) (kt : y < x → G κ nL cs ss tgt lv st X P) (kf : ¬ y < x → G κ nL cs ss q lv st X P) : G κ nL cs ss pc lv (.int y :: .int x :: st) X P := by
  obtain ⟨off, hd, rfl, ht⟩ := hd
  intro H locs ls hl hP hD hS
  exact lv_icmp_gt C.2.2.2.1 C.2.2.2.2.1 hd ht (fun h => kt h H locs ls hl hP hD hS) (fun h => kf h H locs ls hl hP hD hS)
theorem g_if_le (C : zC κ l g R cc nL own name ret E) {x : Int32} {tgt : Nat} (hd : dj cc pc (.ifCond .le) q tgt) (kt : x ≤ 0 → G κ nL cs ss tgt lv st X P) (kf : ¬ x ≤ 0 → G κ nL cs ss q lv st X P) : G κ nL cs ss pc lv (.int x :: st) X P := by
  obtain ⟨off, hd, rfl, ht⟩ := hd
  intro H locs ls hl hP hD hS
  exact lv_if_le C.2.2.2.1 C.2.2.2.2.1 hd ht (fun h => kt h H locs ls hl hP hD hS) (fun h => kf h H locs ls hl hP hD hS)
theorem g_icmp_le (C : zC κ l g R cc nL own name ret E) {x y : Int32} {tgt : Nat} (hd : dj cc pc (.if_icmp .le) q tgt) (kt : x ≤ y → G κ nL cs ss tgt lv st X P) (kf : ¬ x ≤ y → G κ nL cs ss q lv st X P) : G κ nL cs ss pc lv (.int y :: .int x :: st) X P := by
  obtain ⟨off, hd, rfl, ht⟩ := hd
  intro H locs ls hl hP hD hS
  exact lv_icmp_le C.2.2.2.1 C.2.2.2.2.1 hd ht (fun h => kt h H locs ls hl hP hD hS) (fun h => kf h H locs ls hl hP hD hS)
theorem g_goto (C : zC κ l g R cc nL own name ret E) {tgt : Nat} (hd : dj cc pc (.goto) q tgt) (k : G κ nL cs ss tgt lv st X P) : G κ nL cs ss pc lv st X P := by
  obtain ⟨off, hd, rfl, ht⟩ := hd
  intro H locs ls hl hP hD hS
  exact lv_goto C.2.2.2.1 C.2.2.2.2.1 hd ht (k H locs ls hl hP hD hS)
theorem g_lv {lv1 : List (Nat × Value)} (ks : List Nat) (h : lv_pick lv ks = lv1) (k : G κ nL cs ss pc lv1 st X P) : G κ nL cs ss pc lv st X P := fun H locs ls hl hP hD hS => k H locs ls (lv_sub hl ks h) hP hD hS
theorem g_widen {c2 s2 : Nat} (h1 : cs ≤ c2) (h2 : ss ≤ s2) (k : G κ nL c2 s2 pc lv st X P) : G κ nL cs ss pc lv st X P := fun H locs ls hl hP hD hS => W.widen h1 h2 (k H locs ls hl hP hD hS)
theorem g_eq {st1 : List Value} {X1 : va_W} (h1 : st = st1) (h2 : X = X1) (k : G κ nL cs ss pc lv st1 X1 P) : G κ nL cs ss pc lv st X P := by subst h1; subst h2; exact k
theorem g_get (C : zC κ l g R cc nL own name ret E) {a ci N index : Nat} {fs : List Value} {Cn : String} {T : u_T} {v : Value} (i : Nat) (he : X[i]? = some (a, .inr (ci, fs))) (hc : vwCl[ci]? = some (Cn, T, N)) (hin : ∀ w ∈ u_ws Cn T N, w ∈ big) (f : Nat) (hf : f < N) (hw : Cond.fieldLink own index (T f).1 (T f).2.1 (T f).2.2.1 ∈ big) (hv : fs[f]? = some v) (hd : dz cc pc (.getfield index) 3 q) (k : G κ nL cs ss q lv (v :: st) X P) : G κ nL cs ss pc lv (.ref a :: st) X P := by
  obtain ⟨hd, rfl⟩ := hd
  intro H locs ls hl hP hD hS
  exact va_get C.2.2.2.1 C.2.2.2.2.1 C.2.2.2.2.2.2.2.1 hin C.2.2.2.2.2.2.1 C.K hP i (by rw [List.getElem?_append_left (List.getElem?_eq_some_iff.mp he).1]; exact he) hc f hf (C.w hw) (fun _ h => h) hv hd (k H locs ls hl hP hD hS)
theorem g_put (C : zC κ l g R cc nL own name ret E) {a ci N index : Nat} {fs : List Value} {Cn : String} {T : u_T} {v : Value} {X1 : va_W} {ty0 : Nat → FieldType} (i : Nat) (he : X[i]? = some (a, .inr (ci, fs))) (hc : vwCl[ci]? = some (Cn, T, N)) (hin : ∀ w ∈ u_ws Cn T N, w ∈ big) (f : Nat) (hf : f < N) (hty : ∀ k, k < N → parseFieldDescriptor (T k).2.2.1 = some (ty0 k)) (hnm : ∀ a, a < N → ∀ b, b < N → a ≠ b → (T a).2.1 ≠ (T b).2.1) (hw : Cond.fieldLink own index (T f).1 (T f).2.1 (T f).2.2.1 ∈ big) (hfin : (T f).2.2.2 = false) (hn : narrow (ty0 f) v = v) (hfit : fits (ty0 f) v = true) (hlf : f < fs.length) (hX : X.set i (a, .inr (ci, fs.set f v)) = X1) (hd : dz cc pc (.putfield index) 3 q) (k : G κ nL cs ss q lv st X1 P) : G κ nL cs ss pc lv (v :: .ref a :: st) X P := by
  obtain ⟨hd, rfl⟩ := hd
  intro H locs ls hl hP hD hS
  refine va_put C.2.2.2.1 C.2.2.2.2.1 C.2.2.2.2.2.2.2.1 hin ty0 hty hnm C.2.2.2.2.2.2.1 C.K hP hD hS i (by rw [List.getElem?_append_left (List.getElem?_eq_some_iff.mp he).1]; exact he) hc f hf (C.w hw) (fun _ h => h) hfin (hty f hf) hn hfit hlf hd (fun H1 l1 hP1 hD1 hS1 => ?_)
  rw [List.set_append_left _ _ (List.getElem?_eq_some_iff.mp he).1, hX] at hP1 hD1
  exact k H1 l1 ls hl hP1 hD1 hS1
theorem g_getN (C : zC κ l g R cc nL own name ret E) {a ci N index : Nat} {fs : List Value} {Cn : String} {T : u_T} {v : Value} (i : Nat) (he : X[i]? = some (a, .inr (ci, fs))) (hc : vwCl[ci]? = some (Cn, T, N)) (hin : ∀ w ∈ u_ws Cn T N, w ∈ big) (f : Nat) (hf : f < N) (hw : Cond.fieldLinkNest own index (T f).1 (T f).2.1 (T f).2.2.1 "TombLane" ∈ nn) (hv : fs[f]? = some v) (hd : dz cc pc (.getfield index) 3 q) (k : G κ nL cs ss q lv (v :: st) X P) : G κ nL cs ss pc lv (.ref a :: st) X P := by
  obtain ⟨hd, rfl⟩ := hd
  intro H locs ls hl hP hD hS
  exact va_getN C.2.2.2.1 C.2.2.2.2.1 C.2.2.2.2.2.2.2.1 hin C.2.2.2.2.2.2.1 C.K hP i (by rw [List.getElem?_append_left (List.getElem?_eq_some_iff.mp he).1]; exact he) hc f hf (C.nw hw) (fun _ h => h) hv hd (k H locs ls hl hP hD hS)
theorem g_putN (C : zC κ l g R cc nL own name ret E) {a ci N index : Nat} {fs : List Value} {Cn : String} {T : u_T} {v : Value} {X1 : va_W} {ty0 : Nat → FieldType} (i : Nat) (he : X[i]? = some (a, .inr (ci, fs))) (hc : vwCl[ci]? = some (Cn, T, N)) (hin : ∀ w ∈ u_ws Cn T N, w ∈ big) (f : Nat) (hf : f < N) (hty : ∀ k, k < N → parseFieldDescriptor (T k).2.2.1 = some (ty0 k)) (hnm : ∀ a, a < N → ∀ b, b < N → a ≠ b → (T a).2.1 ≠ (T b).2.1) (hw : Cond.fieldLinkNest own index (T f).1 (T f).2.1 (T f).2.2.1 "TombLane" ∈ nn) (hfin : (T f).2.2.2 = false) (hn : narrow (ty0 f) v = v) (hfit : fits (ty0 f) v = true) (hlf : f < fs.length) (hX : X.set i (a, .inr (ci, fs.set f v)) = X1) (hd : dz cc pc (.putfield index) 3 q) (k : G κ nL cs ss q lv st X1 P) : G κ nL cs ss pc lv (v :: .ref a :: st) X P := by
  obtain ⟨hd, rfl⟩ := hd
  intro H locs ls hl hP hD hS
  refine va_putN C.2.2.2.1 C.2.2.2.2.1 C.2.2.2.2.2.2.2.1 hin ty0 hty hnm C.2.2.2.2.2.2.1 C.K hP hD hS i (by rw [List.getElem?_append_left (List.getElem?_eq_some_iff.mp he).1]; exact he) hc f hf (C.nw hw) (fun _ h => h) hfin (hty f hf) hn hfit hlf hd (fun H1 l1 hP1 hD1 hS1 => ?_)
  rw [List.set_append_left _ _ (List.getElem?_eq_some_iff.mp he).1, hX] at hP1 hD1
  exact k H1 l1 ls hl hP1 hD1 hS1
theorem g_putF (C : zC κ l g R cc nL own name ret E) {a ci N index : Nat} {fs : List Value} {Cn : String} {T : u_T} {v : Value} {X1 : va_W} {ty0 : Nat → FieldType} (i : Nat) (he : X[i]? = some (a, .inr (ci, fs))) (hc : vwCl[ci]? = some (Cn, T, N)) (hin : ∀ w ∈ u_ws Cn T N, w ∈ big) (f : Nat) (hf : f < N) (hty : ∀ k, k < N → parseFieldDescriptor (T k).2.2.1 = some (ty0 k)) (hnm : ∀ a, a < N → ∀ b, b < N → a ≠ b → (T a).2.1 ≠ (T b).2.1) (hw : Cond.fieldLink own index (T f).1 (T f).2.1 (T f).2.2.1 ∈ big) (hfin : (T f).2.2.2 = true) (hni : name = "<init>") (hdecl : (T f).1 = own) (hn : narrow (ty0 f) v = v) (hfit : fits (ty0 f) v = true) (hlf : f < fs.length) (hX : X.set i (a, .inr (ci, fs.set f v)) = X1) (hd : dz cc pc (.putfield index) 3 q) (k : G κ nL cs ss q lv st X1 P) : G κ nL cs ss pc lv (v :: .ref a :: st) X P := by
  obtain ⟨hd, rfl⟩ := hd
  intro H locs ls hl hP hD hS
  refine va_putF C.2.2.2.1 C.2.2.2.2.1 C.2.2.2.2.2.2.2.1 hin ty0 hty hnm C.2.2.2.2.2.2.1 C.K hP hD hS i (by rw [List.getElem?_append_left (List.getElem?_eq_some_iff.mp he).1]; exact he) hc f hf (C.w hw) (fun _ h => h) hfin (C.2.2.2.2.2.2.2.2.2.2.2.2.1.trans hni) hdecl (hty f hf) hn hfit hlf hd (fun H1 l1 hP1 hD1 hS1 => ?_)
  rw [List.set_append_left _ _ (List.getElem?_eq_some_iff.mp he).1, hX] at hP1 hD1
  exact k H1 l1 ls hl hP1 hD1 hS1
theorem g_iald (C : zC κ l g R cc nL own name ret E) {a n : Nat} {f : Nat → Int32} {x : Int32} (i : Nat) (he : X[i]? = some (a, .inl (g.2.1 0, n, .inl f))) (hin : vp_in x n) (hd : dz cc pc (.iaload) 1 q) (k : G κ nL cs ss q lv (.int (f x.toNatClampNeg) :: st) X P) : G κ nL cs ss pc lv (.int x :: .ref a :: st) X P := by
  obtain ⟨hd, rfl⟩ := hd
  intro H locs ls hl hP hD hS
  exact va_iald C.2.2.2.1 C.2.2.2.2.1 C.K hP i 0 (by rw [List.getElem?_append_left (List.getElem?_eq_some_iff.mp he).1]; exact he) (by rw [C.2.1]; rfl) hin hd (k H locs ls hl hP hD hS)
theorem g_iast (C : zC κ l g R cc nL own name ret E) {a n : Nat} {f : Nat → Int32} {x : Int32} {w : Int32} {X1 : va_W} (i : Nat) (he : X[i]? = some (a, .inl (g.2.1 0, n, .inl f))) (hin : vp_in x n) (hX : X.set i (a, .inl (g.2.1 0, n, .inl (upd f x.toNatClampNeg w))) = X1) (hd : dz cc pc (.iastore) 1 q) (k : G κ nL cs ss q lv st X1 P) : G κ nL cs ss pc lv (.int w :: .int x :: .ref a :: st) X P := by
  obtain ⟨hd, rfl⟩ := hd
  intro H locs ls hl hP hD hS
  refine va_iast C.2.2.2.1 C.2.2.2.2.1 C.K hP hD hS i 0 (by rw [List.getElem?_append_left (List.getElem?_eq_some_iff.mp he).1]; exact he) (by rw [C.2.1]; rfl) hin hd (fun H1 l1 hP1 hD1 hS1 => ?_)
  rw [List.set_append_left _ _ (List.getElem?_eq_some_iff.mp he).1, hX] at hP1 hD1
  exact k H1 l1 ls hl hP1 hD1 hS1
theorem g_ialen (C : zC κ l g R cc nL own name ret E) {a n : Nat} {f : Nat → Int32} (i : Nat) (he : X[i]? = some (a, .inl (g.2.1 0, n, .inl f))) (hd : dz cc pc (.arraylength) 1 q) (k : G κ nL cs ss q lv (.int (nI n) :: st) X P) : G κ nL cs ss pc lv (.ref a :: st) X P := by
  obtain ⟨hd, rfl⟩ := hd
  intro H locs ls hl hP hD hS
  exact va_alen (x := (n, .inl f)) C.2.2.2.1 C.2.2.2.2.1 C.K hP i 0 (by rw [List.getElem?_append_left (List.getElem?_eq_some_iff.mp he).1]; exact he) (ty := .int) (by rw [C.2.1]; rfl) rfl hd (k H locs ls hl hP hD hS)
theorem g_lald (C : zC κ l g R cc nL own name ret E) {a n : Nat} {f : Nat → Int64} {x : Int32} (i : Nat) (he : X[i]? = some (a, .inl (g.2.1 1, n, .inr (.inl f)))) (hin : vp_in x n) (hd : dz cc pc (.laload) 1 q) (k : G κ nL cs ss q lv (.long (f x.toNatClampNeg) :: st) X P) : G κ nL cs ss pc lv (.int x :: .ref a :: st) X P := by
  obtain ⟨hd, rfl⟩ := hd
  intro H locs ls hl hP hD hS
  exact va_lald C.2.2.2.1 C.2.2.2.2.1 C.K hP i 1 (by rw [List.getElem?_append_left (List.getElem?_eq_some_iff.mp he).1]; exact he) (by rw [C.2.1]; rfl) hin hd (k H locs ls hl hP hD hS)
theorem g_last (C : zC κ l g R cc nL own name ret E) {a n : Nat} {f : Nat → Int64} {x : Int32} {w : Int64} {X1 : va_W} (i : Nat) (he : X[i]? = some (a, .inl (g.2.1 1, n, .inr (.inl f)))) (hin : vp_in x n) (hX : X.set i (a, .inl (g.2.1 1, n, .inr (.inl (vp_updL f x.toNatClampNeg w)))) = X1) (hd : dz cc pc (.lastore) 1 q) (k : G κ nL cs ss q lv st X1 P) : G κ nL cs ss pc lv (.long w :: .int x :: .ref a :: st) X P := by
  obtain ⟨hd, rfl⟩ := hd
  intro H locs ls hl hP hD hS
  refine va_last C.2.2.2.1 C.2.2.2.2.1 C.K hP hD hS i 1 (by rw [List.getElem?_append_left (List.getElem?_eq_some_iff.mp he).1]; exact he) (by rw [C.2.1]; rfl) hin hd (fun H1 l1 hP1 hD1 hS1 => ?_)
  rw [List.set_append_left _ _ (List.getElem?_eq_some_iff.mp he).1, hX] at hP1 hD1
  exact k H1 l1 ls hl hP1 hD1 hS1
theorem g_lalen (C : zC κ l g R cc nL own name ret E) {a n : Nat} {f : Nat → Int64} (i : Nat) (he : X[i]? = some (a, .inl (g.2.1 1, n, .inr (.inl f)))) (hd : dz cc pc (.arraylength) 1 q) (k : G κ nL cs ss q lv (.int (nI n) :: st) X P) : G κ nL cs ss pc lv (.ref a :: st) X P := by
  obtain ⟨hd, rfl⟩ := hd
  intro H locs ls hl hP hD hS
  exact va_alen (x := (n, .inr (.inl f))) C.2.2.2.1 C.2.2.2.2.1 C.K hP i 1 (by rw [List.getElem?_append_left (List.getElem?_eq_some_iff.mp he).1]; exact he) (ty := .long) (by rw [C.2.1]; rfl) rfl hd (k H locs ls hl hP hD hS)
theorem g_bald (C : zC κ l g R cc nL own name ret E) {a n : Nat} {f : Nat → Int32} {x : Int32} (i : Nat) (he : X[i]? = some (a, .inl (g.2.1 2, n, .inl f))) (hin : vp_in x n) (hd : dz cc pc (.baload) 1 q) (k : G κ nL cs ss q lv (.int (f x.toNatClampNeg) :: st) X P) : G κ nL cs ss pc lv (.int x :: .ref a :: st) X P := by
  obtain ⟨hd, rfl⟩ := hd
  intro H locs ls hl hP hD hS
  exact va_bald C.2.2.2.1 C.2.2.2.2.1 C.K hP i 2 (by rw [List.getElem?_append_left (List.getElem?_eq_some_iff.mp he).1]; exact he) (by rw [C.2.1]; rfl) hin hd (k H locs ls hl hP hD hS)
theorem g_bast (C : zC κ l g R cc nL own name ret E) {a n : Nat} {f : Nat → Int32} {x : Int32} {w : Int32} {X1 : va_W} (i : Nat) (he : X[i]? = some (a, .inl (g.2.1 2, n, .inl f))) (hin : vp_in x n) (hX : X.set i (a, .inl (g.2.1 2, n, .inl (upd f x.toNatClampNeg (vp_nar .byte w)))) = X1) (hd : dz cc pc (.bastore) 1 q) (k : G κ nL cs ss q lv st X1 P) : G κ nL cs ss pc lv (.int w :: .int x :: .ref a :: st) X P := by
  obtain ⟨hd, rfl⟩ := hd
  intro H locs ls hl hP hD hS
  refine va_bast C.2.2.2.1 C.2.2.2.2.1 C.K hP hD hS i 2 (by rw [List.getElem?_append_left (List.getElem?_eq_some_iff.mp he).1]; exact he) (by rw [C.2.1]; rfl) hin hd (fun H1 l1 hP1 hD1 hS1 => ?_)
  rw [List.set_append_left _ _ (List.getElem?_eq_some_iff.mp he).1, hX] at hP1 hD1
  exact k H1 l1 ls hl hP1 hD1 hS1
theorem g_balen (C : zC κ l g R cc nL own name ret E) {a n : Nat} {f : Nat → Int32} (i : Nat) (he : X[i]? = some (a, .inl (g.2.1 2, n, .inl f))) (hd : dz cc pc (.arraylength) 1 q) (k : G κ nL cs ss q lv (.int (nI n) :: st) X P) : G κ nL cs ss pc lv (.ref a :: st) X P := by
  obtain ⟨hd, rfl⟩ := hd
  intro H locs ls hl hP hD hS
  exact va_alen (x := (n, .inl f)) C.2.2.2.1 C.2.2.2.2.1 C.K hP i 2 (by rw [List.getElem?_append_left (List.getElem?_eq_some_iff.mp he).1]; exact he) (ty := .byte) (by rw [C.2.1]; rfl) rfl hd (k H locs ls hl hP hD hS)
theorem g_zald (C : zC κ l g R cc nL own name ret E) {a n : Nat} {f : Nat → Int32} {x : Int32} (i : Nat) (he : X[i]? = some (a, .inl (g.2.1 3, n, .inl f))) (hin : vp_in x n) (hd : dz cc pc (.baload) 1 q) (k : G κ nL cs ss q lv (.int (f x.toNatClampNeg) :: st) X P) : G κ nL cs ss pc lv (.int x :: .ref a :: st) X P := by
  obtain ⟨hd, rfl⟩ := hd
  intro H locs ls hl hP hD hS
  exact va_zald C.2.2.2.1 C.2.2.2.2.1 C.K hP i 3 (by rw [List.getElem?_append_left (List.getElem?_eq_some_iff.mp he).1]; exact he) (by rw [C.2.1]; rfl) hin hd (k H locs ls hl hP hD hS)
theorem g_zast (C : zC κ l g R cc nL own name ret E) {a n : Nat} {f : Nat → Int32} {x : Int32} {w : Int32} {X1 : va_W} (i : Nat) (he : X[i]? = some (a, .inl (g.2.1 3, n, .inl f))) (hin : vp_in x n) (hX : X.set i (a, .inl (g.2.1 3, n, .inl (upd f x.toNatClampNeg (vp_nar .boolean w)))) = X1) (hd : dz cc pc (.bastore) 1 q) (k : G κ nL cs ss q lv st X1 P) : G κ nL cs ss pc lv (.int w :: .int x :: .ref a :: st) X P := by
  obtain ⟨hd, rfl⟩ := hd
  intro H locs ls hl hP hD hS
  refine va_zast C.2.2.2.1 C.2.2.2.2.1 C.K hP hD hS i 3 (by rw [List.getElem?_append_left (List.getElem?_eq_some_iff.mp he).1]; exact he) (by rw [C.2.1]; rfl) hin hd (fun H1 l1 hP1 hD1 hS1 => ?_)
  rw [List.set_append_left _ _ (List.getElem?_eq_some_iff.mp he).1, hX] at hP1 hD1
  exact k H1 l1 ls hl hP1 hD1 hS1
theorem g_zalen (C : zC κ l g R cc nL own name ret E) {a n : Nat} {f : Nat → Int32} (i : Nat) (he : X[i]? = some (a, .inl (g.2.1 3, n, .inl f))) (hd : dz cc pc (.arraylength) 1 q) (k : G κ nL cs ss q lv (.int (nI n) :: st) X P) : G κ nL cs ss pc lv (.ref a :: st) X P := by
  obtain ⟨hd, rfl⟩ := hd
  intro H locs ls hl hP hD hS
  exact va_alen (x := (n, .inl f)) C.2.2.2.1 C.2.2.2.2.1 C.K hP i 3 (by rw [List.getElem?_append_left (List.getElem?_eq_some_iff.mp he).1]; exact he) (ty := .boolean) (by rw [C.2.1]; rfl) rfl hd (k H locs ls hl hP hD hS)
theorem g_iret (C : zC κ l g R cc nL own name ret E) {x : Int32} (hr : ret = some .int) (hE : E (some (.int x)) X P) (h1 : cs ≤ R.cells) (h2 : ss ≤ R.slots) (hd : dz cc pc (.ireturn) 1 q) : G κ nL cs ss pc lv ([.int x]) X P := by
  obtain ⟨hd, rfl⟩ := hd
  intro H locs ls hl hP hD hS
  obtain ⟨-, hg, -, hx, hb, -, -, -, -, -, hret, hlk, -, hQ⟩ := C
  rw [hQ]
  rw [hg] at hP
  refine W.widen h1 h2 ?_
  exact W.iret hx hb (hret.trans hr) (fun t ht _ => ⟨⟨(some (.int x)), X, P, rfl, hE, by rw [ht]; exact hP, hD⟩, hS.F ht⟩) hS.2.2 hd hlk
theorem g_zret (C : zC κ l g R cc nL own name ret E) {x : Int32} (hz : x = 0 ∨ x = 1) (hr : ret = some .boolean) (hE : E (some (.int x)) X P) (h1 : cs ≤ R.cells) (h2 : ss ≤ R.slots) (hd : dz cc pc (.ireturn) 1 q) : G κ nL cs ss pc lv ([.int x]) X P := by
  obtain ⟨hd, rfl⟩ := hd
  intro H locs ls hl hP hD hS
  obtain ⟨-, hg, -, hx, hb, -, -, -, -, -, hret, hlk, -, hQ⟩ := C
  rw [hQ]
  rw [hg] at hP
  refine W.widen h1 h2 ?_
  exact W.zret hx hb (hret.trans hr) (by rcases hz with rfl | rfl <;> rfl) (fun t ht _ => ⟨⟨(some (.int x)), X, P, rfl, hE, by rw [ht]; exact hP, hD⟩, hS.F ht⟩) hS.2.2 hd hlk
theorem g_vret (C : zC κ l g R cc nL own name ret E)  (hr : ret = none) (hE : E none X P) (h1 : cs ≤ R.cells) (h2 : ss ≤ R.slots) (hd : dz cc pc (.return_) 1 q) : G κ nL cs ss pc lv [] X P := by
  obtain ⟨hd, rfl⟩ := hd
  intro H locs ls hl hP hD hS
  obtain ⟨-, hg, -, hx, hb, -, -, -, -, -, hret, hlk, -, hQ⟩ := C
  rw [hQ]
  rw [hg] at hP
  refine W.widen h1 h2 ?_
  exact W.vret hx hb (hret.trans hr) (fun t ht _ => ⟨⟨none, X, P, rfl, hE, by rw [ht]; exact hP, hD⟩, hS.F ht⟩) hS.2.2 hd hlk
theorem g_aret (C : zC κ l g R cc nL own name ret E) {x : Nat} {rt : FieldType} (hrt : (∃ n, rt = .object n) ∨ ∃ t, rt = .array t) (hr : ret = some rt) (hE : E (some (.ref x)) X P) (h1 : cs ≤ R.cells) (h2 : ss ≤ R.slots) (hd : dz cc pc (.areturn) 1 q) : G κ nL cs ss pc lv ([.ref x]) X P := by
  obtain ⟨hd, rfl⟩ := hd
  intro H locs ls hl hP hD hS
  obtain ⟨-, hg, -, hx, hb, -, -, -, -, -, hret, hlk, -, hQ⟩ := C
  rw [hQ]
  rw [hg] at hP
  refine W.widen h1 h2 ?_
  exact W.aret hx hb (hret.trans hr) hrt (Or.inr ⟨_, rfl⟩) (fun t ht _ => ⟨⟨(some (.ref x)), X, P, rfl, hE, by rw [ht]; exact hP, hD⟩, hS.F ht⟩) hS.2.2 hd hlk
end GR
