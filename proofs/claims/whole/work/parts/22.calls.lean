/-! CALLS: the six kinds of call, then the frame -/
def mok (y : MethodName) (cc : ByteArray) (nL : Nat) (ret : Option FieldType) (n : Nat) : Prop := Cond.code y cc nL ret ∈ big ∧ Cond.initialized y.cls ∈ big ∧ y.cls ≠ "java/lang/invoke/MethodHandle" ∧ y.cls ≠ "java/lang/invoke/VarHandle" ∧ (parseMethodDescriptor y.desc).map (fun d => d.parameters.length) = some n
def mov (y : MethodName) : Prop := Cond.instanceMethod y ∈ big ∧ Cond.selects y.cls y y ∈ big
def rcv (ws : va_W) (b : Nat) (Cn : String) : Prop := ∃ (k ci : Nat) (fs : List Value) (T : u_T) (N : Nat), ws[k]? = some (b, .inr (ci, fs)) ∧ vwCl[ci]? = some (Cn, T, N)
theorem rcX {X P : va_W} {b ci : Nat} {Cn : String} {fs : List Value} {T : u_T} {N : Nat} (i : Nat) (h : X[i]? = some (b, .inr (ci, fs))) (h2 : vwCl[ci]? = some (Cn, T, N)) : rcv (X ++ P) b Cn := ⟨i, ci, fs, T, N, by rw [List.getElem?_append_left (List.getElem?_eq_some_iff.mp h).1]; exact h, h2⟩
theorem big_in {y : MethodName} {cc : ByteArray} {nL : Nat} {ret : Option FieldType} (h : Cond.code y cc nL ret ∈ big) : GoodIn big (.code y cc nL ret :: big) := by
  intro w hw
  have hb : w ∈ big := by
    rcases List.mem_cons.mp hw with rfl | h2
    · exact h
    · exact h2
  exact ⟨hb, good_of_word (List.mem_filter.mp hb).2⟩
section GC
variable {κ : Kx} {l : Launch} {g : Gx} {R : Room} {cc : ByteArray} {nL : Nat} {own name : String} {ret : Option FieldType} {E : Ex} {cs ss pc q : Nat} {lv : List (Nat × Value)} {st : List Value} {X P : va_W}
variable {y : MethodName} {yc : ByteArray} {yL n index : Nat} {yr : Option FieldType} {rm : Room} {b : Nat} {As rest : List Value} {wX wP : va_W} {Ec : Ex} {H : Heap} {locs : List Loc} {ls : Array Slot}
abbrev RunK (κ : Kx) (g : Gx) (H : Heap) (locs : List Loc) (ls : Array Slot) (cs ss pc : Nat) (st rest : List Value) (rm : Room) (wc : va_W) (Ec : Ex) (a : Array Value) : Prop :=
  va_Run κ.1.1 κ.1.2.1 κ.1.2.2.1 κ.1.2.2.2 κ.2.1.1 κ.2.1.2.1 κ.2.1.2.2.1 κ.2.1.2.2.2.1 κ.2.1.2.2.2.2.1 κ.2.1.2.2.2.2.2 H locs cs ss rm.cells rm.slots (F0 κ.2.1.2.1 pc ls st) rest (QE g (va_A wc H.size) Ec a) (va_A wc H.size)
theorem pre_call (C : zC κ l g R cc nL own name ret E) {args : List Value} (hP : va_P κ.2.2.1.1.1 vwCl (wX ++ wP) H) (hD : va_D κ.2.2.1.2 (wX ++ wP)) (hS : va_S κ.2.2.1.2 κ.2.1.1.heap H locs) (hF : ∀ q, va_A (wX ++ wP) H.size q → κ.2.2.1.2 q) :
    PreS κ.2.1.1 H (va_Pc args (fun U => U.heap.size = H.size ∧ va_P g.1 vwCl (wX ++ wP) U.heap ∧ va_D (fun _ => True) (wX ++ wP) ∧ ex_ok g (va_A (wX ++ wP) H.size) U)) args := by
  refine ⟨fun a U f mk hq => ?_, fun U hU hW => ?_⟩
  · obtain ⟨h0, h1, h2, h3, h4⟩ := hq
    exact ⟨h0, h1, h2, h3, ex_blind h4⟩
  · exact ⟨rfl, by rw [hU], by rw [hU, ← C.2.1]; exact hP, hD.weaken (fun _ _ _ _ => trivial), ex_call C.ex hS hU hW hF⟩
theorem run_V (C : zC κ l g R cc nL own name ret E) (hM : MP l g y yc yL yr rm (.ref b :: As) wX wP Ec) (ho : mok y yc yL yr As.length) (hv : mov y) (hw : Cond.methodLink own index y ∈ big) (hR : rm.frames + 1 ≤ R.frames ∧ 8 + (yL + 11) + rm.locals ≤ R.locals)
    (hrc : ∃ cell : Cell, H[b]? = some cell ∧ cell.vm.isStatics = false ∧ κ.2.1.1.vm.findClass y.cls = some cell.cls) (hP : va_P κ.2.2.1.1.1 vwCl (wX ++ wP) H) (hD : va_D κ.2.2.1.2 (wX ++ wP)) (hS : va_S κ.2.2.1.2 κ.2.1.1.heap H locs) (hF : ∀ q, va_A (wX ++ wP) H.size q → κ.2.2.1.2 q)
    (hl : lv_has ls nL lv) (hst : st = As.reverse ++ .ref b :: rest) (hrest : (rest.map fun v => v.category).sum ≤ 8) (hc : cs + rm.cells ≤ R.cells ∧ ss + rm.slots ≤ R.slots) (hd : dz cc pc (.invokevirtual index) 3 q) :
    RunK κ g H locs ls cs ss pc st rest rm (wX ++ wP) Ec (Value.ref b :: As).toArray := by
  obtain ⟨hd, rfl⟩ := hd
  have hp := pre_call C (args := .ref b :: As) hP hD hS hF
  have hx := id C
  obtain ⟨h1, h2, h3, h4, h5, h6, h7, h8, -⟩ := hx
  refine va_runV (Ts := big) (cc := cc) (nL := nL) (own := own) (C := y.cls) (n := As.length) (ws := .code y yc yL yr :: big) (bytes := yc) (maxL := yL) (ret := yr) ⟨h4, h5, h6, h7, h8⟩ (by rw [h1]; exact hM H.size) ⟨callB_of As.length h8 (big_in ho.1) rfl rfl rfl (C.w ho.2.1) (C.w hw) ho.2.2 (by rw [h3]; exact hR), C.w hv.1, C.w hv.2⟩ ⟨hp.1, hrc, hp.2⟩ rfl rfl hl.1 hst (lv_room hrest) hd (by rw [h3]; exact hc)
theorem run_S (C : zC κ l g R cc nL own name ret E) (hM : MP l g y yc yL yr rm As wX wP Ec) (ho : mok y yc yL yr As.length) (hv : Cond.static y ∈ big) (hw : Cond.methodLink own index y ∈ big) (hR : rm.frames + 1 ≤ R.frames ∧ 8 + (yL + 11) + rm.locals ≤ R.locals)
    (hP : va_P κ.2.2.1.1.1 vwCl (wX ++ wP) H) (hD : va_D κ.2.2.1.2 (wX ++ wP)) (hS : va_S κ.2.2.1.2 κ.2.1.1.heap H locs) (hF : ∀ q, va_A (wX ++ wP) H.size q → κ.2.2.1.2 q)
    (hl : lv_has ls nL lv) (hst : st = As.reverse ++ rest) (hrest : (rest.map fun v => v.category).sum ≤ 8) (hc : cs + rm.cells ≤ R.cells ∧ ss + rm.slots ≤ R.slots) (hd : dz cc pc (.invokestatic index) 3 q) :
    RunK κ g H locs ls cs ss pc st rest rm (wX ++ wP) Ec As.toArray := by
  obtain ⟨hd, rfl⟩ := hd
  have hp := pre_call C (args := As) hP hD hS hF
  have hx := id C
  obtain ⟨h1, h2, h3, h4, h5, h6, h7, h8, -⟩ := hx
  refine va_runS (Ts := big) (cc := cc) (nL := nL) (own := own) (n := As.length) (ws := .code y yc yL yr :: big) (bytes := yc) (maxL := yL) (ret := yr) ⟨h4, h5, h6, h7, h8⟩ (by rw [h1]; exact hM H.size) ⟨callB_of As.length h8 (big_in ho.1) rfl rfl rfl (C.w ho.2.1) (C.w hw) ho.2.2 (by rw [h3]; exact hR), C.w hv⟩ hp rfl rfl hl.1 hst (lv_room hrest) hd (by rw [h3]; exact hc)
theorem run_I (C : zC κ l g R cc nL own name ret E) (hM : MP l g y yc yL none rm (.ref b :: As) wX wP Ec) (ho : mok y yc yL none As.length) (hv : Cond.instanceMethod y ∈ big) (hi : y.name = "<init>") (hw : Cond.methodLink own index y ∈ big) (hR : rm.frames + 1 ≤ R.frames ∧ 8 + (yL + 11) + rm.locals ≤ R.locals)
    (hP : va_P κ.2.2.1.1.1 vwCl (wX ++ wP) H) (hD : va_D κ.2.2.1.2 (wX ++ wP)) (hS : va_S κ.2.2.1.2 κ.2.1.1.heap H locs) (hF : ∀ q, va_A (wX ++ wP) H.size q → κ.2.2.1.2 q)
    (hl : lv_has ls nL lv) (hst : st = As.reverse ++ .ref b :: rest) (hrest : (rest.map fun v => v.category).sum ≤ 8) (hc : cs + rm.cells ≤ R.cells ∧ ss + rm.slots ≤ R.slots) (hd : dz cc pc (.invokespecial index) 3 q) :
    RunK κ g H locs ls cs ss pc st rest rm (wX ++ wP) Ec (Value.ref b :: As).toArray := by
  obtain ⟨hd, rfl⟩ := hd
  have hp := pre_call C (args := .ref b :: As) hP hD hS hF
  have hx := id C
  obtain ⟨h1, h2, h3, h4, h5, h6, h7, h8, -⟩ := hx
  refine va_runI (Ts := big) (cc := cc) (nL := nL) (own := own) (n := As.length) (ws := .code y yc yL none :: big) (bytes := yc) (maxL := yL) ⟨h4, h5, h6, h7, h8⟩ (by rw [h1]; exact hM H.size) ⟨callB_of As.length h8 (big_in ho.1) rfl rfl rfl (C.w ho.2.1) (C.w hw) ho.2.2 (by rw [h3]; exact hR), hi, C.w hv⟩ hp rfl rfl hl.1 hst (lv_room hrest) hd (by rw [h3]; exact hc)
theorem cn_of (C : zC κ l g R cc nL own name ret E) (ho : mok y yc yL yr n) (hw : Cond.methodLinkNest own index y "TombLane" ∈ nn) (hR : rm.frames + 1 ≤ R.frames ∧ 8 + (yL + 11) + rm.locals ≤ R.locals) :
    va_CN κ.1.2.2.2 κ.2.1.1 κ.2.1.2.2.1 own index y "TombLane" yc yL yr (.code y yc yL yr :: big) rm rm.cells rm.slots n := by
  have hx := id C
  obtain ⟨h1, h2, h3, h4, h5, h6, h7, h8, h9, -⟩ := hx
  exact va_cnB n h8 (big_in ho.1) rfl rfl rfl (h9.2.1 _ hw) (C.w ho.2.1) ho.2.2 (by rw [h3]; exact hR)
theorem run_VN (C : zC κ l g R cc nL own name ret E) (hM : MP l g y yc yL yr rm (.ref b :: As) wX wP Ec) (ho : mok y yc yL yr As.length) (hv : mov y) (hw : Cond.methodLinkNest own index y "TombLane" ∈ nn) (hR : rm.frames + 1 ≤ R.frames ∧ 8 + (yL + 11) + rm.locals ≤ R.locals)
    (hrc : ∃ cell : Cell, H[b]? = some cell ∧ cell.vm.isStatics = false ∧ κ.2.1.1.vm.findClass y.cls = some cell.cls) (hP : va_P κ.2.2.1.1.1 vwCl (wX ++ wP) H) (hD : va_D κ.2.2.1.2 (wX ++ wP)) (hS : va_S κ.2.2.1.2 κ.2.1.1.heap H locs) (hF : ∀ q, va_A (wX ++ wP) H.size q → κ.2.2.1.2 q)
    (hl : lv_has ls nL lv) (hst : st = As.reverse ++ .ref b :: rest) (hrest : (rest.map fun v => v.category).sum ≤ 8) (hc : cs + rm.cells ≤ R.cells ∧ ss + rm.slots ≤ R.slots) (hd : dz cc pc (.invokevirtual index) 3 q) :
    RunK κ g H locs ls cs ss pc st rest rm (wX ++ wP) Ec (Value.ref b :: As).toArray := by
  obtain ⟨hd, rfl⟩ := hd
  have hp := pre_call C (args := .ref b :: As) hP hD hS hF
  have hcn := cn_of C ho hw hR
  have hx := id C
  obtain ⟨h1, h2, h3, h4, h5, h6, h7, h8, -⟩ := hx
  refine va_runVN (Ts := big) (cc := cc) (nL := nL) (own := own) (C := y.cls) (n := As.length) (ws := .code y yc yL yr :: big) (bytes := yc) (maxL := yL) (ret := yr) ⟨h4, h5, h6, h7, h8⟩ (by rw [h1]; exact hM H.size) ⟨hcn, C.w hv.1, C.w hv.2⟩ ⟨hp.1, hrc, hp.2⟩ rfl rfl hl.1 hst (lv_room hrest) hd (by rw [h3]; exact hc)
theorem run_SN (C : zC κ l g R cc nL own name ret E) (hM : MP l g y yc yL yr rm As wX wP Ec) (ho : mok y yc yL yr As.length) (hv : Cond.static y ∈ big) (hw : Cond.methodLinkNest own index y "TombLane" ∈ nn) (hR : rm.frames + 1 ≤ R.frames ∧ 8 + (yL + 11) + rm.locals ≤ R.locals)
    (hP : va_P κ.2.2.1.1.1 vwCl (wX ++ wP) H) (hD : va_D κ.2.2.1.2 (wX ++ wP)) (hS : va_S κ.2.2.1.2 κ.2.1.1.heap H locs) (hF : ∀ q, va_A (wX ++ wP) H.size q → κ.2.2.1.2 q)
    (hl : lv_has ls nL lv) (hst : st = As.reverse ++ rest) (hrest : (rest.map fun v => v.category).sum ≤ 8) (hc : cs + rm.cells ≤ R.cells ∧ ss + rm.slots ≤ R.slots) (hd : dz cc pc (.invokestatic index) 3 q) :
    RunK κ g H locs ls cs ss pc st rest rm (wX ++ wP) Ec As.toArray := by
  obtain ⟨hd, rfl⟩ := hd
  have hp := pre_call C (args := As) hP hD hS hF
  have hcn := cn_of C ho hw hR
  have hx := id C
  obtain ⟨h1, h2, h3, h4, h5, h6, h7, h8, -⟩ := hx
  refine va_runSN (Ts := big) (cc := cc) (nL := nL) (own := own) (n := As.length) (ws := .code y yc yL yr :: big) (bytes := yc) (maxL := yL) (ret := yr) ⟨h4, h5, h6, h7, h8⟩ (by rw [h1]; exact hM H.size) ⟨hcn, C.w hv, trivial⟩ hp rfl rfl hl.1 hst (lv_room hrest) hd (by rw [h3]; exact hc)
theorem run_IN (C : zC κ l g R cc nL own name ret E) (hM : MP l g y yc yL none rm (.ref b :: As) wX wP Ec) (ho : mok y yc yL none As.length) (hv : Cond.instanceMethod y ∈ big) (hi : y.name = "<init>") (hw : Cond.methodLinkNest own index y "TombLane" ∈ nn) (hR : rm.frames + 1 ≤ R.frames ∧ 8 + (yL + 11) + rm.locals ≤ R.locals)
    (hP : va_P κ.2.2.1.1.1 vwCl (wX ++ wP) H) (hD : va_D κ.2.2.1.2 (wX ++ wP)) (hS : va_S κ.2.2.1.2 κ.2.1.1.heap H locs) (hF : ∀ q, va_A (wX ++ wP) H.size q → κ.2.2.1.2 q)
    (hl : lv_has ls nL lv) (hst : st = As.reverse ++ .ref b :: rest) (hrest : (rest.map fun v => v.category).sum ≤ 8) (hc : cs + rm.cells ≤ R.cells ∧ ss + rm.slots ≤ R.slots) (hd : dz cc pc (.invokespecial index) 3 q) :
    RunK κ g H locs ls cs ss pc st rest rm (wX ++ wP) Ec (Value.ref b :: As).toArray := by
  obtain ⟨hd, rfl⟩ := hd
  have hp := pre_call C (args := .ref b :: As) hP hD hS hF
  have hcn := cn_of C ho hw hR
  have hx := id C
  obtain ⟨h1, h2, h3, h4, h5, h6, h7, h8, -⟩ := hx
  refine va_runIN (Ts := big) (cc := cc) (nL := nL) (own := own) (n := As.length) (ws := .code y yc yL none :: big) (bytes := yc) (maxL := yL) ⟨h4, h5, h6, h7, h8⟩ (by rw [h1]; exact hM H.size) ⟨hcn, hi, C.w hv⟩ hp rfl rfl hl.1 hst (lv_room hrest) hd (by rw [h3]; exact hc)
/-- behind the call -/
theorem run_tail {wc : va_W} {a : Array Value} (hr : RunK κ g H locs ls cs ss pc st rest rm wc Ec a) (hS : va_S κ.2.2.1.2 κ.2.1.1.heap H locs) (hF : ∀ q, va_A wc H.size q → κ.2.2.1.2 q)
    (kk : ∀ (v : Option Value) (X' P' : va_W) (H1 : Heap) (locs1 : List Loc), Ec v X' P' → va_P g.1 vwCl (X' ++ P') H1 → va_D (va_A wc H.size) (X' ++ P') → (∀ q : Nat, q < H.size → ¬ va_A wc H.size q → H1[q]? = H[q]?) → va_S κ.2.2.1.2 κ.2.1.1.heap H1 locs1 → W κ.1.1 κ.1.2.1 κ.1.2.2.1 κ.1.2.2.2 κ.2.1.1 κ.2.1.2.1 κ.2.1.2.2.1 κ.2.1.2.2.2.1 κ.2.1.2.2.2.2.1 κ.2.1.2.2.2.2.2 H1 locs1 (cs + rm.cells) (ss + rm.slots) κ.2.2.2 (F0 κ.2.1.2.1 (pc + 3) ls (v.toList ++ rest))) :
    W κ.1.1 κ.1.2.1 κ.1.2.2.1 κ.1.2.2.2 κ.2.1.1 κ.2.1.2.1 κ.2.1.2.2.1 κ.2.1.2.2.2.1 κ.2.1.2.2.2.2.1 κ.2.1.2.2.2.2.2 H locs cs ss κ.2.2.2 (F0 κ.2.1.2.1 pc ls st) := by
  intro T hT Y
  obtain ⟨v, st₀, t, T', L, h0, X', hL, e1, e2, ⟨⟨v1, X1, P1, hv, hp, hb, hdd⟩, hz, hk⟩, sp⟩ := hr T hT Y
  cases hv
  rw [h0] at hz hk
  obtain ⟨t2, a1, b1⟩ := kk v X1 P1 T'.heap (locs ++ L) hp (by rw [e1]; exact hb) hdd (fun q h1 h2 => by rw [e1]; exact hk q h1 h2)
    ⟨Nat.le_trans hS.1 (by rw [e1]; exact hz), fun q h1 h2 => by rw [e1, hk q (Nat.lt_of_lt_of_le h1 hS.1) (fun z => h2 (hF q z))]; exact hS.2.1 q h1 h2, fun q hq => by
      rcases List.mem_append.mp hq with h | h
      · exact hS.2.2 q h
      · exact hF _ (hL q h)⟩ T' rfl X'
  exact ⟨t2, sp t2 a1, b1⟩
theorem fr_core {D : va_G} {A : Nat → Prop} {wc wr w1 : va_W} {H H1 : Heap} (hPr : va_P D vwCl wr H) (hDr : va_D A wr) (hap : ∀ x ∈ wr, ∀ y ∈ wc, x.1 ≠ y.1) (hk : ∀ q : Nat, q < H.size → ¬ va_A wc H.size q → H1[q]? = H[q]?) (hF : ∀ q, va_A wc H.size q → A q) (hP1 : va_P D vwCl w1 H1) (hD1 : va_D (va_A wc H.size) w1) : va_P D vwCl (wr ++ w1) H1 ∧ va_D A (wr ++ w1) := by
  have key : ∀ x ∈ wr, x.1 < H.size ∧ ¬ va_A wc H.size x.1 := by
    intro x hx
    have hl := (P_iff.mp hPr x hx).lt
    refine ⟨hl, fun h => ?_⟩
    rcases h with ⟨k, e, h⟩ | h
    · exact hap x hx _ (List.mem_of_getElem? h) rfl
    · omega
  refine ⟨P_iff.mpr fun x hx => ?_, D_app hDr (hD1.weaken (fun _ q _ h => hF q.1 h)) (fun x hx y hy he => ?_)⟩
  · rcases List.mem_append.mp hx with h | h
    · exact (P_iff.mp hPr x h).kept (hk x.1 (key x h).1 (key x h).2)
    · exact P_iff.mp hP1 x h
  · exact (key x hx).2 (by rw [he]; exact (D_iff.mp hD1).2 y hy)
theorem free_of {A : Nat → Prop} {ws wc : va_W} {H0 H : Heap} {locs : List Loc} (hD : va_D A ws) (hS : va_S A H0 H locs) (hA : ∀ q, H0.size ≤ q → A q) (hsub : ∀ x ∈ wc, x ∈ ws) : ∀ q, va_A wc H.size q → A q := by
  intro q h
  rcases h with ⟨k, e, h⟩ | h
  · exact (D_iff.mp hD).2 (q, e) (hsub _ (List.mem_of_getElem? h))
  · exact hA q (Nat.le_trans hS.1 h)
theorem ord_P {D : va_G} {H : Heap} {Y Z : va_W} {ord : List Nat} (h : va_P D vwCl (Y ++ Z) H) : va_P D vwCl (pk Y ord ++ Z) H := by
  rw [P_iff] at h ⊢
  exact fun q hq => (List.mem_append.mp hq).elim (fun z => h q (List.mem_append_left _ (pk_in' z))) (fun z => h q (List.mem_append_right _ z))
theorem ord_D {A : Nat → Prop} {Y Z : va_W} {ord : List Nat} (hn : va_nd ord = true) (h : va_D A (Y ++ Z)) : va_D A (pk Y ord ++ Z) :=
  D_app (pk_D (D_left h) ord hn) (D_right h) (fun x hx y hy => D_apart h x (pk_in' hx) y hy)
end GC
