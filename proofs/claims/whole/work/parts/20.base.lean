/-! THE BASE: a state of a walk as (locals, stack, world); contracts MP; the frame rule as one row -/
abbrev Gx : Type := va_G × (Nat → ClassId) × Nat × Nat
abbrev tyz (a : Nat → ClassId) : List (ClassId × FieldType) := [(a 0, .int), (a 1, .long), (a 2, .byte), (a 3, .boolean), (a 4, .object "java/lang/Object")]
def nn_ok (U : State) : Prop := ∀ w ∈ nn, va_Nw w U
theorem nn_warm {s U : State} (hW : s.WarmedH U.vm) (h : nn_ok s) : nn_ok U := by
  intro w hw
  have h1 := h w hw
  have h2 := (List.mem_filter.mp hw).2
  cases w <;> first | exact va_Nw.warmF hW h1 | exact va_Nw.warmM hW h1 | exact va_Nw.warmC hW h1 | exact va_Nw.warmD hW h1 | (simp [isN] at h2)
theorem nn_same {s U : State} (hv : s.vm = U.vm) (h : nn_ok s) : nn_ok U := by
  intro w hw
  have h1 := h w hw
  have h2 := (List.mem_filter.mp hw).2
  cases w <;> first | exact va_Nw.same rfl hv h1 | (simp [isN] at h2)
theorem nn_use {s : State} {args : Array Value} {w : Cond} (h : nn_ok s) (hw : w ∈ nn) : w.before args s = true := by
  have h1 := h w hw
  have h2 := (List.mem_filter.mp hw).2
  cases w <;> first | exact va_Nw.use rfl h1 | (simp [isN] at h2)
def al_ok (e0 : Nat) (A : Nat → Prop) (U : State) : Prop := va_Z "java/util/ArrayList" "DEFAULTCAPACITY_EMPTY_ELEMENTDATA" "[Ljava/lang/Object;" (.ref e0) A U U.heap ∧ va_T (.object "java/lang/Object") e0 0 (fun _ => .null) A U U.heap
def ex_ok (g : Gx) (A : Nat → Prop) (U : State) : Prop := va_K g.1 vwCl (tyz g.2.1) U ∧ nn_ok U ∧ al_ok g.2.2.1 A U ∧ va_Mi "[Ljava/lang/Object;" g.2.2.2 U ∧ va_AO "java/lang/Object" U
theorem ex_call {g : Gx} {A B : Nat → Prop} {s U : State} {H : Heap} {locs : List Loc} (h : ex_ok g A s) (hS : va_S A s.heap H locs) (hU : U.heap = H) (hW : s.WarmedH U.vm) (hAB : ∀ q, B q → A q) : ex_ok g B U := by
  obtain ⟨h1, h2, ⟨h3, h4⟩, h5, h6⟩ := h
  refine ⟨va_K.moved hW.alike h1, nn_warm hW h2, ⟨?_, ?_⟩, va_Mi.moved hW.alike h5, va_AO.moved hW.alike h6⟩
  · have z := (va_Z.moved hW.alike h3).kept (H1 := H) (fun a q1 q2 => hS.2.1 a q1 q2)
    rw [hU]
    exact z.narrow hAB
  · have z := (va_T.moved hW.alike h4).kept (H1 := H) (fun a q1 q2 => hS.2.1 a q1 q2)
    rw [hU]
    exact z.narrow hAB
theorem ex_blind {g : Gx} {A : Nat → Prop} {U : State} {f : JFrame} {mk : MethodId} {a : Array Value} (h : ex_ok g A U) : ex_ok g A (U.calling f mk a) := by
  obtain ⟨h1, h2, ⟨h3, h4⟩, h5, h6⟩ := h
  exact ⟨va_K.moved (u := U) (U := U.calling f mk a) (Vm.Alike.refl U.vm) h1, nn_same (s := U) (U := U.calling f mk a) rfl h2, ⟨va_Z.moved (u := U) (U := U.calling f mk a) (Vm.Alike.refl U.vm) h3, va_T.moved (u := U) (U := U.calling f mk a) (Vm.Alike.refl U.vm) h4⟩, va_Mi.moved (u := U) (U := U.calling f mk a) (Vm.Alike.refl U.vm) h5, va_AO.moved (u := U) (U := U.calling f mk a) (Vm.Alike.refl U.vm) h6⟩
/-- worlds by membership -/
theorem P_iff {D : va_G} {ws : va_W} {H : Heap} : va_P D vwCl ws H ↔ ∀ q ∈ ws, va_at D vwCl q H :=
  ⟨fun h q hq => by obtain ⟨i, hi⟩ := List.getElem?_of_mem hq; exact h i q hi, fun h _ q hk => h q (List.mem_of_getElem? hk)⟩
theorem D_iff {A : Nat → Prop} {ws : va_W} : va_D A ws ↔ (ws.map (fun q => q.1)).Nodup ∧ ∀ q ∈ ws, A q.1 := by
  constructor
  · intro h
    refine ⟨?_, fun q hq => by obtain ⟨i, hi⟩ := List.getElem?_of_mem hq; exact h.2 i q hi⟩
    refine List.pairwise_iff_getElem.mpr ?_
    intro i j hi hj hij he
    rw [List.length_map] at hi hj
    rw [List.getElem_map, List.getElem_map] at he
    have := h.1 i j ws[i] ws[j] (List.getElem?_eq_getElem hi) (List.getElem?_eq_getElem hj) he
    omega
  · rintro ⟨h1, h2⟩
    refine ⟨fun i j x y hi hj hxy => ?_, fun k q hk => h2 q (List.mem_of_getElem? hk)⟩
    have h3 := List.pairwise_iff_getElem.mp h1
    obtain ⟨li, ei⟩ := List.getElem?_eq_some_iff.mp hi
    obtain ⟨lj, ej⟩ := List.getElem?_eq_some_iff.mp hj
    rcases Nat.lt_trichotomy i j with q | q | q
    · exact absurd (by rw [List.getElem_map, List.getElem_map, ei, ej]; exact hxy) (h3 i j (by rw [List.length_map]; exact li) (by rw [List.length_map]; exact lj) q)
    · exact q
    · exact absurd (by rw [List.getElem_map, List.getElem_map, ei, ej]; exact hxy.symm) (h3 j i (by rw [List.length_map]; exact lj) (by rw [List.length_map]; exact li) q)
theorem D_perm {A : Nat → Prop} {w1 w2 : va_W} (h : w1.Perm w2) (hD : va_D A w1) : va_D A w2 := by
  rw [D_iff] at hD ⊢
  exact ⟨(h.map _).nodup_iff.mp hD.1, fun q hq => hD.2 q (h.mem_iff.mpr hq)⟩
theorem P_perm {D : va_G} {H : Heap} {w1 w2 : va_W} (h : w1.Perm w2) (hP : va_P D vwCl w1 H) : va_P D vwCl w2 H := by
  rw [P_iff] at hP ⊢
  exact fun q hq => hP q (h.mem_iff.mpr hq)
theorem D_left {A : Nat → Prop} {w1 w2 : va_W} (hD : va_D A (w1 ++ w2)) : va_D A w1 := by
  rw [D_iff] at hD ⊢
  rw [List.map_append, List.nodup_append] at hD
  exact ⟨hD.1.1, fun q hq => hD.2 q (List.mem_append_left _ hq)⟩
theorem D_right {A : Nat → Prop} {w1 w2 : va_W} (hD : va_D A (w1 ++ w2)) : va_D A w2 := by
  rw [D_iff] at hD ⊢
  rw [List.map_append, List.nodup_append] at hD
  exact ⟨hD.1.2.1, fun q hq => hD.2 q (List.mem_append_right _ hq)⟩
theorem P_left {D : va_G} {H : Heap} {w1 w2 : va_W} (h : va_P D vwCl (w1 ++ w2) H) : va_P D vwCl w1 H := by
  rw [P_iff] at h ⊢
  exact fun q hq => h q (List.mem_append_left _ hq)
theorem P_right {D : va_G} {H : Heap} {w1 w2 : va_W} (h : va_P D vwCl (w1 ++ w2) H) : va_P D vwCl w2 H := by
  rw [P_iff] at h ⊢
  exact fun q hq => h q (List.mem_append_right _ hq)
theorem D_apart {A : Nat → Prop} {w1 w2 : va_W} (hD : va_D A (w1 ++ w2)) : ∀ x ∈ w1, ∀ y ∈ w2, x.1 ≠ y.1 := by
  rw [D_iff, List.map_append, List.nodup_append] at hD
  exact fun x hx y hy => hD.1.2.2 x.1 (List.mem_map.mpr ⟨x, hx, rfl⟩) y.1 (List.mem_map.mpr ⟨y, hy, rfl⟩)
theorem D_app {A : Nat → Prop} {w1 w2 : va_W} (h1 : va_D A w1) (h2 : va_D A w2) (h : ∀ x ∈ w1, ∀ y ∈ w2, x.1 ≠ y.1) : va_D A (w1 ++ w2) := by
  rw [D_iff] at h1 h2 ⊢
  refine ⟨?_, fun q hq => (List.mem_append.mp hq).elim (h1.2 q) (h2.2 q)⟩
  rw [List.map_append, List.nodup_append]
  refine ⟨h1.1, h2.1, fun a ha b hb => ?_⟩
  obtain ⟨x, hx, rfl⟩ := List.mem_map.mp ha
  obtain ⟨y, hy, rfl⟩ := List.mem_map.mp hb
  exact h x hx y hy
/-- a part of a list, by places -/
def pk (X : va_W) (is : List Nat) : va_W := is.filterMap (fun i => X[i]?)
theorem pk_mem {X : va_W} {is : List Nat} {q : Nat × va_E} (h : q ∈ pk X is) : ∃ i ∈ is, X[i]? = some q := List.mem_filterMap.mp h
theorem pk_in' {X : va_W} {is : List Nat} {q : Nat × va_E} (h : q ∈ pk X is) : q ∈ X := by
  obtain ⟨i, -, hi⟩ := pk_mem h
  exact List.mem_of_getElem? hi
theorem pk_D {A : Nat → Prop} {X : va_W} (hD : va_D A X) : ∀ (is : List Nat), va_nd is = true → va_D A (pk X is)
  | [], _ => D_iff.mpr ⟨List.nodup_nil, fun _ h => absurd h List.not_mem_nil⟩
  | i :: is, hn => by
    simp only [va_nd, Bool.and_eq_true, decide_eq_true_eq] at hn
    have ih := pk_D hD is hn.2
    unfold pk at ih ⊢
    cases hi : X[i]? with
    | none => rw [List.filterMap_cons_none hi]; exact ih
    | some x =>
      rw [List.filterMap_cons_some hi]
      refine D_app (w1 := [x]) ?_ ih ?_
      · exact D_iff.mpr ⟨by simp, fun q hq => by rw [List.mem_singleton.mp hq]; exact hD.2 i x hi⟩
      · intro z hz y hy he
        rw [List.mem_singleton.mp hz] at he
        obtain ⟨j, hj, hjy⟩ := List.mem_filterMap.mp hy
        have := hD.1 i j x y hi hjy he
        subst this
        exact hn.1 hj
theorem pk_apart {A : Nat → Prop} {X : va_W} (hD : va_D A X) {i1 i2 : List Nat} (hn : ∀ i ∈ i1, i ∉ i2) : ∀ x ∈ pk X i1, ∀ y ∈ pk X i2, x.1 ≠ y.1 := by
  intro x hx y hy he
  obtain ⟨i, h1, h2⟩ := pk_mem hx
  obtain ⟨j, h3, h4⟩ := pk_mem hy
  have := hD.1 i j x y h2 h4 he
  subst this
  exact hn i h1 h3
/-- what holds of a walk: the machine, the tables, the exit -/
abbrev Kx : Type := (Program × Launch × Env × Room) × (State × MethodId × Array Value × List Frame × Method × Code) × (Gx × (Nat → Prop)) × (State → Prop)
abbrev Ex : Type := Option Value → va_W → va_W → Prop
def QE (g : Gx) (A : Nat → Prop) (E : Ex) : Array Value → State → Outcome → State → Prop := fun _ st oc t => (∃ v X' P', oc = .returned v ∧ E v X' P' ∧ va_P g.1 vwCl (X' ++ P') t.heap ∧ va_D A (X' ++ P')) ∧ va_F A st t
def G (κ : Kx) (nL cells slots pc : Nat) (lv : List (Nat × Value)) (st : List Value) (X P : va_W) : Prop :=
  ∀ (H : Heap) (locs : List Loc) (ls : Array Slot), lv_has ls nL lv → va_P κ.2.2.1.1.1 vwCl (X ++ P) H → va_D κ.2.2.1.2 (X ++ P) → va_S κ.2.2.1.2 κ.2.1.1.heap H locs → W κ.1.1 κ.1.2.1 κ.1.2.2.1 κ.1.2.2.2 κ.2.1.1 κ.2.1.2.1 κ.2.1.2.2.1 κ.2.1.2.2.2.1 κ.2.1.2.2.2.2.1 κ.2.1.2.2.2.2.2 H locs cells slots κ.2.2.2 (F0 κ.2.1.2.1 pc ls st)
def zC (κ : Kx) (l : Launch) (g : Gx) (R : Room) (cc : ByteArray) (nL : Nat) (own name : String) (ret : Option FieldType) (E : Ex) : Prop :=
  κ.1.2.1 = l ∧ κ.2.2.1.1 = g ∧ κ.1.2.2.2 = R ∧ κ.1.1.tables.exec = Jvm.exec ∧ κ.2.1.2.2.2.2.2.code = cc ∧ κ.2.1.2.2.2.2.2.maxLocals = nL ∧ κ.2.1.1.vm.findClass own = some κ.2.1.2.1.cls ∧ (∀ w ∈ big, w.before κ.2.1.2.2.1 κ.2.1.1 = true) ∧ ex_ok g κ.2.2.1.2 κ.2.1.1 ∧ (∀ q, κ.2.1.1.heap.size ≤ q → κ.2.2.1.2 q) ∧ κ.2.1.2.2.2.2.1.sig.returnType = ret ∧ κ.2.1.2.2.2.2.1.locks = false ∧ κ.2.1.2.2.2.2.1.name = name ∧ κ.2.2.2 = MQ κ.2.1.2.2.2.1 (QE g κ.2.2.1.2 E) κ.2.1.2.2.1 κ.2.1.1 R.cells R.slots κ.2.2.1.2
/-- a method's contract: from the world X ++ P, with these arguments, it ends as E says -/
def MP (l : Launch) (g : Gx) (y : MethodName) (cc : ByteArray) (nL : Nat) (ret : Option FieldType) (rm : Room) (args : List Value) (X P : va_W) (E : Ex) : Prop :=
  ∀ sz : Nat, Met l y (.code y cc nL ret :: big) rm (va_Pc args (fun U => U.heap.size = sz ∧ va_P g.1 vwCl (X ++ P) U.heap ∧ va_D (fun _ => True) (X ++ P) ∧ ex_ok g (va_A (X ++ P) sz) U)) (QE g (va_A (X ++ P) sz) E) rm.cells rm.slots (va_A (X ++ P) sz)
set_option maxHeartbeats 4000000 in
theorem MP.of {l : Launch} {g : Gx} {y : MethodName} {cc : ByteArray} {nL : Nat} {ret : Option FieldType} {rm : Room} {args : List Value} {X P : va_W} {E : Ex} (hpl : plainName y.cls = true) (hlen : (lg_sl args).length ≤ nL) (body : ∀ κ : Kx, zC κ l g rm cc nL y.cls y.name ret E → G κ nL 0 0 0 (lv_args 0 args) [] X P) : MP l g y cc nL ret rm args X P E := by
  intro sz
  refine Met.ofW (cc := cc) (maxL := nL) (ret := ret) hpl rfl ?_
  intro p e s m args' below meth c s₁ B hml hv
  obtain ⟨rfl, hsz, hP, hD0, hex⟩ := hv
  subst hsz
  have hts := atoms_spec (ws := .code y cc nL ret :: big) B.pre
  have hl := lv_entry args hlen
  rw [lg_entry_eq]
  have hb := body ((p, l, e, rm), (s, m, args.toArray, below, meth, c), (g, va_A (X ++ P) s.heap.size), MQ below (QE g (va_A (X ++ P) s.heap.size) E) args.toArray s rm.cells rm.slots (va_A (X ++ P) s.heap.size)) ⟨rfl, rfl, rfl, B.exec, B.bytes, hml, findClass_of_methodNamed B.named, fun w hw => hts w (List.mem_cons_of_mem _ hw), hex, fun q hq => Or.inr hq, B.returns, B.notSynchronized, (name_of_methodNamed B.named B.method).1, rfl⟩
  exact hb s.heap [] _ hl hP (hD0.self (sz := s.heap.size)) va_S.rf
