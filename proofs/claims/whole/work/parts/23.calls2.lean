def M0 (l : Launch) (g : Gx) (y : MethodName) (cc : ByteArray) (nL : Nat) (ret : Option FieldType) (rm : Room) (args : List Value) (X : va_W) (v : Option Value) (X1 : va_W) : Prop := MP l g y cc nL ret rm args X [] (fun v2 X2 P2 => v2 = v ∧ X2 = X1 ∧ P2 = [])
section GD
variable {κ : Kx} {l : Launch} {g : Gx} {R : Room} {cc : ByteArray} {nL : Nat} {own name : String} {ret : Option FieldType} {E : Ex} {cs ss pc q : Nat} {lv : List (Nat × Value)} {st : List Value} {X P : va_W}
variable {y : MethodName} {yc : ByteArray} {yL n index : Nat} {yr : Option FieldType} {rm : Room} {b : Nat} {As rest : List Value} {Ec : Ex}
theorem g_ord {X1 : va_W} (ord : List Nat) (hn : va_nd ord = true) (h : pk X ord = X1) (k : G κ nL cs ss pc lv st X1 P) : G κ nL cs ss pc lv st X P := by
  subst h
  exact fun H locs ls hl hP hD hS => k H locs ls hl (ord_P hP) (ord_D hn hD) hS
theorem rcv_of (C : zC κ l g R cc nL own name ret E) {ws : va_W} {H : Heap} {Cn : String} (hP : va_P κ.2.2.1.1.1 vwCl ws H) (h : rcv ws b Cn) : ∃ cell : Cell, H[b]? = some cell ∧ cell.vm.isStatics = false ∧ κ.2.1.1.vm.findClass Cn = some cell.cls := by
  obtain ⟨k, ci, fs, T, N, h1, h2⟩ := h
  exact va_recv C.K hP h2 h1
theorem g_callVE (C : zC κ l g R cc nL own name ret E) {Xc : va_W} (hM : MP l g y yc yL yr rm (.ref b :: As) Xc [] Ec) (isC isR : List Nat) (hXc : pk X isC = Xc) (hnd : va_nd isC = true ∧ va_nd isR = true ∧ ∀ i ∈ isR, i ∉ isC) (hPn : ∀ v X' P', Ec v X' P' → P' = []) (ho : mok y yc yL yr As.length) (hv : mov y) (hw : Cond.methodLink own index y ∈ big) (hR : rm.frames + 1 ≤ R.frames ∧ 8 + (yL + 11) + rm.locals ≤ R.locals) (hrc : rcv (X ++ P) b y.cls) (hst : st = As.reverse ++ .ref b :: rest) (hrest : (rest.map fun v => v.category).sum ≤ 8) (hc : cs + rm.cells ≤ R.cells ∧ ss + rm.slots ≤ R.slots) (hd : dz cc pc (.invokevirtual index) 3 q)
    (kk : ∀ (v : Option Value) (X' : va_W), Ec v X' [] → G κ nL (cs + rm.cells) (ss + rm.slots) q lv (v.toList ++ rest) (pk X isR ++ X') P) : G κ nL cs ss pc lv st X P := by
  intro H locs ls hl hP hD hS
  subst hXc
  have hsub : ∀ x ∈ pk X isC ++ [], x ∈ X ++ P := fun x hx => (List.mem_append.mp hx).elim (fun z => List.mem_append_left _ (pk_in' z)) (fun z => absurd z List.not_mem_nil)
  have hF := free_of hD hS C.A hsub
  have hPc : va_P κ.2.2.1.1.1 vwCl (pk X isC ++ []) H := P_iff.mpr (fun x hx => P_iff.mp hP x (hsub x hx))
  have hDc : va_D κ.2.2.1.2 (pk X isC ++ []) := by rw [List.append_nil]; exact pk_D (D_left hD) isC hnd.1
  have hr := run_V C hM ho hv hw hR (rcv_of C hP hrc) hPc hDc hS hF hl hst hrest hc hd
  refine run_tail hr hS hF (fun v X' P' H1 l1 hE hP1 hD1 hk hS1 => ?_)
  have hq := hd.2
  subst hq
  have hn0 := hPn v X' P' hE
  subst hn0
  have hap : ∀ x ∈ pk X isR ++ P, ∀ y ∈ pk X isC ++ [], x.1 ≠ y.1 := fun x hx y hy => (List.mem_append.mp hy).elim (fun z => (List.mem_append.mp hx).elim (fun z2 => pk_apart (D_left hD) hnd.2.2 x z2 y z) (fun z2 => (D_apart hD y (pk_in' z) x z2).symm)) (fun z => absurd z List.not_mem_nil)
  obtain ⟨a1, a2⟩ := fr_core (w1 := X' ++ []) (ord_P (ord := isR) hP) (ord_D hnd.2.1 hD) hap hk hF (by rw [C.2.1]; exact hP1) hD1
  have hperm : ((pk X isR ++ P) ++ (X' ++ [])).Perm ((pk X isR ++ X') ++ P) := by
    rw [List.append_nil, List.append_assoc, List.append_assoc]
    exact List.Perm.append_left _ List.perm_append_comm
  exact kk v X' hE H1 l1 ls hl (P_perm hperm a1) (D_perm hperm a2) hS1
theorem g_callVP (C : zC κ l g R cc nL own name ret E) {Xc : va_W} (hM : MP l g y yc yL yr rm (.ref b :: As) Xc P Ec) (isC isR : List Nat) (hXc : pk X isC = Xc) (hnd : va_nd isC = true ∧ va_nd isR = true ∧ ∀ i ∈ isR, i ∉ isC)  (ho : mok y yc yL yr As.length) (hv : mov y) (hw : Cond.methodLink own index y ∈ big) (hR : rm.frames + 1 ≤ R.frames ∧ 8 + (yL + 11) + rm.locals ≤ R.locals) (hrc : rcv (X ++ P) b y.cls) (hst : st = As.reverse ++ .ref b :: rest) (hrest : (rest.map fun v => v.category).sum ≤ 8) (hc : cs + rm.cells ≤ R.cells ∧ ss + rm.slots ≤ R.slots) (hd : dz cc pc (.invokevirtual index) 3 q)
    (kk : ∀ (v : Option Value) (X' : va_W) (P' : va_W), Ec v X' P' → G κ nL (cs + rm.cells) (ss + rm.slots) q lv (v.toList ++ rest) (pk X isR ++ X') P') : G κ nL cs ss pc lv st X P := by
  intro H locs ls hl hP hD hS
  subst hXc
  have hsub : ∀ x ∈ pk X isC ++ P, x ∈ X ++ P := fun x hx => (List.mem_append.mp hx).elim (fun z => List.mem_append_left _ (pk_in' z)) (fun z => List.mem_append_right _ z)
  have hF := free_of hD hS C.A hsub
  have hPc : va_P κ.2.2.1.1.1 vwCl (pk X isC ++ P) H := P_iff.mpr (fun x hx => P_iff.mp hP x (hsub x hx))
  have hDc : va_D κ.2.2.1.2 (pk X isC ++ P) := ord_D hnd.1 hD
  have hr := run_V C hM ho hv hw hR (rcv_of C hP hrc) hPc hDc hS hF hl hst hrest hc hd
  refine run_tail hr hS hF (fun v X' P' H1 l1 hE hP1 hD1 hk hS1 => ?_)
  have hq := hd.2
  subst hq
  have hap : ∀ x ∈ pk X isR, ∀ y ∈ pk X isC ++ P, x.1 ≠ y.1 := fun x hx y hy => (List.mem_append.mp hy).elim (fun z => pk_apart (D_left hD) hnd.2.2 x hx y z) (fun z => D_apart hD x (pk_in' hx) y z)
  obtain ⟨a1, a2⟩ := fr_core (w1 := X' ++ P') (P_left (ord_P (ord := isR) hP)) (pk_D (D_left hD) isR hnd.2.1) hap hk hF (by rw [C.2.1]; exact hP1) hD1
  rw [← List.append_assoc] at a1 a2
  exact kk v X' P' hE H1 l1 ls hl a1 a2 hS1
theorem g_callV0 (C : zC κ l g R cc nL own name ret E) {v : Option Value} {Xc X1 Xn : va_W} (hM : M0 l g y yc yL yr rm (.ref b :: As) Xc v X1) (isC isR ord : List Nat) (hXc : pk X isC = Xc) (hnd : va_nd isC = true ∧ va_nd isR = true ∧ ∀ i ∈ isR, i ∉ isC) (hno : va_nd ord = true) (hXn : pk (pk X isR ++ X1) ord = Xn) (ho : mok y yc yL yr As.length) (hv : mov y) (hw : Cond.methodLink own index y ∈ big) (hR : rm.frames + 1 ≤ R.frames ∧ 8 + (yL + 11) + rm.locals ≤ R.locals) (hrc : rcv (X ++ P) b y.cls) (hst : st = As.reverse ++ .ref b :: rest) (hrest : (rest.map fun v => v.category).sum ≤ 8) (hc : cs + rm.cells ≤ R.cells ∧ ss + rm.slots ≤ R.slots) (hd : dz cc pc (.invokevirtual index) 3 q)
    (kk : G κ nL (cs + rm.cells) (ss + rm.slots) q lv (v.toList ++ rest) Xn P) : G κ nL cs ss pc lv st X P := by
  refine g_callVE C hM isC isR hXc hnd (fun _ _ _ h => h.2.2) ho hv hw hR hrc hst hrest hc hd (fun v2 X2 h => ?_)
  obtain ⟨rfl, rfl, -⟩ := h
  exact g_ord ord hno hXn kk
theorem g_callVNE (C : zC κ l g R cc nL own name ret E) {Xc : va_W} (hM : MP l g y yc yL yr rm (.ref b :: As) Xc [] Ec) (isC isR : List Nat) (hXc : pk X isC = Xc) (hnd : va_nd isC = true ∧ va_nd isR = true ∧ ∀ i ∈ isR, i ∉ isC) (hPn : ∀ v X' P', Ec v X' P' → P' = []) (ho : mok y yc yL yr As.length) (hv : mov y) (hw : Cond.methodLinkNest own index y "TombLane" ∈ nn) (hR : rm.frames + 1 ≤ R.frames ∧ 8 + (yL + 11) + rm.locals ≤ R.locals) (hrc : rcv (X ++ P) b y.cls) (hst : st = As.reverse ++ .ref b :: rest) (hrest : (rest.map fun v => v.category).sum ≤ 8) (hc : cs + rm.cells ≤ R.cells ∧ ss + rm.slots ≤ R.slots) (hd : dz cc pc (.invokevirtual index) 3 q)
    (kk : ∀ (v : Option Value) (X' : va_W), Ec v X' [] → G κ nL (cs + rm.cells) (ss + rm.slots) q lv (v.toList ++ rest) (pk X isR ++ X') P) : G κ nL cs ss pc lv st X P := by
  intro H locs ls hl hP hD hS
  subst hXc
  have hsub : ∀ x ∈ pk X isC ++ [], x ∈ X ++ P := fun x hx => (List.mem_append.mp hx).elim (fun z => List.mem_append_left _ (pk_in' z)) (fun z => absurd z List.not_mem_nil)
  have hF := free_of hD hS C.A hsub
  have hPc : va_P κ.2.2.1.1.1 vwCl (pk X isC ++ []) H := P_iff.mpr (fun x hx => P_iff.mp hP x (hsub x hx))
  have hDc : va_D κ.2.2.1.2 (pk X isC ++ []) := by rw [List.append_nil]; exact pk_D (D_left hD) isC hnd.1
  have hr := run_VN C hM ho hv hw hR (rcv_of C hP hrc) hPc hDc hS hF hl hst hrest hc hd
  refine run_tail hr hS hF (fun v X' P' H1 l1 hE hP1 hD1 hk hS1 => ?_)
  have hq := hd.2
  subst hq
  have hn0 := hPn v X' P' hE
  subst hn0
  have hap : ∀ x ∈ pk X isR ++ P, ∀ y ∈ pk X isC ++ [], x.1 ≠ y.1 := fun x hx y hy => (List.mem_append.mp hy).elim (fun z => (List.mem_append.mp hx).elim (fun z2 => pk_apart (D_left hD) hnd.2.2 x z2 y z) (fun z2 => (D_apart hD y (pk_in' z) x z2).symm)) (fun z => absurd z List.not_mem_nil)
  obtain ⟨a1, a2⟩ := fr_core (w1 := X' ++ []) (ord_P (ord := isR) hP) (ord_D hnd.2.1 hD) hap hk hF (by rw [C.2.1]; exact hP1) hD1
  have hperm : ((pk X isR ++ P) ++ (X' ++ [])).Perm ((pk X isR ++ X') ++ P) := by
    rw [List.append_nil, List.append_assoc, List.append_assoc]
    exact List.Perm.append_left _ List.perm_append_comm
  exact kk v X' hE H1 l1 ls hl (P_perm hperm a1) (D_perm hperm a2) hS1
theorem g_callVNP (C : zC κ l g R cc nL own name ret E) {Xc : va_W} (hM : MP l g y yc yL yr rm (.ref b :: As) Xc P Ec) (isC isR : List Nat) (hXc : pk X isC = Xc) (hnd : va_nd isC = true ∧ va_nd isR = true ∧ ∀ i ∈ isR, i ∉ isC)  (ho : mok y yc yL yr As.length) (hv : mov y) (hw : Cond.methodLinkNest own index y "TombLane" ∈ nn) (hR : rm.frames + 1 ≤ R.frames ∧ 8 + (yL + 11) + rm.locals ≤ R.locals) (hrc : rcv (X ++ P) b y.cls) (hst : st = As.reverse ++ .ref b :: rest) (hrest : (rest.map fun v => v.category).sum ≤ 8) (hc : cs + rm.cells ≤ R.cells ∧ ss + rm.slots ≤ R.slots) (hd : dz cc pc (.invokevirtual index) 3 q)
    (kk : ∀ (v : Option Value) (X' : va_W) (P' : va_W), Ec v X' P' → G κ nL (cs + rm.cells) (ss + rm.slots) q lv (v.toList ++ rest) (pk X isR ++ X') P') : G κ nL cs ss pc lv st X P := by
  intro H locs ls hl hP hD hS
  subst hXc
  have hsub : ∀ x ∈ pk X isC ++ P, x ∈ X ++ P := fun x hx => (List.mem_append.mp hx).elim (fun z => List.mem_append_left _ (pk_in' z)) (fun z => List.mem_append_right _ z)
  have hF := free_of hD hS C.A hsub
  have hPc : va_P κ.2.2.1.1.1 vwCl (pk X isC ++ P) H := P_iff.mpr (fun x hx => P_iff.mp hP x (hsub x hx))
  have hDc : va_D κ.2.2.1.2 (pk X isC ++ P) := ord_D hnd.1 hD
  have hr := run_VN C hM ho hv hw hR (rcv_of C hP hrc) hPc hDc hS hF hl hst hrest hc hd
  refine run_tail hr hS hF (fun v X' P' H1 l1 hE hP1 hD1 hk hS1 => ?_)
  have hq := hd.2
  subst hq
  have hap : ∀ x ∈ pk X isR, ∀ y ∈ pk X isC ++ P, x.1 ≠ y.1 := fun x hx y hy => (List.mem_append.mp hy).elim (fun z => pk_apart (D_left hD) hnd.2.2 x hx y z) (fun z => D_apart hD x (pk_in' hx) y z)
  obtain ⟨a1, a2⟩ := fr_core (w1 := X' ++ P') (P_left (ord_P (ord := isR) hP)) (pk_D (D_left hD) isR hnd.2.1) hap hk hF (by rw [C.2.1]; exact hP1) hD1
  rw [← List.append_assoc] at a1 a2
  exact kk v X' P' hE H1 l1 ls hl a1 a2 hS1
theorem g_callVN0 (C : zC κ l g R cc nL own name ret E) {v : Option Value} {Xc X1 Xn : va_W} (hM : M0 l g y yc yL yr rm (.ref b :: As) Xc v X1) (isC isR ord : List Nat) (hXc : pk X isC = Xc) (hnd : va_nd isC = true ∧ va_nd isR = true ∧ ∀ i ∈ isR, i ∉ isC) (hno : va_nd ord = true) (hXn : pk (pk X isR ++ X1) ord = Xn) (ho : mok y yc yL yr As.length) (hv : mov y) (hw : Cond.methodLinkNest own index y "TombLane" ∈ nn) (hR : rm.frames + 1 ≤ R.frames ∧ 8 + (yL + 11) + rm.locals ≤ R.locals) (hrc : rcv (X ++ P) b y.cls) (hst : st = As.reverse ++ .ref b :: rest) (hrest : (rest.map fun v => v.category).sum ≤ 8) (hc : cs + rm.cells ≤ R.cells ∧ ss + rm.slots ≤ R.slots) (hd : dz cc pc (.invokevirtual index) 3 q)
    (kk : G κ nL (cs + rm.cells) (ss + rm.slots) q lv (v.toList ++ rest) Xn P) : G κ nL cs ss pc lv st X P := by
  refine g_callVNE C hM isC isR hXc hnd (fun _ _ _ h => h.2.2) ho hv hw hR hrc hst hrest hc hd (fun v2 X2 h => ?_)
  obtain ⟨rfl, rfl, -⟩ := h
  exact g_ord ord hno hXn kk
theorem g_callSE (C : zC κ l g R cc nL own name ret E) {Xc : va_W} (hM : MP l g y yc yL yr rm As Xc [] Ec) (isC isR : List Nat) (hXc : pk X isC = Xc) (hnd : va_nd isC = true ∧ va_nd isR = true ∧ ∀ i ∈ isR, i ∉ isC) (hPn : ∀ v X' P', Ec v X' P' → P' = []) (ho : mok y yc yL yr As.length) (hv : Cond.static y ∈ big) (hw : Cond.methodLink own index y ∈ big) (hR : rm.frames + 1 ≤ R.frames ∧ 8 + (yL + 11) + rm.locals ≤ R.locals) (hst : st = As.reverse ++ rest) (hrest : (rest.map fun v => v.category).sum ≤ 8) (hc : cs + rm.cells ≤ R.cells ∧ ss + rm.slots ≤ R.slots) (hd : dz cc pc (.invokestatic index) 3 q)
    (kk : ∀ (v : Option Value) (X' : va_W), Ec v X' [] → G κ nL (cs + rm.cells) (ss + rm.slots) q lv (v.toList ++ rest) (pk X isR ++ X') P) : G κ nL cs ss pc lv st X P := by
  intro H locs ls hl hP hD hS
  subst hXc
  have hsub : ∀ x ∈ pk X isC ++ [], x ∈ X ++ P := fun x hx => (List.mem_append.mp hx).elim (fun z => List.mem_append_left _ (pk_in' z)) (fun z => absurd z List.not_mem_nil)
  have hF := free_of hD hS C.A hsub
  have hPc : va_P κ.2.2.1.1.1 vwCl (pk X isC ++ []) H := P_iff.mpr (fun x hx => P_iff.mp hP x (hsub x hx))
  have hDc : va_D κ.2.2.1.2 (pk X isC ++ []) := by rw [List.append_nil]; exact pk_D (D_left hD) isC hnd.1
  have hr := run_S C hM ho hv hw hR hPc hDc hS hF hl hst hrest hc hd
  refine run_tail hr hS hF (fun v X' P' H1 l1 hE hP1 hD1 hk hS1 => ?_)
  have hq := hd.2
  subst hq
  have hn0 := hPn v X' P' hE
  subst hn0
  have hap : ∀ x ∈ pk X isR ++ P, ∀ y ∈ pk X isC ++ [], x.1 ≠ y.1 := fun x hx y hy => (List.mem_append.mp hy).elim (fun z => (List.mem_append.mp hx).elim (fun z2 => pk_apart (D_left hD) hnd.2.2 x z2 y z) (fun z2 => (D_apart hD y (pk_in' z) x z2).symm)) (fun z => absurd z List.not_mem_nil)
  obtain ⟨a1, a2⟩ := fr_core (w1 := X' ++ []) (ord_P (ord := isR) hP) (ord_D hnd.2.1 hD) hap hk hF (by rw [C.2.1]; exact hP1) hD1
  have hperm : ((pk X isR ++ P) ++ (X' ++ [])).Perm ((pk X isR ++ X') ++ P) := by
    rw [List.append_nil, List.append_assoc, List.append_assoc]
    exact List.Perm.append_left _ List.perm_append_comm
  exact kk v X' hE H1 l1 ls hl (P_perm hperm a1) (D_perm hperm a2) hS1
theorem g_callSP (C : zC κ l g R cc nL own name ret E) {Xc : va_W} (hM : MP l g y yc yL yr rm As Xc P Ec) (isC isR : List Nat) (hXc : pk X isC = Xc) (hnd : va_nd isC = true ∧ va_nd isR = true ∧ ∀ i ∈ isR, i ∉ isC)  (ho : mok y yc yL yr As.length) (hv : Cond.static y ∈ big) (hw : Cond.methodLink own index y ∈ big) (hR : rm.frames + 1 ≤ R.frames ∧ 8 + (yL + 11) + rm.locals ≤ R.locals) (hst : st = As.reverse ++ rest) (hrest : (rest.map fun v => v.category).sum ≤ 8) (hc : cs + rm.cells ≤ R.cells ∧ ss + rm.slots ≤ R.slots) (hd : dz cc pc (.invokestatic index) 3 q)
    (kk : ∀ (v : Option Value) (X' : va_W) (P' : va_W), Ec v X' P' → G κ nL (cs + rm.cells) (ss + rm.slots) q lv (v.toList ++ rest) (pk X isR ++ X') P') : G κ nL cs ss pc lv st X P := by
  intro H locs ls hl hP hD hS
  subst hXc
  have hsub : ∀ x ∈ pk X isC ++ P, x ∈ X ++ P := fun x hx => (List.mem_append.mp hx).elim (fun z => List.mem_append_left _ (pk_in' z)) (fun z => List.mem_append_right _ z)
  have hF := free_of hD hS C.A hsub
  have hPc : va_P κ.2.2.1.1.1 vwCl (pk X isC ++ P) H := P_iff.mpr (fun x hx => P_iff.mp hP x (hsub x hx))
  have hDc : va_D κ.2.2.1.2 (pk X isC ++ P) := ord_D hnd.1 hD
  have hr := run_S C hM ho hv hw hR hPc hDc hS hF hl hst hrest hc hd
  refine run_tail hr hS hF (fun v X' P' H1 l1 hE hP1 hD1 hk hS1 => ?_)
  have hq := hd.2
  subst hq
  have hap : ∀ x ∈ pk X isR, ∀ y ∈ pk X isC ++ P, x.1 ≠ y.1 := fun x hx y hy => (List.mem_append.mp hy).elim (fun z => pk_apart (D_left hD) hnd.2.2 x hx y z) (fun z => D_apart hD x (pk_in' hx) y z)
  obtain ⟨a1, a2⟩ := fr_core (w1 := X' ++ P') (P_left (ord_P (ord := isR) hP)) (pk_D (D_left hD) isR hnd.2.1) hap hk hF (by rw [C.2.1]; exact hP1) hD1
  rw [← List.append_assoc] at a1 a2
  exact kk v X' P' hE H1 l1 ls hl a1 a2 hS1
theorem g_callS0 (C : zC κ l g R cc nL own name ret E) {v : Option Value} {Xc X1 Xn : va_W} (hM : M0 l g y yc yL yr rm As Xc v X1) (isC isR ord : List Nat) (hXc : pk X isC = Xc) (hnd : va_nd isC = true ∧ va_nd isR = true ∧ ∀ i ∈ isR, i ∉ isC) (hno : va_nd ord = true) (hXn : pk (pk X isR ++ X1) ord = Xn) (ho : mok y yc yL yr As.length) (hv : Cond.static y ∈ big) (hw : Cond.methodLink own index y ∈ big) (hR : rm.frames + 1 ≤ R.frames ∧ 8 + (yL + 11) + rm.locals ≤ R.locals) (hst : st = As.reverse ++ rest) (hrest : (rest.map fun v => v.category).sum ≤ 8) (hc : cs + rm.cells ≤ R.cells ∧ ss + rm.slots ≤ R.slots) (hd : dz cc pc (.invokestatic index) 3 q)
    (kk : G κ nL (cs + rm.cells) (ss + rm.slots) q lv (v.toList ++ rest) Xn P) : G κ nL cs ss pc lv st X P := by
  refine g_callSE C hM isC isR hXc hnd (fun _ _ _ h => h.2.2) ho hv hw hR hst hrest hc hd (fun v2 X2 h => ?_)
  obtain ⟨rfl, rfl, -⟩ := h
  exact g_ord ord hno hXn kk
theorem g_callSNE (C : zC κ l g R cc nL own name ret E) {Xc : va_W} (hM : MP l g y yc yL yr rm As Xc [] Ec) (isC isR : List Nat) (hXc : pk X isC = Xc) (hnd : va_nd isC = true ∧ va_nd isR = true ∧ ∀ i ∈ isR, i ∉ isC) (hPn : ∀ v X' P', Ec v X' P' → P' = []) (ho : mok y yc yL yr As.length) (hv : Cond.static y ∈ big) (hw : Cond.methodLinkNest own index y "TombLane" ∈ nn) (hR : rm.frames + 1 ≤ R.frames ∧ 8 + (yL + 11) + rm.locals ≤ R.locals) (hst : st = As.reverse ++ rest) (hrest : (rest.map fun v => v.category).sum ≤ 8) (hc : cs + rm.cells ≤ R.cells ∧ ss + rm.slots ≤ R.slots) (hd : dz cc pc (.invokestatic index) 3 q)
    (kk : ∀ (v : Option Value) (X' : va_W), Ec v X' [] → G κ nL (cs + rm.cells) (ss + rm.slots) q lv (v.toList ++ rest) (pk X isR ++ X') P) : G κ nL cs ss pc lv st X P := by
  intro H locs ls hl hP hD hS
  subst hXc
  have hsub : ∀ x ∈ pk X isC ++ [], x ∈ X ++ P := fun x hx => (List.mem_append.mp hx).elim (fun z => List.mem_append_left _ (pk_in' z)) (fun z => absurd z List.not_mem_nil)
  have hF := free_of hD hS C.A hsub
  have hPc : va_P κ.2.2.1.1.1 vwCl (pk X isC ++ []) H := P_iff.mpr (fun x hx => P_iff.mp hP x (hsub x hx))
  have hDc : va_D κ.2.2.1.2 (pk X isC ++ []) := by rw [List.append_nil]; exact pk_D (D_left hD) isC hnd.1
  have hr := run_SN C hM ho hv hw hR hPc hDc hS hF hl hst hrest hc hd
  refine run_tail hr hS hF (fun v X' P' H1 l1 hE hP1 hD1 hk hS1 => ?_)
  have hq := hd.2
  subst hq
  have hn0 := hPn v X' P' hE
  subst hn0
  have hap : ∀ x ∈ pk X isR ++ P, ∀ y ∈ pk X isC ++ [], x.1 ≠ y.1 := fun x hx y hy => (List.mem_append.mp hy).elim (fun z => (List.mem_append.mp hx).elim (fun z2 => pk_apart (D_left hD) hnd.2.2 x z2 y z) (fun z2 => (D_apart hD y (pk_in' z) x z2).symm)) (fun z => absurd z List.not_mem_nil)
  obtain ⟨a1, a2⟩ := fr_core (w1 := X' ++ []) (ord_P (ord := isR) hP) (ord_D hnd.2.1 hD) hap hk hF (by rw [C.2.1]; exact hP1) hD1
  have hperm : ((pk X isR ++ P) ++ (X' ++ [])).Perm ((pk X isR ++ X') ++ P) := by
    rw [List.append_nil, List.append_assoc, List.append_assoc]
    exact List.Perm.append_left _ List.perm_append_comm
  exact kk v X' hE H1 l1 ls hl (P_perm hperm a1) (D_perm hperm a2) hS1
theorem g_callSNP (C : zC κ l g R cc nL own name ret E) {Xc : va_W} (hM : MP l g y yc yL yr rm As Xc P Ec) (isC isR : List Nat) (hXc : pk X isC = Xc) (hnd : va_nd isC = true ∧ va_nd isR = true ∧ ∀ i ∈ isR, i ∉ isC)  (ho : mok y yc yL yr As.length) (hv : Cond.static y ∈ big) (hw : Cond.methodLinkNest own index y "TombLane" ∈ nn) (hR : rm.frames + 1 ≤ R.frames ∧ 8 + (yL + 11) + rm.locals ≤ R.locals) (hst : st = As.reverse ++ rest) (hrest : (rest.map fun v => v.category).sum ≤ 8) (hc : cs + rm.cells ≤ R.cells ∧ ss + rm.slots ≤ R.slots) (hd : dz cc pc (.invokestatic index) 3 q)
    (kk : ∀ (v : Option Value) (X' : va_W) (P' : va_W), Ec v X' P' → G κ nL (cs + rm.cells) (ss + rm.slots) q lv (v.toList ++ rest) (pk X isR ++ X') P') : G κ nL cs ss pc lv st X P := by
  intro H locs ls hl hP hD hS
  subst hXc
  have hsub : ∀ x ∈ pk X isC ++ P, x ∈ X ++ P := fun x hx => (List.mem_append.mp hx).elim (fun z => List.mem_append_left _ (pk_in' z)) (fun z => List.mem_append_right _ z)
  have hF := free_of hD hS C.A hsub
  have hPc : va_P κ.2.2.1.1.1 vwCl (pk X isC ++ P) H := P_iff.mpr (fun x hx => P_iff.mp hP x (hsub x hx))
  have hDc : va_D κ.2.2.1.2 (pk X isC ++ P) := ord_D hnd.1 hD
  have hr := run_SN C hM ho hv hw hR hPc hDc hS hF hl hst hrest hc hd
  refine run_tail hr hS hF (fun v X' P' H1 l1 hE hP1 hD1 hk hS1 => ?_)
  have hq := hd.2
  subst hq
  have hap : ∀ x ∈ pk X isR, ∀ y ∈ pk X isC ++ P, x.1 ≠ y.1 := fun x hx y hy => (List.mem_append.mp hy).elim (fun z => pk_apart (D_left hD) hnd.2.2 x hx y z) (fun z => D_apart hD x (pk_in' hx) y z)
  obtain ⟨a1, a2⟩ := fr_core (w1 := X' ++ P') (P_left (ord_P (ord := isR) hP)) (pk_D (D_left hD) isR hnd.2.1) hap hk hF (by rw [C.2.1]; exact hP1) hD1
  rw [← List.append_assoc] at a1 a2
  exact kk v X' P' hE H1 l1 ls hl a1 a2 hS1
theorem g_callSN0 (C : zC κ l g R cc nL own name ret E) {v : Option Value} {Xc X1 Xn : va_W} (hM : M0 l g y yc yL yr rm As Xc v X1) (isC isR ord : List Nat) (hXc : pk X isC = Xc) (hnd : va_nd isC = true ∧ va_nd isR = true ∧ ∀ i ∈ isR, i ∉ isC) (hno : va_nd ord = true) (hXn : pk (pk X isR ++ X1) ord = Xn) (ho : mok y yc yL yr As.length) (hv : Cond.static y ∈ big) (hw : Cond.methodLinkNest own index y "TombLane" ∈ nn) (hR : rm.frames + 1 ≤ R.frames ∧ 8 + (yL + 11) + rm.locals ≤ R.locals) (hst : st = As.reverse ++ rest) (hrest : (rest.map fun v => v.category).sum ≤ 8) (hc : cs + rm.cells ≤ R.cells ∧ ss + rm.slots ≤ R.slots) (hd : dz cc pc (.invokestatic index) 3 q)
    (kk : G κ nL (cs + rm.cells) (ss + rm.slots) q lv (v.toList ++ rest) Xn P) : G κ nL cs ss pc lv st X P := by
  refine g_callSNE C hM isC isR hXc hnd (fun _ _ _ h => h.2.2) ho hv hw hR hst hrest hc hd (fun v2 X2 h => ?_)
  obtain ⟨rfl, rfl, -⟩ := h
  exact g_ord ord hno hXn kk
theorem g_callIE (C : zC κ l g R cc nL own name ret E) {Xc : va_W} (hM : MP l g y yc yL none rm (.ref b :: As) Xc [] Ec) (isC isR : List Nat) (hXc : pk X isC = Xc) (hnd : va_nd isC = true ∧ va_nd isR = true ∧ ∀ i ∈ isR, i ∉ isC) (hPn : ∀ v X' P', Ec v X' P' → P' = []) (ho : mok y yc yL none As.length) (hv : Cond.instanceMethod y ∈ big) (hi : y.name = "<init>") (hw : Cond.methodLink own index y ∈ big) (hR : rm.frames + 1 ≤ R.frames ∧ 8 + (yL + 11) + rm.locals ≤ R.locals) (hst : st = As.reverse ++ .ref b :: rest) (hrest : (rest.map fun v => v.category).sum ≤ 8) (hc : cs + rm.cells ≤ R.cells ∧ ss + rm.slots ≤ R.slots) (hd : dz cc pc (.invokespecial index) 3 q)
    (kk : ∀ (v : Option Value) (X' : va_W), Ec v X' [] → G κ nL (cs + rm.cells) (ss + rm.slots) q lv (v.toList ++ rest) (pk X isR ++ X') P) : G κ nL cs ss pc lv st X P := by
  intro H locs ls hl hP hD hS
  subst hXc
  have hsub : ∀ x ∈ pk X isC ++ [], x ∈ X ++ P := fun x hx => (List.mem_append.mp hx).elim (fun z => List.mem_append_left _ (pk_in' z)) (fun z => absurd z List.not_mem_nil)
  have hF := free_of hD hS C.A hsub
  have hPc : va_P κ.2.2.1.1.1 vwCl (pk X isC ++ []) H := P_iff.mpr (fun x hx => P_iff.mp hP x (hsub x hx))
  have hDc : va_D κ.2.2.1.2 (pk X isC ++ []) := by rw [List.append_nil]; exact pk_D (D_left hD) isC hnd.1
  have hr := run_I C hM ho hv hi hw hR hPc hDc hS hF hl hst hrest hc hd
  refine run_tail hr hS hF (fun v X' P' H1 l1 hE hP1 hD1 hk hS1 => ?_)
  have hq := hd.2
  subst hq
  have hn0 := hPn v X' P' hE
  subst hn0
  have hap : ∀ x ∈ pk X isR ++ P, ∀ y ∈ pk X isC ++ [], x.1 ≠ y.1 := fun x hx y hy => (List.mem_append.mp hy).elim (fun z => (List.mem_append.mp hx).elim (fun z2 => pk_apart (D_left hD) hnd.2.2 x z2 y z) (fun z2 => (D_apart hD y (pk_in' z) x z2).symm)) (fun z => absurd z List.not_mem_nil)
  obtain ⟨a1, a2⟩ := fr_core (w1 := X' ++ []) (ord_P (ord := isR) hP) (ord_D hnd.2.1 hD) hap hk hF (by rw [C.2.1]; exact hP1) hD1
  have hperm : ((pk X isR ++ P) ++ (X' ++ [])).Perm ((pk X isR ++ X') ++ P) := by
    rw [List.append_nil, List.append_assoc, List.append_assoc]
    exact List.Perm.append_left _ List.perm_append_comm
  exact kk v X' hE H1 l1 ls hl (P_perm hperm a1) (D_perm hperm a2) hS1
theorem g_callIP (C : zC κ l g R cc nL own name ret E) {Xc : va_W} (hM : MP l g y yc yL none rm (.ref b :: As) Xc P Ec) (isC isR : List Nat) (hXc : pk X isC = Xc) (hnd : va_nd isC = true ∧ va_nd isR = true ∧ ∀ i ∈ isR, i ∉ isC)  (ho : mok y yc yL none As.length) (hv : Cond.instanceMethod y ∈ big) (hi : y.name = "<init>") (hw : Cond.methodLink own index y ∈ big) (hR : rm.frames + 1 ≤ R.frames ∧ 8 + (yL + 11) + rm.locals ≤ R.locals) (hst : st = As.reverse ++ .ref b :: rest) (hrest : (rest.map fun v => v.category).sum ≤ 8) (hc : cs + rm.cells ≤ R.cells ∧ ss + rm.slots ≤ R.slots) (hd : dz cc pc (.invokespecial index) 3 q)
    (kk : ∀ (v : Option Value) (X' : va_W) (P' : va_W), Ec v X' P' → G κ nL (cs + rm.cells) (ss + rm.slots) q lv (v.toList ++ rest) (pk X isR ++ X') P') : G κ nL cs ss pc lv st X P := by
  intro H locs ls hl hP hD hS
  subst hXc
  have hsub : ∀ x ∈ pk X isC ++ P, x ∈ X ++ P := fun x hx => (List.mem_append.mp hx).elim (fun z => List.mem_append_left _ (pk_in' z)) (fun z => List.mem_append_right _ z)
  have hF := free_of hD hS C.A hsub
  have hPc : va_P κ.2.2.1.1.1 vwCl (pk X isC ++ P) H := P_iff.mpr (fun x hx => P_iff.mp hP x (hsub x hx))
  have hDc : va_D κ.2.2.1.2 (pk X isC ++ P) := ord_D hnd.1 hD
  have hr := run_I C hM ho hv hi hw hR hPc hDc hS hF hl hst hrest hc hd
  refine run_tail hr hS hF (fun v X' P' H1 l1 hE hP1 hD1 hk hS1 => ?_)
  have hq := hd.2
  subst hq
  have hap : ∀ x ∈ pk X isR, ∀ y ∈ pk X isC ++ P, x.1 ≠ y.1 := fun x hx y hy => (List.mem_append.mp hy).elim (fun z => pk_apart (D_left hD) hnd.2.2 x hx y z) (fun z => D_apart hD x (pk_in' hx) y z)
  obtain ⟨a1, a2⟩ := fr_core (w1 := X' ++ P') (P_left (ord_P (ord := isR) hP)) (pk_D (D_left hD) isR hnd.2.1) hap hk hF (by rw [C.2.1]; exact hP1) hD1
  rw [← List.append_assoc] at a1 a2
  exact kk v X' P' hE H1 l1 ls hl a1 a2 hS1
theorem g_callI0 (C : zC κ l g R cc nL own name ret E) {v : Option Value} {Xc X1 Xn : va_W} (hM : M0 l g y yc yL none rm (.ref b :: As) Xc v X1) (isC isR ord : List Nat) (hXc : pk X isC = Xc) (hnd : va_nd isC = true ∧ va_nd isR = true ∧ ∀ i ∈ isR, i ∉ isC) (hno : va_nd ord = true) (hXn : pk (pk X isR ++ X1) ord = Xn) (ho : mok y yc yL none As.length) (hv : Cond.instanceMethod y ∈ big) (hi : y.name = "<init>") (hw : Cond.methodLink own index y ∈ big) (hR : rm.frames + 1 ≤ R.frames ∧ 8 + (yL + 11) + rm.locals ≤ R.locals) (hst : st = As.reverse ++ .ref b :: rest) (hrest : (rest.map fun v => v.category).sum ≤ 8) (hc : cs + rm.cells ≤ R.cells ∧ ss + rm.slots ≤ R.slots) (hd : dz cc pc (.invokespecial index) 3 q)
    (kk : G κ nL (cs + rm.cells) (ss + rm.slots) q lv (v.toList ++ rest) Xn P) : G κ nL cs ss pc lv st X P := by
  refine g_callIE C hM isC isR hXc hnd (fun _ _ _ h => h.2.2) ho hv hi hw hR hst hrest hc hd (fun v2 X2 h => ?_)
  obtain ⟨rfl, rfl, -⟩ := h
  exact g_ord ord hno hXn kk
theorem g_callINE (C : zC κ l g R cc nL own name ret E) {Xc : va_W} (hM : MP l g y yc yL none rm (.ref b :: As) Xc [] Ec) (isC isR : List Nat) (hXc : pk X isC = Xc) (hnd : va_nd isC = true ∧ va_nd isR = true ∧ ∀ i ∈ isR, i ∉ isC) (hPn : ∀ v X' P', Ec v X' P' → P' = []) (ho : mok y yc yL none As.length) (hv : Cond.instanceMethod y ∈ big) (hi : y.name = "<init>") (hw : Cond.methodLinkNest own index y "TombLane" ∈ nn) (hR : rm.frames + 1 ≤ R.frames ∧ 8 + (yL + 11) + rm.locals ≤ R.locals) (hst : st = As.reverse ++ .ref b :: rest) (hrest : (rest.map fun v => v.category).sum ≤ 8) (hc : cs + rm.cells ≤ R.cells ∧ ss + rm.slots ≤ R.slots) (hd : dz cc pc (.invokespecial index) 3 q)
    (kk : ∀ (v : Option Value) (X' : va_W), Ec v X' [] → G κ nL (cs + rm.cells) (ss + rm.slots) q lv (v.toList ++ rest) (pk X isR ++ X') P) : G κ nL cs ss pc lv st X P := by
  intro H locs ls hl hP hD hS
  subst hXc
  have hsub : ∀ x ∈ pk X isC ++ [], x ∈ X ++ P := fun x hx => (List.mem_append.mp hx).elim (fun z => List.mem_append_left _ (pk_in' z)) (fun z => absurd z List.not_mem_nil)
  have hF := free_of hD hS C.A hsub
  have hPc : va_P κ.2.2.1.1.1 vwCl (pk X isC ++ []) H := P_iff.mpr (fun x hx => P_iff.mp hP x (hsub x hx))
  have hDc : va_D κ.2.2.1.2 (pk X isC ++ []) := by rw [List.append_nil]; exact pk_D (D_left hD) isC hnd.1
  have hr := run_IN C hM ho hv hi hw hR hPc hDc hS hF hl hst hrest hc hd
  refine run_tail hr hS hF (fun v X' P' H1 l1 hE hP1 hD1 hk hS1 => ?_)
  have hq := hd.2
  subst hq
  have hn0 := hPn v X' P' hE
  subst hn0
  have hap : ∀ x ∈ pk X isR ++ P, ∀ y ∈ pk X isC ++ [], x.1 ≠ y.1 := fun x hx y hy => (List.mem_append.mp hy).elim (fun z => (List.mem_append.mp hx).elim (fun z2 => pk_apart (D_left hD) hnd.2.2 x z2 y z) (fun z2 => (D_apart hD y (pk_in' z) x z2).symm)) (fun z => absurd z List.not_mem_nil)
  obtain ⟨a1, a2⟩ := fr_core (w1 := X' ++ []) (ord_P (ord := isR) hP) (ord_D hnd.2.1 hD) hap hk hF (by rw [C.2.1]; exact hP1) hD1
  have hperm : ((pk X isR ++ P) ++ (X' ++ [])).Perm ((pk X isR ++ X') ++ P) := by
    rw [List.append_nil, List.append_assoc, List.append_assoc]
    exact List.Perm.append_left _ List.perm_append_comm
  exact kk v X' hE H1 l1 ls hl (P_perm hperm a1) (D_perm hperm a2) hS1
theorem g_callINP (C : zC κ l g R cc nL own name ret E) {Xc : va_W} (hM : MP l g y yc yL none rm (.ref b :: As) Xc P Ec) (isC isR : List Nat) (hXc : pk X isC = Xc) (hnd : va_nd isC = true ∧ va_nd isR = true ∧ ∀ i ∈ isR, i ∉ isC)  (ho : mok y yc yL none As.length) (hv : Cond.instanceMethod y ∈ big) (hi : y.name = "<init>") (hw : Cond.methodLinkNest own index y "TombLane" ∈ nn) (hR : rm.frames + 1 ≤ R.frames ∧ 8 + (yL + 11) + rm.locals ≤ R.locals) (hst : st = As.reverse ++ .ref b :: rest) (hrest : (rest.map fun v => v.category).sum ≤ 8) (hc : cs + rm.cells ≤ R.cells ∧ ss + rm.slots ≤ R.slots) (hd : dz cc pc (.invokespecial index) 3 q)
    (kk : ∀ (v : Option Value) (X' : va_W) (P' : va_W), Ec v X' P' → G κ nL (cs + rm.cells) (ss + rm.slots) q lv (v.toList ++ rest) (pk X isR ++ X') P') : G κ nL cs ss pc lv st X P := by
  intro H locs ls hl hP hD hS
  subst hXc
  have hsub : ∀ x ∈ pk X isC ++ P, x ∈ X ++ P := fun x hx => (List.mem_append.mp hx).elim (fun z => List.mem_append_left _ (pk_in' z)) (fun z => List.mem_append_right _ z)
  have hF := free_of hD hS C.A hsub
  have hPc : va_P κ.2.2.1.1.1 vwCl (pk X isC ++ P) H := P_iff.mpr (fun x hx => P_iff.mp hP x (hsub x hx))
  have hDc : va_D κ.2.2.1.2 (pk X isC ++ P) := ord_D hnd.1 hD
  have hr := run_IN C hM ho hv hi hw hR hPc hDc hS hF hl hst hrest hc hd
  refine run_tail hr hS hF (fun v X' P' H1 l1 hE hP1 hD1 hk hS1 => ?_)
  have hq := hd.2
  subst hq
  have hap : ∀ x ∈ pk X isR, ∀ y ∈ pk X isC ++ P, x.1 ≠ y.1 := fun x hx y hy => (List.mem_append.mp hy).elim (fun z => pk_apart (D_left hD) hnd.2.2 x hx y z) (fun z => D_apart hD x (pk_in' hx) y z)
  obtain ⟨a1, a2⟩ := fr_core (w1 := X' ++ P') (P_left (ord_P (ord := isR) hP)) (pk_D (D_left hD) isR hnd.2.1) hap hk hF (by rw [C.2.1]; exact hP1) hD1
  rw [← List.append_assoc] at a1 a2
  exact kk v X' P' hE H1 l1 ls hl a1 a2 hS1
theorem g_callIN0 (C : zC κ l g R cc nL own name ret E) {v : Option Value} {Xc X1 Xn : va_W} (hM : M0 l g y yc yL none rm (.ref b :: As) Xc v X1) (isC isR ord : List Nat) (hXc : pk X isC = Xc) (hnd : va_nd isC = true ∧ va_nd isR = true ∧ ∀ i ∈ isR, i ∉ isC) (hno : va_nd ord = true) (hXn : pk (pk X isR ++ X1) ord = Xn) (ho : mok y yc yL none As.length) (hv : Cond.instanceMethod y ∈ big) (hi : y.name = "<init>") (hw : Cond.methodLinkNest own index y "TombLane" ∈ nn) (hR : rm.frames + 1 ≤ R.frames ∧ 8 + (yL + 11) + rm.locals ≤ R.locals) (hst : st = As.reverse ++ .ref b :: rest) (hrest : (rest.map fun v => v.category).sum ≤ 8) (hc : cs + rm.cells ≤ R.cells ∧ ss + rm.slots ≤ R.slots) (hd : dz cc pc (.invokespecial index) 3 q)
    (kk : G κ nL (cs + rm.cells) (ss + rm.slots) q lv (v.toList ++ rest) Xn P) : G κ nL cs ss pc lv st X P := by
  refine g_callINE C hM isC isR hXc hnd (fun _ _ _ h => h.2.2) ho hv hi hw hR hst hrest hc hd (fun v2 X2 h => ?_)
  obtain ⟨rfl, rfl, -⟩ := h
  exact g_ord ord hno hXn kk
end GD
