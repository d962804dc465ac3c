section GSF
variable {κ : Kx} {l : Launch} {g : Gx} {R : Room} {cc : ByteArray} {nL : Nat} {own name : String} {ret : Option FieldType} {E : Ex} {cs ss pc q : Nat} {lv : List (Nat × Value)} {st : List Value} {X P : va_W}
theorem g_getS (C : zC κ l g R cc nL own name ret E) {a ci N index : Nat} {fs : List Value} {Cn ref : String} {T : u_T} {v : Value} (i : Nat) (he : X[i]? = some (a, .inr (ci, fs))) (hc : vwCl[ci]? = some (Cn, T, N)) (hin : ∀ w ∈ u_ws Cn T N, w ∈ big) (f : Nat) (hf : f < N) (hw : Cond.fieldLink own index ref (T f).2.1 (T f).2.2.1 ∈ big) (hs : Cond.sameField ref (T f).1 (T f).2.1 (T f).2.2.1 ∈ big) (hv : fs[f]? = some v) (hd : dz cc pc (.getfield index) 3 q) (k : G κ nL cs ss q lv (v :: st) X P) : G κ nL cs ss pc lv (.ref a :: st) X P := by
  obtain ⟨hd, rfl⟩ := hd
  intro H locs ls hl hP hD hS
  exact va_get C.2.2.2.1 C.2.2.2.2.1 C.2.2.2.2.2.2.2.1 hin C.2.2.2.2.2.2.1 C.K hP i (by rw [List.getElem?_append_left (List.getElem?_eq_some_iff.mp he).1]; exact he) hc f hf (C.w hw) (fun x h => u_same (C.w hs) x h) hv hd (k H locs ls hl hP hD hS)
theorem g_putS (C : zC κ l g R cc nL own name ret E) {a ci N index : Nat} {fs : List Value} {Cn ref : String} {T : u_T} {v : Value} {X1 : va_W} {ty0 : Nat → FieldType} (i : Nat) (he : X[i]? = some (a, .inr (ci, fs))) (hc : vwCl[ci]? = some (Cn, T, N)) (hin : ∀ w ∈ u_ws Cn T N, w ∈ big) (f : Nat) (hf : f < N) (hty : ∀ k, k < N → parseFieldDescriptor (T k).2.2.1 = some (ty0 k)) (hnm : ∀ a, a < N → ∀ b, b < N → a ≠ b → (T a).2.1 ≠ (T b).2.1) (hw : Cond.fieldLink own index ref (T f).2.1 (T f).2.2.1 ∈ big) (hs : Cond.sameField ref (T f).1 (T f).2.1 (T f).2.2.1 ∈ big) (hfin : (T f).2.2.2 = false) (hn : narrow (ty0 f) v = v) (hfit : fits (ty0 f) v = true) (hlf : f < fs.length) (hX : X.set i (a, .inr (ci, fs.set f v)) = X1) (hd : dz cc pc (.putfield index) 3 q) (k : G κ nL cs ss q lv st X1 P) : G κ nL cs ss pc lv (v :: .ref a :: st) X P := by
  obtain ⟨hd, rfl⟩ := hd
  intro H locs ls hl hP hD hS
  refine va_put C.2.2.2.1 C.2.2.2.2.1 C.2.2.2.2.2.2.2.1 hin ty0 hty hnm C.2.2.2.2.2.2.1 C.K hP hD hS i (by rw [List.getElem?_append_left (List.getElem?_eq_some_iff.mp he).1]; exact he) hc f hf (C.w hw) (fun x h => u_same (C.w hs) x h) hfin (hty f hf) hn hfit hlf hd (fun H1 l1 hP1 hD1 hS1 => ?_)
  rw [List.set_append_left _ _ (List.getElem?_eq_some_iff.mp he).1, hX] at hP1 hD1
  exact k H1 l1 ls hl hP1 hD1 hS1
end GSF

set_option maxHeartbeats 4000000 in
set_option maxRecDepth 100000 in
theorem c_Pr_checkIndex (l : Launch) (g : Gx) (i n : Nat) (hi : i < n) (hn : n ≤ 1000) : M0 l g y_Pr_checkIndex b_Pr_checkIndex 3 (some FieldType.int) ({ frames := 1, cells := 0, slots := 0, locals := 20 }) [.int (nI i), .int (nI n), .null] [] (some (.int (nI i))) [] := by
  refine MP.of (by decide) (Nat.le_of_ble_eq_true rfl) (fun κ C => ?_)
  have C : zC κ l g ({ frames := 1, cells := 0, slots := 0, locals := 20 }) b_Pr_checkIndex 3 "jdk/internal/util/Preconditions" "checkIndex" (some FieldType.int) _ := C
  refine g_lv (lv1 := [(0, .int (nI i)), (1, .int (nI n)), (2, .null)]) [0, 1, 2] rfl ?_
  refine g_iload_n C 0 rfl d_Pr_checkIndex_0 ?_
  refine g_if_lt C d_Pr_checkIndex_1 (fun c_1 => absurd c_1 (nI_pos (by omega))) (fun _ => ?_)
  refine g_iload_n C 0 rfl d_Pr_checkIndex_4 ?_
  refine g_iload_n C 1 rfl d_Pr_checkIndex_5 ?_
  refine g_icmp_lt C d_Pr_checkIndex_6 (fun _ => ?_) (fun c_2 => absurd (nI_lt hi (by omega)) c_2)
  refine g_iload_n C 0 rfl d_Pr_checkIndex_16 ?_
  exact g_iret C rfl ⟨rfl, rfl, rfl⟩ (by decide) (by decide) d_Pr_checkIndex_17

set_option maxHeartbeats 4000000 in
set_option maxRecDepth 100000 in
theorem c_Ob_checkIndex (l : Launch) (g : Gx) (i n : Nat) (hi : i < n) (hn : n ≤ 1000) : M0 l g y_Ob_checkIndex b_Ob_checkIndex 2 (some FieldType.int) ({ frames := 2, cells := 0, slots := 0, locals := 42 }) [.int (nI i), .int (nI n)] [] (some (.int (nI i))) [] := by
  refine MP.of (by decide) (Nat.le_of_ble_eq_true rfl) (fun κ C => ?_)
  have C : zC κ l g ({ frames := 2, cells := 0, slots := 0, locals := 42 }) b_Ob_checkIndex 2 "java/util/Objects" "checkIndex" (some FieldType.int) _ := C
  refine g_lv (lv1 := [(0, .int (nI i)), (1, .int (nI n))]) [0, 1] rfl ?_
  refine g_iload_n C 0 rfl d_Ob_checkIndex_0 ?_
  refine g_iload_n C 1 rfl d_Ob_checkIndex_1 ?_
  refine g_null C d_Ob_checkIndex_2 ?_
  refine g_callS0 (rest := []) (Xn := []) C (c_Pr_checkIndex l g i n (by first | assumption | omega | exact nI_pos (by omega)) (by first | assumption | omega | exact nI_pos (by omega))) [] [] [] rfl (by decide) (by decide) rfl mo_Pr_checkIndex ms_Pr_checkIndex kw_684 (by decide) rfl (Nat.le_of_ble_eq_true rfl) ⟨Nat.le_of_ble_eq_true rfl, Nat.le_of_ble_eq_true rfl⟩ d_Ob_checkIndex_3 ?_
  exact g_iret C rfl ⟨rfl, rfl, rfl⟩ (by decide) (by decide) d_Ob_checkIndex_6

set_option maxHeartbeats 4000000 in
set_option maxRecDepth 100000 in
theorem c_AL_size (l : Launch) (g : Gx) (q0 q1 : Nat) (mc n : Int32) : M0 l g y_AL_size b_AL_size 1 (some FieldType.int) ({ frames := 0, cells := 0, slots := 0, locals := 0 }) [.ref q0] [(q0, .inr (0, [.int mc, .ref q1, .int n]))] (some (.int n)) [(q0, .inr (0, [.int mc, .ref q1, .int n]))] := by
  refine MP.of (by decide) (Nat.le_of_ble_eq_true rfl) (fun κ C => ?_)
  have C : zC κ l g ({ frames := 0, cells := 0, slots := 0, locals := 0 }) b_AL_size 1 "java/util/ArrayList" "size" (some FieldType.int) _ := C
  refine g_lv (lv1 := [(0, .ref q0)]) [0] rfl ?_
  refine g_aload_n C 0 rfl d_AL_size_0 ?_
  refine g_get C 0 rfl rfl in_AL 2 (by decide) kw_257 rfl d_AL_size_1 ?_
  exact g_iret C rfl ⟨rfl, rfl, rfl⟩ (by decide) (by decide) d_AL_size_4

set_option maxHeartbeats 4000000 in
set_option maxRecDepth 100000 in
theorem c_AL_elementData (l : Launch) (g : Gx) (q0 q1 n cp i x : Nat) (mc : Int32) (af : Nat → Option Nat) (P : va_W) (hi : i < n) (hn : n ≤ cp) (hc : cp ≤ 1000) (hx : af i = some x) : MP l g y_AL_elementData b_AL_elementData 2 (some (FieldType.object "java/lang/Object")) ({ frames := 0, cells := 0, slots := 0, locals := 0 }) [.ref q0, .int (nI i)] [(q0, .inr (0, [.int mc, .ref q1, .int (nI n)])), (q1, .inl (g.2.1 4, cp, .inr (.inr (.inr (.inr af)))))] P (fun v2 X2 P2 => v2 = some (.ref x) ∧ X2 = [(q0, .inr (0, [.int mc, .ref q1, .int (nI n)])), (q1, .inl (g.2.1 4, cp, .inr (.inr (.inr (.inr af)))))] ∧ P2 = P) := by
  refine MP.of (by decide) (Nat.le_of_ble_eq_true rfl) (fun κ C => ?_)
  have C : zC κ l g ({ frames := 0, cells := 0, slots := 0, locals := 0 }) b_AL_elementData 2 "java/util/ArrayList" "elementData" (some (FieldType.object "java/lang/Object")) _ := C
  refine g_lv (lv1 := [(0, .ref q0), (1, .int (nI i))]) [0, 1] rfl ?_
  refine g_aload_n C 0 rfl d_AL_elementData_0 ?_
  refine g_get C 0 rfl rfl in_AL 1 (by decide) kw_256 rfl d_AL_elementData_1 ?_
  refine g_iload_n C 1 rfl d_AL_elementData_4 ?_
  refine g_qald C 1 rfl (vp_in_nI (by omega) (by omega)) (by rw [nI_clamp (by omega)]; exact hx) d_AL_elementData_5 ?_
  exact g_aret C (Or.inl ⟨_, rfl⟩) rfl ⟨rfl, rfl, rfl⟩ (by first | decide | (dsimp only; omega)) (by first | decide | (dsimp only; omega)) d_AL_elementData_6

set_option maxHeartbeats 4000000 in
set_option maxRecDepth 100000 in
theorem c_AL_get (l : Launch) (g : Gx) (q0 q1 n cp i x : Nat) (mc : Int32) (af : Nat → Option Nat) (P : va_W) (hi : i < n) (hn : n ≤ cp) (hc : cp ≤ 1000) (hx : af i = some x) : MP l g y_AL_get b_AL_get 2 (some (FieldType.object "java/lang/Object")) ({ frames := 3, cells := 0, slots := 0, locals := 63 }) [.ref q0, .int (nI i)] [(q0, .inr (0, [.int mc, .ref q1, .int (nI n)])), (q1, .inl (g.2.1 4, cp, .inr (.inr (.inr (.inr af)))))] P (fun v2 X2 P2 => v2 = some (.ref x) ∧ X2 = [(q0, .inr (0, [.int mc, .ref q1, .int (nI n)])), (q1, .inl (g.2.1 4, cp, .inr (.inr (.inr (.inr af)))))] ∧ P2 = P) := by
  refine MP.of (by decide) (Nat.le_of_ble_eq_true rfl) (fun κ C => ?_)
  have C : zC κ l g ({ frames := 3, cells := 0, slots := 0, locals := 63 }) b_AL_get 2 "java/util/ArrayList" "get" (some (FieldType.object "java/lang/Object")) _ := C
  refine g_lv (lv1 := [(0, .ref q0), (1, .int (nI i))]) [0, 1] rfl ?_
  refine g_iload_n C 1 rfl d_AL_get_0 ?_
  refine g_aload_n C 0 rfl d_AL_get_1 ?_
  refine g_get C 0 rfl rfl in_AL 2 (by decide) kw_257 rfl d_AL_get_2 ?_
  refine g_callS0 (rest := []) (Xn := [(q0, .inr (0, [.int mc, .ref q1, .int (nI n)])), (q1, .inl (g.2.1 4, cp, .inr (.inr (.inr (.inr af)))))]) C (c_Ob_checkIndex l g i n (by first | assumption | omega | exact nI_pos (by omega)) (by first | assumption | omega | exact nI_pos (by omega))) [] [0, 1] [0, 1] rfl (by decide) (by decide) rfl mo_Ob_checkIndex ms_Ob_checkIndex kw_681 (by decide) rfl (Nat.le_of_ble_eq_true rfl) ⟨Nat.le_of_ble_eq_true rfl, Nat.le_of_ble_eq_true rfl⟩ d_AL_get_5 ?_
  refine g_pop C rfl d_AL_get_8 ?_
  refine g_aload_n C 0 rfl d_AL_get_9 ?_
  refine g_iload_n C 1 rfl d_AL_get_10 ?_
  refine g_callVP (rest := []) C (c_AL_elementData l g q0 q1 n cp i x mc af P (by first | assumption | omega | exact nI_pos (by omega)) (by first | assumption | omega | exact nI_pos (by omega)) (by first | assumption | omega | exact nI_pos (by omega)) (by first | assumption | omega | exact nI_pos (by omega))) [0, 1] [] rfl (by decide) mo_AL_elementData mv_AL_elementData kw_687 (by decide) (rcX 0 rfl rfl) rfl (Nat.le_of_ble_eq_true rfl) ⟨Nat.le_of_ble_eq_true rfl, Nat.le_of_ble_eq_true rfl⟩ d_AL_get_11 (fun v2 X2 P2 q => ?_)
  obtain ⟨rfl, rfl, rfl⟩ := q
  refine g_ord (X1 := [(q0, .inr (0, [.int mc, .ref q1, .int (nI n)])), (q1, .inl (g.2.1 4, cp, .inr (.inr (.inr (.inr af)))))]) [0, 1] (by decide) rfl ?_
  exact g_aret C (Or.inl ⟨_, rfl⟩) rfl ⟨rfl, rfl, rfl⟩ (by first | decide | (dsimp only; omega)) (by first | decide | (dsimp only; omega)) d_AL_get_14

theorem mx_nI {a b : Nat} (ha : a < 2 ^ 31) (hb : b < 2 ^ 31) : (if nI a < nI b then nI b else nI a) = nI (max a b) := by
  by_cases h : a < b
  · rw [if_pos (nI_lt h hb), Nat.max_eq_right (by omega)]
  · rw [if_neg (nI_nlt (by omega) ha), Nat.max_eq_left (by omega)]
theorem shr1 {n : Nat} (h : n < 2 ^ 31) : nI n >>> ((1 : Int32) &&& 31) = nI (n / 2) := by
  have k := pk_shrN (n := n) h ((1 : Int32) &&& 31) 1 (by decide)
  rw [Nat.pow_one] at k
  exact k
theorem elk_app {X P : va_W} {f : Nat → Option Nat} {n : Nat} (h : elk P f n) : elk (X ++ P) f n := by
  intro i hi y hy
  obtain ⟨ci, fs, Cn, T, N, h1, h2⟩ := h i hi y hy
  exact ⟨ci, fs, Cn, T, N, List.mem_append_right _ h1, h2⟩
set_option maxHeartbeats 4000000 in
set_option maxRecDepth 100000 in
theorem c_AbC_init (l : Launch) (g : Gx) (q0 : Nat) : M0 l g y_AbC_init b_AbC_init 1 (none : Option FieldType) ({ frames := 1, cells := 0, slots := 0, locals := 20 }) [.ref q0] [(q0, .inr (0, [.int 0, .null, .int 0]))] none [(q0, .inr (0, [.int 0, .null, .int 0]))] := by
  refine MP.of (by decide) (Nat.le_of_ble_eq_true rfl) (fun κ C => ?_)
  have C : zC κ l g ({ frames := 1, cells := 0, slots := 0, locals := 20 }) b_AbC_init 1 "java/util/AbstractCollection" "<init>" (none : Option FieldType) _ := C
  refine g_lv (lv1 := [(0, .ref q0)]) [0] rfl ?_
  refine g_aload_n C 0 rfl d_AbC_init_0 ?_
  refine g_objInit C kw_253 kw_105 kw_106 (by decide) (Nat.le_of_ble_eq_true rfl) d_AbC_init_1 ?_
  exact g_vret C rfl ⟨rfl, rfl, rfl⟩ (by decide) (by decide) d_AbC_init_4

set_option maxHeartbeats 4000000 in
set_option maxRecDepth 100000 in
theorem c_AbL_init (l : Launch) (g : Gx) (q0 : Nat) : M0 l g y_AbL_init b_AbL_init 1 (none : Option FieldType) ({ frames := 2, cells := 0, slots := 0, locals := 40 }) [.ref q0] [(q0, .inr (0, [.int 0, .null, .int 0]))] none [(q0, .inr (0, [.int 0, .null, .int 0]))] := by
  refine MP.of (by decide) (Nat.le_of_ble_eq_true rfl) (fun κ C => ?_)
  have C : zC κ l g ({ frames := 2, cells := 0, slots := 0, locals := 40 }) b_AbL_init 1 "java/util/AbstractList" "<init>" (none : Option FieldType) _ := C
  refine g_lv (lv1 := [(0, .ref q0)]) [0] rfl ?_
  refine g_aload_n C 0 rfl d_AbL_init_0 ?_
  refine g_callI0 (rest := []) (Xn := [(q0, .inr (0, [.int 0, .null, .int 0]))]) C (c_AbC_init l g q0) [0] [] [0] rfl (by decide) (by decide) rfl mo_AbC_init mi_AbC_init rfl kw_250 (by decide) rfl (Nat.le_of_ble_eq_true rfl) ⟨Nat.le_of_ble_eq_true rfl, Nat.le_of_ble_eq_true rfl⟩ d_AbL_init_1 ?_
  refine g_aload_n C 0 rfl d_AbL_init_4 ?_
  refine g_iconst (v := 0) C rfl d_AbL_init_5 ?_
  refine g_put (X1 := [(q0, .inr (0, [.int 0, .null, .int 0]))]) C 0 rfl rfl in_AL 0 (by decide) ok_AL nm_AL kw_258 rfl rfl rfl (Nat.le_of_ble_eq_true rfl) rfl d_AbL_init_6 ?_
  exact g_vret C rfl ⟨rfl, rfl, rfl⟩ (by decide) (by decide) d_AbL_init_9

set_option maxHeartbeats 4000000 in
set_option maxRecDepth 100000 in
theorem c_AL_init (l : Launch) (g : Gx) (q0 : Nat) : M0 l g y_AL_init b_AL_init 1 (none : Option FieldType) ({ frames := 3, cells := 0, slots := 0, locals := 60 }) [.ref q0] [(q0, .inr (0, [.int 0, .null, .int 0]))] none [(q0, .inr (0, [.int 0, .ref g.2.2.1, .int 0]))] := by
  refine MP.of (by decide) (Nat.le_of_ble_eq_true rfl) (fun κ C => ?_)
  have C : zC κ l g ({ frames := 3, cells := 0, slots := 0, locals := 60 }) b_AL_init 1 "java/util/ArrayList" "<init>" (none : Option FieldType) _ := C
  refine g_lv (lv1 := [(0, .ref q0)]) [0] rfl ?_
  refine g_aload_n C 0 rfl d_AL_init_0 ?_
  refine g_callI0 (rest := []) (Xn := [(q0, .inr (0, [.int 0, .null, .int 0]))]) C (c_AbL_init l g q0) [0] [] [0] rfl (by decide) (by decide) rfl mo_AbL_init mi_AbL_init rfl kw_247 (by decide) rfl (Nat.le_of_ble_eq_true rfl) ⟨Nat.le_of_ble_eq_true rfl, Nat.le_of_ble_eq_true rfl⟩ d_AL_init_1 ?_
  refine g_aload_n C 0 rfl d_AL_init_4 ?_
  refine g_gets C kw_254 d_AL_init_5 ?_
  refine g_put (X1 := [(q0, .inr (0, [.int 0, .ref g.2.2.1, .int 0]))]) C 0 rfl rfl in_AL 1 (by decide) ok_AL nm_AL kw_256 rfl rfl rfl (Nat.le_of_ble_eq_true rfl) rfl d_AL_init_8 ?_
  exact g_vret C rfl ⟨rfl, rfl, rfl⟩ (by decide) (by decide) d_AL_init_11

set_option maxHeartbeats 4000000 in
set_option maxRecDepth 100000 in
theorem c_Su_newLength (l : Launch) (g : Gx) (n a b : Nat) (hn : n ≤ 1000) (ha : 0 < a) (ha2 : a ≤ 1000) (hb : b ≤ 1000) : M0 l g y_Su_newLength b_Su_newLength 4 (some FieldType.int) ({ frames := 1, cells := 0, slots := 0, locals := 21 }) [.int (nI n), .int (nI a), .int (nI b)] [] (some (.int (nI (n + max a b)))) [] := by
  refine MP.of (by decide) (Nat.le_of_ble_eq_true rfl) (fun κ C => ?_)
  have C : zC κ l g ({ frames := 1, cells := 0, slots := 0, locals := 21 }) b_Su_newLength 4 "jdk/internal/util/ArraysSupport" "newLength" (some FieldType.int) _ := C
  refine g_lv (lv1 := [(0, .int (nI n)), (1, .int (nI a)), (2, .int (nI b))]) [0, 1, 2] rfl ?_
  refine g_iload_n C 0 rfl d_Su_newLength_0 ?_
  refine g_iload_n C 1 rfl d_Su_newLength_1 ?_
  refine g_iload_n C 2 rfl d_Su_newLength_2 ?_
  refine g_mmax C kw_582 kw_583 kw_94 kw_584 (by decide) (Nat.le_of_ble_eq_true rfl) (by first | decide | (dsimp only; omega)) (by first | decide | (dsimp only; omega)) d_Su_newLength_3 ?_
  refine g_eq (st1 := [.int (nI (max a b)), .int (nI n)]) (congrArg (fun z => Value.int z :: [.int (nI n)]) (mx_nI (by omega) (by omega))) rfl ?_
  refine g_iadd C d_Su_newLength_6 ?_
  refine g_eq (st1 := [.int (nI (n + (max a b)))]) (congrArg (fun z => Value.int z :: []) (nI_add n (max a b))) rfl ?_
  refine g_istore_n (lv1 := [(0, .int (nI n)), (1, .int (nI a)), (2, .int (nI b)), (3, .int (nI (n + (max a b))))]) C d_Su_newLength_7 [1, 2, 3, 0] (by decide) rfl ?_
  refine g_iconst (v := 0) C rfl d_Su_newLength_8 ?_
  refine g_iload_n C 3 rfl d_Su_newLength_9 ?_
  refine g_icmp_ge C d_Su_newLength_10 (fun c_1 => absurd c_1 (nI_nle (by omega) (by omega))) (fun _ => ?_)
  refine g_iload_n C 3 rfl d_Su_newLength_13 ?_
  refine g_ldc C kw_585 d_Su_newLength_14 ?_
  refine g_icmp_gt C d_Su_newLength_16 (fun c_2 => absurd c_2 (nI_nlt (a := 2147483639) (by omega) (by decide))) (fun _ => ?_)
  refine g_iload_n C 3 rfl d_Su_newLength_19 ?_
  exact g_iret C rfl ⟨congrArg (fun z => some (Value.int z)) (by simp), rfl, rfl⟩ (by decide) (by decide) d_Su_newLength_20

set_option maxHeartbeats 4000000 in
set_option maxRecDepth 100000 in
theorem c_As_copyOf3 (l : Launch) (g : Gx) (q1 n m : Nat) (f : Nat → Option Nat) (P : va_W) (hn : n ≤ m) (hm : m ≤ 60) (hel : elk P f n) : MP l g y_As_copyOf3 b_As_copyOf3 4 (some (FieldType.array (FieldType.object "java/lang/Object"))) ({ frames := 1, cells := 1, slots := 60, locals := 40 }) [.ref q1, .int (nI m), .ref g.2.2.2] [(q1, .inl (g.2.1 4, n, .inr (.inr (.inr (.inr f)))))] P (fun v2 X2 P2 => ∃ b : Nat, v2 = some (.ref b) ∧ X2 = [(q1, .inl (g.2.1 4, n, .inr (.inr (.inr (.inr f))))), (b, .inl (g.2.1 4, m, .inr (.inr (.inr (.inr (va_cpy f (fun _ => none) 0 0 n))))))] ∧ P2 = P) := by
  refine MP.of (by decide) (Nat.le_of_ble_eq_true rfl) (fun κ C => ?_)
  have C : zC κ l g ({ frames := 1, cells := 1, slots := 60, locals := 40 }) b_As_copyOf3 4 "java/util/Arrays" "copyOf" (some (FieldType.array (FieldType.object "java/lang/Object"))) _ := C
  refine g_lv (lv1 := [(0, .ref q1), (1, .int (nI m)), (2, .ref g.2.2.2)]) [0, 1, 2] rfl ?_
  refine g_aload_n C 2 rfl d_As_copyOf3_0 ?_
  refine g_ldcM C kw_613 d_As_copyOf3_1 ?_
  refine g_acmp_ne C d_As_copyOf3_3 (fun z => absurd rfl z) (fun _ => ?_)
  refine g_iload_n C 1 rfl d_As_copyOf3_6 ?_
  refine g_newq C m kw_615 (nI_pos (by omega)) (nI_clamp (by omega)) (by omega) (by decide) (by dsimp only; omega) d_As_copyOf3_7 (fun b hb => ?_)
  refine g_eq (X1 := [(q1, .inl (g.2.1 4, n, .inr (.inr (.inr (.inr f))))), (b, .inl (g.2.1 4, m, .inr (.inr (.inr (.inr (fun _ => none))))))]) rfl rfl ?_
  refine g_goto C d_As_copyOf3_10 ?_
  refine g_astore_n (lv1 := [(0, .ref q1), (1, .int (nI m)), (2, .ref g.2.2.2), (3, .ref b)]) C d_As_copyOf3_24 [1, 2, 3, 0] (by decide) rfl ?_
  refine g_aload_n C 0 rfl d_As_copyOf3_25 ?_
  refine g_iconst (v := 0) C rfl d_As_copyOf3_26 ?_
  refine g_aload_n C 3 rfl d_As_copyOf3_27 ?_
  refine g_iconst (v := 0) C rfl d_As_copyOf3_28 ?_
  refine g_aload_n C 0 rfl d_As_copyOf3_29 ?_
  refine g_qalen C 0 rfl d_As_copyOf3_30 ?_
  refine g_iload_n C 1 rfl d_As_copyOf3_31 ?_
  refine g_mmin C kw_616 kw_617 kw_94 kw_618 (by decide) (Nat.le_of_ble_eq_true rfl) (by first | decide | (dsimp only; omega)) (by first | decide | (dsimp only; omega)) d_As_copyOf3_32 ?_
  refine g_eq (st1 := [.int (nI n), .int 0, .ref b, .int 0, .ref q1]) (congrArg (fun z => Value.int z :: [.int 0, .ref b, .int 0, .ref q1]) (if_neg (nI_nlt hn (by omega)))) rfl ?_
  refine g_copy (X1 := [(q1, .inl (g.2.1 4, n, .inr (.inr (.inr (.inr f))))), (b, .inl (g.2.1 4, m, .inr (.inr (.inr (.inr (va_cpy f (fun _ => none) 0 0 n))))))]) C 0 1 n rfl rfl (nI_pos (by omega)) (nI_clamp (by omega)) (by omega) (by omega) (elk_app hel) kw_619 kw_621 kw_620 kw_96 rfl (by decide) (Nat.le_of_ble_eq_true rfl) d_As_copyOf3_35 ?_
  refine g_aload_n C 3 rfl d_As_copyOf3_38 ?_
  exact g_aret C (Or.inr ⟨_, rfl⟩) rfl ⟨b, rfl, rfl, rfl⟩ (by first | decide | (dsimp only; omega)) (by first | decide | (dsimp only; omega)) d_As_copyOf3_39

set_option maxHeartbeats 4000000 in
set_option maxRecDepth 100000 in
theorem c_As_copyOf (l : Launch) (g : Gx) (q1 n m : Nat) (f : Nat → Option Nat) (P : va_W) (hn : n ≤ m) (hm : m ≤ 60) (hel : elk P f n) : MP l g y_As_copyOf b_As_copyOf 2 (some (FieldType.array (FieldType.object "java/lang/Object"))) ({ frames := 2, cells := 1, slots := 60, locals := 63 }) [.ref q1, .int (nI m)] [(q1, .inl (g.2.1 4, n, .inr (.inr (.inr (.inr f)))))] P (fun v2 X2 P2 => ∃ b : Nat, v2 = some (.ref b) ∧ X2 = [(q1, .inl (g.2.1 4, n, .inr (.inr (.inr (.inr f))))), (b, .inl (g.2.1 4, m, .inr (.inr (.inr (.inr (va_cpy f (fun _ => none) 0 0 n))))))] ∧ P2 = P) := by
  refine MP.of (by decide) (Nat.le_of_ble_eq_true rfl) (fun κ C => ?_)
  have C : zC κ l g ({ frames := 2, cells := 1, slots := 60, locals := 63 }) b_As_copyOf 2 "java/util/Arrays" "copyOf" (some (FieldType.array (FieldType.object "java/lang/Object"))) _ := C
  refine g_lv (lv1 := [(0, .ref q1), (1, .int (nI m))]) [0, 1] rfl ?_
  refine g_aload_n C 0 rfl d_As_copyOf_0 ?_
  refine g_iload_n C 1 rfl d_As_copyOf_1 ?_
  refine g_aload_n C 0 rfl d_As_copyOf_2 ?_
  refine g_getC C 0 rfl kw_592 kw_1216 kw_1215 kw_593 kw_609 (by decide) (Nat.le_of_ble_eq_true rfl) d_As_copyOf_3 ?_
  refine g_callSP (rest := []) C (c_As_copyOf3 l g q1 n m f P (by first | assumption | omega | exact nI_pos (by omega)) (by first | assumption | omega | exact nI_pos (by omega)) (by first | assumption | omega | exact nI_pos (by omega))) [0] [] rfl (by decide) mo_As_copyOf3 ms_As_copyOf3 kw_610 (by decide) rfl (Nat.le_of_ble_eq_true rfl) ⟨Nat.le_of_ble_eq_true rfl, Nat.le_of_ble_eq_true rfl⟩ d_As_copyOf_6 (fun v2 X2 P2 q => ?_)
  obtain ⟨b, rfl, rfl, rfl⟩ := q
  refine g_ord (X1 := [(q1, .inl (g.2.1 4, n, .inr (.inr (.inr (.inr f))))), (b, .inl (g.2.1 4, m, .inr (.inr (.inr (.inr (va_cpy f (fun _ => none) 0 0 n))))))]) [0, 1] (by decide) rfl ?_
  exact g_aret C (Or.inr ⟨_, rfl⟩) rfl ⟨b, rfl, rfl, rfl⟩ (by first | decide | (dsimp only; omega)) (by first | decide | (dsimp only; omega)) d_As_copyOf_9

set_option maxHeartbeats 4000000 in
set_option maxRecDepth 100000 in
theorem c_AL_grow1_n (l : Launch) (g : Gx) (q0 q1 n : Nat) (mc sz : Int32) (f : Nat → Option Nat) (P : va_W) (hn : 0 < n) (hn2 : n ≤ 40) (hel : elk P f n) : MP l g y_AL_grow1 b_AL_grow1 4 (some (FieldType.array (FieldType.object "java/lang/Object"))) ({ frames := 3, cells := 1, slots := 60, locals := 84 }) [.ref q0, .int (nI (n + 1))] [(q0, .inr (0, [.int mc, .ref q1, .int sz])), (q1, .inl (g.2.1 4, n, .inr (.inr (.inr (.inr f)))))] P (fun v2 X2 P2 => ∃ b : Nat, v2 = some (.ref b) ∧ X2 = [(q0, .inr (0, [.int mc, .ref b, .int sz])), (b, .inl (g.2.1 4, n + max 1 (n / 2), .inr (.inr (.inr (.inr (va_cpy f (fun _ => none) 0 0 n))))))] ∧ P2 = P) := by
  refine MP.of (by decide) (Nat.le_of_ble_eq_true rfl) (fun κ C => ?_)
  have C : zC κ l g ({ frames := 3, cells := 1, slots := 60, locals := 84 }) b_AL_grow1 4 "java/util/ArrayList" "grow" (some (FieldType.array (FieldType.object "java/lang/Object"))) _ := C
  refine g_lv (lv1 := [(0, .ref q0), (1, .int (nI (n + 1)))]) [0, 1] rfl ?_
  refine g_aload_n C 0 rfl d_AL_grow1_0 ?_
  refine g_get C 0 rfl rfl in_AL 1 (by decide) kw_256 rfl d_AL_grow1_1 ?_
  refine g_qalen C 1 rfl d_AL_grow1_4 ?_
  refine g_istore_n (lv1 := [(0, .ref q0), (1, .int (nI (n + 1))), (2, .int (nI n))]) C d_AL_grow1_5 [1, 2, 0] (by decide) rfl ?_
  refine g_iload_n C 2 rfl d_AL_grow1_6 ?_
  refine g_if_gt C d_AL_grow1_7 (fun _ => ?_) (fun c_1 => absurd (show nI 0 < nI n from nI_lt hn (by omega)) c_1)
  refine g_iload_n C 2 rfl d_AL_grow1_20 ?_
  refine g_iload_n C 1 rfl d_AL_grow1_21 ?_
  refine g_iload_n C 2 rfl d_AL_grow1_22 ?_
  refine g_isub C d_AL_grow1_23 ?_
  refine g_eq (st1 := [.int (nI 1), .int (nI n)]) (congrArg (fun z => Value.int z :: [.int (nI n)]) (by rw [pk_sub (by omega)]; congr 1; omega)) rfl ?_
  refine g_iload_n C 2 rfl d_AL_grow1_24 ?_
  refine g_iconst (v := 1) C rfl d_AL_grow1_25 ?_
  refine g_ishr C d_AL_grow1_26 ?_
  refine g_eq (st1 := [.int (nI (n / 2)), .int (nI 1), .int (nI n)]) (congrArg (fun z => Value.int z :: [.int (nI 1), .int (nI n)]) (shr1 (by omega))) rfl ?_
  refine g_callS0 (rest := []) (Xn := [(q0, .inr (0, [.int mc, .ref q1, .int sz])), (q1, .inl (g.2.1 4, n, .inr (.inr (.inr (.inr f)))))]) C (c_Su_newLength l g n 1 (n / 2) (by first | assumption | omega | exact nI_pos (by omega)) (by first | assumption | omega | exact nI_pos (by omega)) (by first | assumption | omega | exact nI_pos (by omega)) (by first | assumption | omega | exact nI_pos (by omega))) [] [0, 1] [0, 1] rfl (by decide) (by decide) rfl mo_Su_newLength ms_Su_newLength kw_579 (by decide) rfl (Nat.le_of_ble_eq_true rfl) ⟨Nat.le_of_ble_eq_true rfl, Nat.le_of_ble_eq_true rfl⟩ d_AL_grow1_27 ?_
  refine g_istore_n (lv1 := [(0, .ref q0), (1, .int (nI (n + 1))), (2, .int (nI n)), (3, .int (nI (n + max 1 (n / 2))))]) C d_AL_grow1_30 [1, 2, 3, 0] (by decide) rfl ?_
  refine g_aload_n C 0 rfl d_AL_grow1_31 ?_
  refine g_aload_n C 0 rfl d_AL_grow1_32 ?_
  refine g_get C 0 rfl rfl in_AL 1 (by decide) kw_256 rfl d_AL_grow1_33 ?_
  refine g_iload_n C 3 rfl d_AL_grow1_36 ?_
  refine g_callSP (rest := [.ref q0]) C (c_As_copyOf l g q1 n (n + max 1 (n / 2)) f P (by omega) (by omega) hel) [1] [0] rfl (by decide) mo_As_copyOf ms_As_copyOf kw_589 (by decide) rfl (Nat.le_of_ble_eq_true rfl) ⟨Nat.le_of_ble_eq_true rfl, Nat.le_of_ble_eq_true rfl⟩ d_AL_grow1_37 (fun v2 X2 P2 q => ?_)
  obtain ⟨b, rfl, rfl, rfl⟩ := q
  refine g_ord (X1 := [(q0, .inr (0, [.int mc, .ref q1, .int sz])), (q1, .inl (g.2.1 4, n, .inr (.inr (.inr (.inr f))))), (b, .inl (g.2.1 4, n + max 1 (n / 2), .inr (.inr (.inr (.inr (va_cpy f (fun _ => none) 0 0 n))))))]) [0, 1, 2] (by decide) rfl ?_
  refine g_dup_x1 C rfl rfl d_AL_grow1_40 ?_
  refine g_put (X1 := [(q0, .inr (0, [.int mc, .ref b, .int sz])), (q1, .inl (g.2.1 4, n, .inr (.inr (.inr (.inr f))))), (b, .inl (g.2.1 4, n + max 1 (n / 2), .inr (.inr (.inr (.inr (va_cpy f (fun _ => none) 0 0 n))))))]) C 0 rfl rfl in_AL 1 (by decide) ok_AL nm_AL kw_256 rfl rfl rfl (Nat.le_of_ble_eq_true rfl) rfl d_AL_grow1_41 ?_
  refine g_ord (X1 := [(q0, .inr (0, [.int mc, .ref b, .int sz])), (b, .inl (g.2.1 4, n + max 1 (n / 2), .inr (.inr (.inr (.inr (va_cpy f (fun _ => none) 0 0 n))))))]) [0, 2] (by decide) rfl ?_
  exact g_aret C (Or.inr ⟨_, rfl⟩) rfl ⟨b, rfl, rfl, rfl⟩ (by first | decide | (dsimp only; omega)) (by first | decide | (dsimp only; omega)) d_AL_grow1_44

set_option maxHeartbeats 4000000 in
set_option maxRecDepth 100000 in
theorem c_AL_grow1_e (l : Launch) (g : Gx) (q0 : Nat) (mc sz : Int32) (P : va_W) : MP l g y_AL_grow1 b_AL_grow1 4 (some (FieldType.array (FieldType.object "java/lang/Object"))) ({ frames := 3, cells := 1, slots := 60, locals := 84 }) [.ref q0, .int 1] [(q0, .inr (0, [.int mc, .ref g.2.2.1, .int sz]))] P (fun v2 X2 P2 => ∃ b : Nat, v2 = some (.ref b) ∧ X2 = [(q0, .inr (0, [.int mc, .ref b, .int sz])), (b, .inl (g.2.1 4, 10, .inr (.inr (.inr (.inr (fun _ => none))))))] ∧ P2 = P) := by
  refine MP.of (by decide) (Nat.le_of_ble_eq_true rfl) (fun κ C => ?_)
  have C : zC κ l g ({ frames := 3, cells := 1, slots := 60, locals := 84 }) b_AL_grow1 4 "java/util/ArrayList" "grow" (some (FieldType.array (FieldType.object "java/lang/Object"))) _ := C
  refine g_lv (lv1 := [(0, .ref q0), (1, .int 1)]) [0, 1] rfl ?_
  refine g_aload_n C 0 rfl d_AL_grow1_0 ?_
  refine g_get C 0 rfl rfl in_AL 1 (by decide) kw_256 rfl d_AL_grow1_1 ?_
  refine g_e0len C d_AL_grow1_4 ?_
  refine g_istore_n (lv1 := [(0, .ref q0), (1, .int 1), (2, .int 0)]) C d_AL_grow1_5 [1, 2, 0] (by decide) rfl ?_
  refine g_iload_n C 2 rfl d_AL_grow1_6 ?_
  refine g_if_gt C d_AL_grow1_7 (fun c_1 => absurd c_1 (by decide)) (fun _ => ?_)
  refine g_aload_n C 0 rfl d_AL_grow1_10 ?_
  refine g_get C 0 rfl rfl in_AL 1 (by decide) kw_256 rfl d_AL_grow1_11 ?_
  refine g_gets C kw_254 d_AL_grow1_14 ?_
  refine g_acmp_eq C d_AL_grow1_17 (fun _ => ?_) (fun z => absurd rfl z)
  refine g_aload_n C 0 rfl d_AL_grow1_45 ?_
  refine g_bipush (v := 10) C rfl d_AL_grow1_46 ?_
  refine g_iload_n C 1 rfl d_AL_grow1_48 ?_
  refine g_mmax C kw_622 kw_583 kw_94 kw_584 (by decide) (Nat.le_of_ble_eq_true rfl) (by first | decide | (dsimp only; omega)) (by first | decide | (dsimp only; omega)) d_AL_grow1_49 ?_
  refine g_eq (st1 := [.int (nI 10), .ref q0]) (congrArg (fun z => Value.int z :: [.ref q0]) (by decide)) rfl ?_
  refine g_newq C 10 kw_623 (nI_pos (by omega)) (nI_clamp (by omega)) (by omega) (by decide) (by decide) d_AL_grow1_52 (fun b hb => ?_)
  refine g_eq (X1 := [(q0, .inr (0, [.int mc, .ref g.2.2.1, .int sz])), (b, .inl (g.2.1 4, 10, .inr (.inr (.inr (.inr (fun _ => none))))))]) rfl rfl ?_
  refine g_dup_x1 C rfl rfl d_AL_grow1_55 ?_
  refine g_put (X1 := [(q0, .inr (0, [.int mc, .ref b, .int sz])), (b, .inl (g.2.1 4, 10, .inr (.inr (.inr (.inr (fun _ => none))))))]) C 0 rfl rfl in_AL 1 (by decide) ok_AL nm_AL kw_256 rfl rfl rfl (Nat.le_of_ble_eq_true rfl) rfl d_AL_grow1_56 ?_
  exact g_aret C (Or.inr ⟨_, rfl⟩) rfl ⟨b, rfl, rfl, rfl⟩ (by first | decide | (dsimp only; omega)) (by first | decide | (dsimp only; omega)) d_AL_grow1_59

set_option maxHeartbeats 4000000 in
set_option maxRecDepth 100000 in
theorem c_AL_grow0_n (l : Launch) (g : Gx) (q0 q1 n : Nat) (mc : Int32) (f : Nat → Option Nat) (P : va_W) (hn : 0 < n) (hn2 : n ≤ 40) (hel : elk P f n) : MP l g y_AL_grow0 b_AL_grow0 1 (some (FieldType.array (FieldType.object "java/lang/Object"))) ({ frames := 4, cells := 1, slots := 60, locals := 107 }) [.ref q0] [(q0, .inr (0, [.int mc, .ref q1, .int (nI n)])), (q1, .inl (g.2.1 4, n, .inr (.inr (.inr (.inr f)))))] P (fun v2 X2 P2 => ∃ b : Nat, v2 = some (.ref b) ∧ X2 = [(q0, .inr (0, [.int mc, .ref b, .int (nI n)])), (b, .inl (g.2.1 4, n + max 1 (n / 2), .inr (.inr (.inr (.inr (va_cpy f (fun _ => none) 0 0 n))))))] ∧ P2 = P) := by
  refine MP.of (by decide) (Nat.le_of_ble_eq_true rfl) (fun κ C => ?_)
  have C : zC κ l g ({ frames := 4, cells := 1, slots := 60, locals := 107 }) b_AL_grow0 1 "java/util/ArrayList" "grow" (some (FieldType.array (FieldType.object "java/lang/Object"))) _ := C
  refine g_lv (lv1 := [(0, .ref q0)]) [0] rfl ?_
  refine g_aload_n C 0 rfl d_AL_grow0_0 ?_
  refine g_aload_n C 0 rfl d_AL_grow0_1 ?_
  refine g_get C 0 rfl rfl in_AL 2 (by decide) kw_257 rfl d_AL_grow0_2 ?_
  refine g_iconst (v := 1) C rfl d_AL_grow0_5 ?_
  refine g_iadd C d_AL_grow0_6 ?_
  refine g_eq (st1 := [.int (nI (n + 1)), .ref q0]) (congrArg (fun z => Value.int z :: [.ref q0]) (nI_add n 1)) rfl ?_
  refine g_callVP (rest := []) C (c_AL_grow1_n l g q0 q1 n mc (nI n) f P (by first | assumption | omega | exact nI_pos (by omega)) (by first | assumption | omega | exact nI_pos (by omega)) (by first | assumption | omega | exact nI_pos (by omega))) [0, 1] [] rfl (by decide) mo_AL_grow1 mv_AL_grow1 kw_575 (by decide) (rcX 0 rfl rfl) rfl (Nat.le_of_ble_eq_true rfl) ⟨Nat.le_of_ble_eq_true rfl, Nat.le_of_ble_eq_true rfl⟩ d_AL_grow0_7 (fun v2 X2 P2 q => ?_)
  obtain ⟨b, rfl, rfl, rfl⟩ := q
  refine g_ord (X1 := [(q0, .inr (0, [.int mc, .ref b, .int (nI n)])), (b, .inl (g.2.1 4, n + max 1 (n / 2), .inr (.inr (.inr (.inr (va_cpy f (fun _ => none) 0 0 n))))))]) [0, 1] (by decide) rfl ?_
  exact g_aret C (Or.inr ⟨_, rfl⟩) rfl ⟨b, rfl, rfl, rfl⟩ (by first | decide | (dsimp only; omega)) (by first | decide | (dsimp only; omega)) d_AL_grow0_10

set_option maxHeartbeats 4000000 in
set_option maxRecDepth 100000 in
theorem c_AL_grow0_e (l : Launch) (g : Gx) (q0 : Nat) (mc : Int32) (P : va_W) : MP l g y_AL_grow0 b_AL_grow0 1 (some (FieldType.array (FieldType.object "java/lang/Object"))) ({ frames := 4, cells := 1, slots := 60, locals := 107 }) [.ref q0] [(q0, .inr (0, [.int mc, .ref g.2.2.1, .int 0]))] P (fun v2 X2 P2 => ∃ b : Nat, v2 = some (.ref b) ∧ X2 = [(q0, .inr (0, [.int mc, .ref b, .int 0])), (b, .inl (g.2.1 4, 10, .inr (.inr (.inr (.inr (fun _ => none))))))] ∧ P2 = P) := by
  refine MP.of (by decide) (Nat.le_of_ble_eq_true rfl) (fun κ C => ?_)
  have C : zC κ l g ({ frames := 4, cells := 1, slots := 60, locals := 107 }) b_AL_grow0 1 "java/util/ArrayList" "grow" (some (FieldType.array (FieldType.object "java/lang/Object"))) _ := C
  refine g_lv (lv1 := [(0, .ref q0)]) [0] rfl ?_
  refine g_aload_n C 0 rfl d_AL_grow0_0 ?_
  refine g_aload_n C 0 rfl d_AL_grow0_1 ?_
  refine g_get C 0 rfl rfl in_AL 2 (by decide) kw_257 rfl d_AL_grow0_2 ?_
  refine g_iconst (v := 1) C rfl d_AL_grow0_5 ?_
  refine g_iadd C d_AL_grow0_6 ?_
  refine g_eq (st1 := [.int 1, .ref q0]) (congrArg (fun z => Value.int z :: [.ref q0]) (by decide)) rfl ?_
  refine g_callVP (rest := []) C (c_AL_grow1_e l g q0 mc 0 P) [0] [] rfl (by decide) mo_AL_grow1 mv_AL_grow1 kw_575 (by decide) (rcX 0 rfl rfl) rfl (Nat.le_of_ble_eq_true rfl) ⟨Nat.le_of_ble_eq_true rfl, Nat.le_of_ble_eq_true rfl⟩ d_AL_grow0_7 (fun v2 X2 P2 q => ?_)
  obtain ⟨b, rfl, rfl, rfl⟩ := q
  refine g_ord (X1 := [(q0, .inr (0, [.int mc, .ref b, .int 0])), (b, .inl (g.2.1 4, 10, .inr (.inr (.inr (.inr (fun _ => none))))))]) [0, 1] (by decide) rfl ?_
  exact g_aret C (Or.inr ⟨_, rfl⟩) rfl ⟨b, rfl, rfl, rfl⟩ (by first | decide | (dsimp only; omega)) (by first | decide | (dsimp only; omega)) d_AL_grow0_10

set_option maxHeartbeats 4000000 in
set_option maxRecDepth 100000 in
theorem c_AL_add3_rLi (l : Launch) (g : Gx) (q0 q1 n cp : Nat) (mc : Int32) (f : Nat → Option Nat) (v e3 : Nat) (e1 e2 e4 e5 : Int32) (P : va_W) (hn : n < cp) (hc : cp ≤ 1000) : MP l g y_AL_add3 b_AL_add3 4 (none : Option FieldType) ({ frames := 5, cells := 1, slots := 60, locals := 127 }) [.ref q0, .ref v, .ref q1, .int (nI n)] [(q0, .inr (0, [.int mc, .ref q1, .int (nI n)])), (q1, .inl (g.2.1 4, cp, .inr (.inr (.inr (.inr f))))), (v, .inr (6, [.int e1, .int e2, .ref e3, .int e4, .int e5]))] P (fun v2 X2 P2 => v2 = none ∧ X2 = [(q0, .inr (0, [.int mc, .ref q1, .int (nI (n + 1))])), (q1, .inl (g.2.1 4, cp, .inr (.inr (.inr (.inr (va_up f n (some v))))))), (v, .inr (6, [.int e1, .int e2, .ref e3, .int e4, .int e5]))] ∧ P2 = P) := by
  refine MP.of (by decide) (Nat.le_of_ble_eq_true rfl) (fun κ C => ?_)
  have C : zC κ l g ({ frames := 5, cells := 1, slots := 60, locals := 127 }) b_AL_add3 4 "java/util/ArrayList" "add" (none : Option FieldType) _ := C
  refine g_lv (lv1 := [(0, .ref q0), (1, .ref v), (2, .ref q1), (3, .int (nI n))]) [0, 1, 2, 3] rfl ?_
  refine g_iload_n C 3 rfl d_AL_add3_0 ?_
  refine g_aload_n C 2 rfl d_AL_add3_1 ?_
  refine g_qalen C 1 rfl d_AL_add3_2 ?_
  refine g_icmp_ne C d_AL_add3_3 (fun _ => ?_) (fun c_1 => absurd c_1 (fun z => absurd ((nI_eq (by omega) (by omega)).mp z) (by omega)))
  refine g_aload_n C 2 rfl d_AL_add3_11 ?_
  refine g_iload_n C 3 rfl d_AL_add3_12 ?_
  refine g_aload_n C 1 rfl d_AL_add3_13 ?_
  refine g_qast (X1 := [(q0, .inr (0, [.int mc, .ref q1, .int (nI n)])), (q1, .inl (g.2.1 4, cp, .inr (.inr (.inr (.inr (va_up f (Int32.toNatClampNeg (nI n)) (some v))))))), (v, .inr (6, [.int e1, .int e2, .ref e3, .int e4, .int e5]))]) C 1 2 rfl rfl rfl kw_1204 (vp_in_nI (by omega) (by omega)) rfl d_AL_add3_14 ?_
  refine g_eq (X1 := [(q0, .inr (0, [.int mc, .ref q1, .int (nI n)])), (q1, .inl (g.2.1 4, cp, .inr (.inr (.inr (.inr (va_up f n (some v))))))), (v, .inr (6, [.int e1, .int e2, .ref e3, .int e4, .int e5]))]) rfl (by rw [nI_clamp (by omega)]) ?_
  refine g_aload_n C 0 rfl d_AL_add3_15 ?_
  refine g_iload_n C 3 rfl d_AL_add3_16 ?_
  refine g_iconst (v := 1) C rfl d_AL_add3_17 ?_
  refine g_iadd C d_AL_add3_18 ?_
  refine g_eq (st1 := [.int (nI (n + 1)), .ref q0]) (congrArg (fun z => Value.int z :: [.ref q0]) (nI_add n 1)) rfl ?_
  refine g_put (X1 := [(q0, .inr (0, [.int mc, .ref q1, .int (nI (n + 1))])), (q1, .inl (g.2.1 4, cp, .inr (.inr (.inr (.inr (va_up f n (some v))))))), (v, .inr (6, [.int e1, .int e2, .ref e3, .int e4, .int e5]))]) C 0 rfl rfl in_AL 2 (by decide) ok_AL nm_AL kw_257 rfl rfl rfl (Nat.le_of_ble_eq_true rfl) rfl d_AL_add3_19 ?_
  exact g_vret C rfl ⟨rfl, rfl, rfl⟩ (by first | decide | (dsimp only; omega)) (by first | decide | (dsimp only; omega)) d_AL_add3_22

set_option maxHeartbeats 4000000 in
set_option maxRecDepth 100000 in
theorem c_AL_add3_eLi (l : Launch) (g : Gx) (q0 : Nat) (mc : Int32) (v e3 : Nat) (e1 e2 e4 e5 : Int32) (P : va_W) : MP l g y_AL_add3 b_AL_add3 4 (none : Option FieldType) ({ frames := 5, cells := 1, slots := 60, locals := 127 }) [.ref q0, .ref v, .ref g.2.2.1, .int 0] [(q0, .inr (0, [.int mc, .ref g.2.2.1, .int 0])), (v, .inr (6, [.int e1, .int e2, .ref e3, .int e4, .int e5]))] P (fun v2 X2 P2 => ∃ b : Nat, v2 = none ∧ X2 = [(q0, .inr (0, [.int mc, .ref b, .int 1])), (b, .inl (g.2.1 4, 10, .inr (.inr (.inr (.inr (va_up (fun _ => none) 0 (some v))))))), (v, .inr (6, [.int e1, .int e2, .ref e3, .int e4, .int e5]))] ∧ P2 = P) := by
  refine MP.of (by decide) (Nat.le_of_ble_eq_true rfl) (fun κ C => ?_)
  have C : zC κ l g ({ frames := 5, cells := 1, slots := 60, locals := 127 }) b_AL_add3 4 "java/util/ArrayList" "add" (none : Option FieldType) _ := C
  refine g_lv (lv1 := [(0, .ref q0), (1, .ref v), (2, .ref g.2.2.1), (3, .int 0)]) [0, 1, 2, 3] rfl ?_
  refine g_iload_n C 3 rfl d_AL_add3_0 ?_
  refine g_aload_n C 2 rfl d_AL_add3_1 ?_
  refine g_e0len C d_AL_add3_2 ?_
  refine g_icmp_ne C d_AL_add3_3 (fun c_1 => absurd c_1 (by decide)) (fun _ => ?_)
  refine g_aload_n C 0 rfl d_AL_add3_6 ?_
  refine g_callVP (rest := []) C (c_AL_grow0_e l g q0 mc P) [0] [1] rfl (by decide) mo_AL_grow0 mv_AL_grow0 kw_571 (by decide) (rcX 0 rfl rfl) rfl (Nat.le_of_ble_eq_true rfl) ⟨Nat.le_of_ble_eq_true rfl, Nat.le_of_ble_eq_true rfl⟩ d_AL_add3_7 (fun v2 X2 P2 q => ?_)
  obtain ⟨b, rfl, rfl, rfl⟩ := q
  refine g_ord (X1 := [(q0, .inr (0, [.int mc, .ref b, .int 0])), (v, .inr (6, [.int e1, .int e2, .ref e3, .int e4, .int e5])), (b, .inl (g.2.1 4, 10, .inr (.inr (.inr (.inr (fun _ => none))))))]) [1, 0, 2] (by decide) rfl ?_
  refine g_astore_n (lv1 := [(0, .ref q0), (1, .ref v), (2, .ref b), (3, .int 0)]) C d_AL_add3_10 [1, 2, 0, 3] (by decide) rfl ?_
  refine g_aload_n C 2 rfl d_AL_add3_11 ?_
  refine g_iload_n C 3 rfl d_AL_add3_12 ?_
  refine g_aload_n C 1 rfl d_AL_add3_13 ?_
  refine g_qast (X1 := [(q0, .inr (0, [.int mc, .ref b, .int 0])), (v, .inr (6, [.int e1, .int e2, .ref e3, .int e4, .int e5])), (b, .inl (g.2.1 4, 10, .inr (.inr (.inr (.inr (va_up (fun _ => none) (Int32.toNatClampNeg 0) (some v)))))))]) C 2 1 rfl rfl rfl kw_1204 (vp_in_nI (n := 0) (by decide) (by decide)) rfl d_AL_add3_14 ?_
  refine g_eq (X1 := [(q0, .inr (0, [.int mc, .ref b, .int 0])), (v, .inr (6, [.int e1, .int e2, .ref e3, .int e4, .int e5])), (b, .inl (g.2.1 4, 10, .inr (.inr (.inr (.inr (va_up (fun _ => none) 0 (some v)))))))]) rfl rfl ?_
  refine g_aload_n C 0 rfl d_AL_add3_15 ?_
  refine g_iload_n C 3 rfl d_AL_add3_16 ?_
  refine g_iconst (v := 1) C rfl d_AL_add3_17 ?_
  refine g_iadd C d_AL_add3_18 ?_
  refine g_eq (st1 := [.int 1, .ref q0]) (congrArg (fun z => Value.int z :: [.ref q0]) (by decide)) rfl ?_
  refine g_put (X1 := [(q0, .inr (0, [.int mc, .ref b, .int 1])), (v, .inr (6, [.int e1, .int e2, .ref e3, .int e4, .int e5])), (b, .inl (g.2.1 4, 10, .inr (.inr (.inr (.inr (va_up (fun _ => none) 0 (some v)))))))]) C 0 rfl rfl in_AL 2 (by decide) ok_AL nm_AL kw_257 rfl rfl rfl (Nat.le_of_ble_eq_true rfl) rfl d_AL_add3_19 ?_
  refine g_ord (X1 := [(q0, .inr (0, [.int mc, .ref b, .int 1])), (b, .inl (g.2.1 4, 10, .inr (.inr (.inr (.inr (va_up (fun _ => none) 0 (some v))))))), (v, .inr (6, [.int e1, .int e2, .ref e3, .int e4, .int e5]))]) [0, 2, 1] (by decide) rfl ?_
  exact g_vret C rfl ⟨b, rfl, rfl, rfl⟩ (by first | decide | (dsimp only; omega)) (by first | decide | (dsimp only; omega)) d_AL_add3_22

set_option maxHeartbeats 4000000 in
set_option maxRecDepth 100000 in
theorem c_AL_add3_gLi (l : Launch) (g : Gx) (q0 q1 n : Nat) (mc : Int32) (f : Nat → Option Nat) (v e3 : Nat) (e1 e2 e4 e5 : Int32) (P : va_W) (hn : 0 < n) (hn2 : n ≤ 40) (hel : elk P f n) : MP l g y_AL_add3 b_AL_add3 4 (none : Option FieldType) ({ frames := 5, cells := 1, slots := 60, locals := 127 }) [.ref q0, .ref v, .ref q1, .int (nI n)] [(q0, .inr (0, [.int mc, .ref q1, .int (nI n)])), (q1, .inl (g.2.1 4, n, .inr (.inr (.inr (.inr f))))), (v, .inr (6, [.int e1, .int e2, .ref e3, .int e4, .int e5]))] P (fun v2 X2 P2 => ∃ b : Nat, v2 = none ∧ X2 = [(q0, .inr (0, [.int mc, .ref b, .int (nI (n + 1))])), (b, .inl (g.2.1 4, n + max 1 (n / 2), .inr (.inr (.inr (.inr (va_up (va_cpy f (fun _ => none) 0 0 n) n (some v))))))), (v, .inr (6, [.int e1, .int e2, .ref e3, .int e4, .int e5]))] ∧ P2 = P) := by
  refine MP.of (by decide) (Nat.le_of_ble_eq_true rfl) (fun κ C => ?_)
  have C : zC κ l g ({ frames := 5, cells := 1, slots := 60, locals := 127 }) b_AL_add3 4 "java/util/ArrayList" "add" (none : Option FieldType) _ := C
  refine g_lv (lv1 := [(0, .ref q0), (1, .ref v), (2, .ref q1), (3, .int (nI n))]) [0, 1, 2, 3] rfl ?_
  refine g_iload_n C 3 rfl d_AL_add3_0 ?_
  refine g_aload_n C 2 rfl d_AL_add3_1 ?_
  refine g_qalen C 1 rfl d_AL_add3_2 ?_
  refine g_icmp_ne C d_AL_add3_3 (fun c_1 => absurd rfl c_1) (fun _ => ?_)
  refine g_aload_n C 0 rfl d_AL_add3_6 ?_
  refine g_callVP (rest := []) C (c_AL_grow0_n l g q0 q1 n mc f P hn hn2 hel) [0, 1] [2] rfl (by decide) mo_AL_grow0 mv_AL_grow0 kw_571 (by decide) (rcX 0 rfl rfl) rfl (Nat.le_of_ble_eq_true rfl) ⟨Nat.le_of_ble_eq_true rfl, Nat.le_of_ble_eq_true rfl⟩ d_AL_add3_7 (fun v2 X2 P2 q => ?_)
  obtain ⟨b, rfl, rfl, rfl⟩ := q
  refine g_ord (X1 := [(q0, .inr (0, [.int mc, .ref b, .int (nI n)])), (b, .inl (g.2.1 4, n + max 1 (n / 2), .inr (.inr (.inr (.inr (va_cpy f (fun _ => none) 0 0 n)))))), (v, .inr (6, [.int e1, .int e2, .ref e3, .int e4, .int e5]))]) [1, 2, 0] (by decide) rfl ?_
  refine g_astore_n (lv1 := [(0, .ref q0), (1, .ref v), (2, .ref b), (3, .int (nI n))]) C d_AL_add3_10 [1, 2, 0, 3] (by decide) rfl ?_
  refine g_aload_n C 2 rfl d_AL_add3_11 ?_
  refine g_iload_n C 3 rfl d_AL_add3_12 ?_
  refine g_aload_n C 1 rfl d_AL_add3_13 ?_
  refine g_qast (X1 := [(q0, .inr (0, [.int mc, .ref b, .int (nI n)])), (b, .inl (g.2.1 4, n + max 1 (n / 2), .inr (.inr (.inr (.inr (va_up (va_cpy f (fun _ => none) 0 0 n) (Int32.toNatClampNeg (nI n)) (some v))))))), (v, .inr (6, [.int e1, .int e2, .ref e3, .int e4, .int e5]))]) C 1 2 rfl rfl rfl kw_1204 (vp_in_nI (by omega) (by omega)) rfl d_AL_add3_14 ?_
  refine g_eq (X1 := [(q0, .inr (0, [.int mc, .ref b, .int (nI n)])), (b, .inl (g.2.1 4, n + max 1 (n / 2), .inr (.inr (.inr (.inr (va_up (va_cpy f (fun _ => none) 0 0 n) n (some v))))))), (v, .inr (6, [.int e1, .int e2, .ref e3, .int e4, .int e5]))]) rfl (by rw [nI_clamp (by omega)]) ?_
  refine g_aload_n C 0 rfl d_AL_add3_15 ?_
  refine g_iload_n C 3 rfl d_AL_add3_16 ?_
  refine g_iconst (v := 1) C rfl d_AL_add3_17 ?_
  refine g_iadd C d_AL_add3_18 ?_
  refine g_eq (st1 := [.int (nI (n + 1)), .ref q0]) (congrArg (fun z => Value.int z :: [.ref q0]) (nI_add n 1)) rfl ?_
  refine g_put (X1 := [(q0, .inr (0, [.int mc, .ref b, .int (nI (n + 1))])), (b, .inl (g.2.1 4, n + max 1 (n / 2), .inr (.inr (.inr (.inr (va_up (va_cpy f (fun _ => none) 0 0 n) n (some v))))))), (v, .inr (6, [.int e1, .int e2, .ref e3, .int e4, .int e5]))]) C 0 rfl rfl in_AL 2 (by decide) ok_AL nm_AL kw_257 rfl rfl rfl (Nat.le_of_ble_eq_true rfl) rfl d_AL_add3_19 ?_
  exact g_vret C rfl ⟨b, rfl, rfl, rfl⟩ (by first | decide | (dsimp only; omega)) (by first | decide | (dsimp only; omega)) d_AL_add3_22

set_option maxHeartbeats 4000000 in
set_option maxRecDepth 100000 in
theorem c_AL_add_rLi (l : Launch) (g : Gx) (q0 q1 n cp : Nat) (mc : Int32) (f : Nat → Option Nat) (v e3 : Nat) (e1 e2 e4 e5 : Int32) (P : va_W) (hn : n < cp) (hc : cp ≤ 1000) : MP l g y_AL_add b_AL_add 2 (some FieldType.boolean) ({ frames := 6, cells := 1, slots := 60, locals := 150 }) [.ref q0, .ref v] [(q0, .inr (0, [.int mc, .ref q1, .int (nI n)])), (q1, .inl (g.2.1 4, cp, .inr (.inr (.inr (.inr f))))), (v, .inr (6, [.int e1, .int e2, .ref e3, .int e4, .int e5]))] P (fun v2 X2 P2 => v2 = some (.int 1) ∧ X2 = [(q0, .inr (0, [.int (mc + 1), .ref q1, .int (nI (n + 1))])), (q1, .inl (g.2.1 4, cp, .inr (.inr (.inr (.inr (va_up f n (some v))))))), (v, .inr (6, [.int e1, .int e2, .ref e3, .int e4, .int e5]))] ∧ P2 = P) := by
  refine MP.of (by decide) (Nat.le_of_ble_eq_true rfl) (fun κ C => ?_)
  have C : zC κ l g ({ frames := 6, cells := 1, slots := 60, locals := 150 }) b_AL_add 2 "java/util/ArrayList" "add" (some FieldType.boolean) _ := C
  refine g_lv (lv1 := [(0, .ref q0), (1, .ref v)]) [0, 1] rfl ?_
  refine g_aload_n C 0 rfl d_AL_add_0 ?_
  refine g_dup C rfl d_AL_add_1 ?_
  refine g_getS C 0 rfl rfl in_AL 0 (by decide) kw_259 kw_260 rfl d_AL_add_2 ?_
  refine g_iconst (v := 1) C rfl d_AL_add_5 ?_
  refine g_iadd C d_AL_add_6 ?_
  refine g_putS (X1 := [(q0, .inr (0, [.int (mc + 1), .ref q1, .int (nI n)])), (q1, .inl (g.2.1 4, cp, .inr (.inr (.inr (.inr f))))), (v, .inr (6, [.int e1, .int e2, .ref e3, .int e4, .int e5]))]) C 0 rfl rfl in_AL 0 (by decide) ok_AL nm_AL kw_259 kw_260 rfl rfl rfl (Nat.le_of_ble_eq_true rfl) rfl d_AL_add_7 ?_
  refine g_aload_n C 0 rfl d_AL_add_10 ?_
  refine g_aload_n C 1 rfl d_AL_add_11 ?_
  refine g_aload_n C 0 rfl d_AL_add_12 ?_
  refine g_get C 0 rfl rfl in_AL 1 (by decide) kw_256 rfl d_AL_add_13 ?_
  refine g_aload_n C 0 rfl d_AL_add_16 ?_
  refine g_get C 0 rfl rfl in_AL 2 (by decide) kw_257 rfl d_AL_add_17 ?_
  refine g_callVP (rest := []) C (c_AL_add3_rLi l g q0 q1 n cp (mc + 1) f v e3 e1 e2 e4 e5 P (by first | assumption | omega | exact nI_pos (by omega)) (by first | assumption | omega | exact nI_pos (by omega))) [0, 1, 2] [] rfl (by decide) mo_AL_add3 mv_AL_add3 kw_567 (by decide) (rcX 0 rfl rfl) rfl (Nat.le_of_ble_eq_true rfl) ⟨Nat.le_of_ble_eq_true rfl, Nat.le_of_ble_eq_true rfl⟩ d_AL_add_20 (fun v2 X2 P2 q => ?_)
  obtain ⟨rfl, rfl, rfl⟩ := q
  refine g_ord (X1 := [(q0, .inr (0, [.int (mc + 1), .ref q1, .int (nI (n + 1))])), (q1, .inl (g.2.1 4, cp, .inr (.inr (.inr (.inr (va_up f n (some v))))))), (v, .inr (6, [.int e1, .int e2, .ref e3, .int e4, .int e5]))]) [0, 1, 2] (by decide) rfl ?_
  refine g_iconst (v := 1) C rfl d_AL_add_23 ?_
  exact g_zret C (Or.inr rfl) rfl ⟨rfl, rfl, rfl⟩ (by first | decide | (dsimp only; omega)) (by first | decide | (dsimp only; omega)) d_AL_add_24

set_option maxHeartbeats 4000000 in
set_option maxRecDepth 100000 in
theorem c_AL_add_eLi (l : Launch) (g : Gx) (q0 : Nat) (mc : Int32) (v e3 : Nat) (e1 e2 e4 e5 : Int32) (P : va_W) : MP l g y_AL_add b_AL_add 2 (some FieldType.boolean) ({ frames := 6, cells := 1, slots := 60, locals := 150 }) [.ref q0, .ref v] [(q0, .inr (0, [.int mc, .ref g.2.2.1, .int 0])), (v, .inr (6, [.int e1, .int e2, .ref e3, .int e4, .int e5]))] P (fun v2 X2 P2 => ∃ b : Nat, v2 = some (.int 1) ∧ X2 = [(q0, .inr (0, [.int (mc + 1), .ref b, .int 1])), (b, .inl (g.2.1 4, 10, .inr (.inr (.inr (.inr (va_up (fun _ => none) 0 (some v))))))), (v, .inr (6, [.int e1, .int e2, .ref e3, .int e4, .int e5]))] ∧ P2 = P) := by
  refine MP.of (by decide) (Nat.le_of_ble_eq_true rfl) (fun κ C => ?_)
  have C : zC κ l g ({ frames := 6, cells := 1, slots := 60, locals := 150 }) b_AL_add 2 "java/util/ArrayList" "add" (some FieldType.boolean) _ := C
  refine g_lv (lv1 := [(0, .ref q0), (1, .ref v)]) [0, 1] rfl ?_
  refine g_aload_n C 0 rfl d_AL_add_0 ?_
  refine g_dup C rfl d_AL_add_1 ?_
  refine g_getS C 0 rfl rfl in_AL 0 (by decide) kw_259 kw_260 rfl d_AL_add_2 ?_
  refine g_iconst (v := 1) C rfl d_AL_add_5 ?_
  refine g_iadd C d_AL_add_6 ?_
  refine g_putS (X1 := [(q0, .inr (0, [.int (mc + 1), .ref g.2.2.1, .int 0])), (v, .inr (6, [.int e1, .int e2, .ref e3, .int e4, .int e5]))]) C 0 rfl rfl in_AL 0 (by decide) ok_AL nm_AL kw_259 kw_260 rfl rfl rfl (Nat.le_of_ble_eq_true rfl) rfl d_AL_add_7 ?_
  refine g_aload_n C 0 rfl d_AL_add_10 ?_
  refine g_aload_n C 1 rfl d_AL_add_11 ?_
  refine g_aload_n C 0 rfl d_AL_add_12 ?_
  refine g_get C 0 rfl rfl in_AL 1 (by decide) kw_256 rfl d_AL_add_13 ?_
  refine g_aload_n C 0 rfl d_AL_add_16 ?_
  refine g_get C 0 rfl rfl in_AL 2 (by decide) kw_257 rfl d_AL_add_17 ?_
  refine g_callVP (rest := []) C (c_AL_add3_eLi l g q0 (mc + 1) v e3 e1 e2 e4 e5 P) [0, 1] [] rfl (by decide) mo_AL_add3 mv_AL_add3 kw_567 (by decide) (rcX 0 rfl rfl) rfl (Nat.le_of_ble_eq_true rfl) ⟨Nat.le_of_ble_eq_true rfl, Nat.le_of_ble_eq_true rfl⟩ d_AL_add_20 (fun v2 X2 P2 q => ?_)
  obtain ⟨b, rfl, rfl, rfl⟩ := q
  refine g_ord (X1 := [(q0, .inr (0, [.int (mc + 1), .ref b, .int 1])), (b, .inl (g.2.1 4, 10, .inr (.inr (.inr (.inr (va_up (fun _ => none) 0 (some v))))))), (v, .inr (6, [.int e1, .int e2, .ref e3, .int e4, .int e5]))]) [0, 1, 2] (by decide) rfl ?_
  refine g_iconst (v := 1) C rfl d_AL_add_23 ?_
  exact g_zret C (Or.inr rfl) rfl ⟨b, rfl, rfl, rfl⟩ (by first | decide | (dsimp only; omega)) (by first | decide | (dsimp only; omega)) d_AL_add_24

set_option maxHeartbeats 4000000 in
set_option maxRecDepth 100000 in
theorem c_AL_add_gLi (l : Launch) (g : Gx) (q0 q1 n : Nat) (mc : Int32) (f : Nat → Option Nat) (v e3 : Nat) (e1 e2 e4 e5 : Int32) (P : va_W) (hn : 0 < n) (hn2 : n ≤ 40) (hel : elk P f n) : MP l g y_AL_add b_AL_add 2 (some FieldType.boolean) ({ frames := 6, cells := 1, slots := 60, locals := 150 }) [.ref q0, .ref v] [(q0, .inr (0, [.int mc, .ref q1, .int (nI n)])), (q1, .inl (g.2.1 4, n, .inr (.inr (.inr (.inr f))))), (v, .inr (6, [.int e1, .int e2, .ref e3, .int e4, .int e5]))] P (fun v2 X2 P2 => ∃ b : Nat, v2 = some (.int 1) ∧ X2 = [(q0, .inr (0, [.int (mc + 1), .ref b, .int (nI (n + 1))])), (b, .inl (g.2.1 4, n + max 1 (n / 2), .inr (.inr (.inr (.inr (va_up (va_cpy f (fun _ => none) 0 0 n) n (some v))))))), (v, .inr (6, [.int e1, .int e2, .ref e3, .int e4, .int e5]))] ∧ P2 = P) := by
  refine MP.of (by decide) (Nat.le_of_ble_eq_true rfl) (fun κ C => ?_)
  have C : zC κ l g ({ frames := 6, cells := 1, slots := 60, locals := 150 }) b_AL_add 2 "java/util/ArrayList" "add" (some FieldType.boolean) _ := C
  refine g_lv (lv1 := [(0, .ref q0), (1, .ref v)]) [0, 1] rfl ?_
  refine g_aload_n C 0 rfl d_AL_add_0 ?_
  refine g_dup C rfl d_AL_add_1 ?_
  refine g_getS C 0 rfl rfl in_AL 0 (by decide) kw_259 kw_260 rfl d_AL_add_2 ?_
  refine g_iconst (v := 1) C rfl d_AL_add_5 ?_
  refine g_iadd C d_AL_add_6 ?_
  refine g_putS (X1 := [(q0, .inr (0, [.int (mc + 1), .ref q1, .int (nI n)])), (q1, .inl (g.2.1 4, n, .inr (.inr (.inr (.inr f))))), (v, .inr (6, [.int e1, .int e2, .ref e3, .int e4, .int e5]))]) C 0 rfl rfl in_AL 0 (by decide) ok_AL nm_AL kw_259 kw_260 rfl rfl rfl (Nat.le_of_ble_eq_true rfl) rfl d_AL_add_7 ?_
  refine g_aload_n C 0 rfl d_AL_add_10 ?_
  refine g_aload_n C 1 rfl d_AL_add_11 ?_
  refine g_aload_n C 0 rfl d_AL_add_12 ?_
  refine g_get C 0 rfl rfl in_AL 1 (by decide) kw_256 rfl d_AL_add_13 ?_
  refine g_aload_n C 0 rfl d_AL_add_16 ?_
  refine g_get C 0 rfl rfl in_AL 2 (by decide) kw_257 rfl d_AL_add_17 ?_
  refine g_callVP (rest := []) C (c_AL_add3_gLi l g q0 q1 n (mc + 1) f v e3 e1 e2 e4 e5 P hn hn2 hel) [0, 1, 2] [] rfl (by decide) mo_AL_add3 mv_AL_add3 kw_567 (by decide) (rcX 0 rfl rfl) rfl (Nat.le_of_ble_eq_true rfl) ⟨Nat.le_of_ble_eq_true rfl, Nat.le_of_ble_eq_true rfl⟩ d_AL_add_20 (fun v2 X2 P2 q => ?_)
  obtain ⟨b, rfl, rfl, rfl⟩ := q
  refine g_ord (X1 := [(q0, .inr (0, [.int (mc + 1), .ref b, .int (nI (n + 1))])), (b, .inl (g.2.1 4, n + max 1 (n / 2), .inr (.inr (.inr (.inr (va_up (va_cpy f (fun _ => none) 0 0 n) n (some v))))))), (v, .inr (6, [.int e1, .int e2, .ref e3, .int e4, .int e5]))]) [0, 1, 2] (by decide) rfl ?_
  refine g_iconst (v := 1) C rfl d_AL_add_23 ?_
  exact g_zret C (Or.inr rfl) rfl ⟨b, rfl, rfl, rfl⟩ (by first | decide | (dsimp only; omega)) (by first | decide | (dsimp only; omega)) d_AL_add_24

set_option maxHeartbeats 4000000 in
set_option maxRecDepth 100000 in
theorem c_AL_add3_rFk (l : Launch) (g : Gx) (q0 q1 n cp : Nat) (mc : Int32) (f : Nat → Option Nat) (v e2 : Nat) (e1 e3 e4 : Int32) (P : va_W) (hn : n < cp) (hc : cp ≤ 1000) : MP l g y_AL_add3 b_AL_add3 4 (none : Option FieldType) ({ frames := 5, cells := 1, slots := 60, locals := 127 }) [.ref q0, .ref v, .ref q1, .int (nI n)] [(q0, .inr (0, [.int mc, .ref q1, .int (nI n)])), (q1, .inl (g.2.1 4, cp, .inr (.inr (.inr (.inr f))))), (v, .inr (3, [.int e1, .ref e2, .int e3, .int e4]))] P (fun v2 X2 P2 => v2 = none ∧ X2 = [(q0, .inr (0, [.int mc, .ref q1, .int (nI (n + 1))])), (q1, .inl (g.2.1 4, cp, .inr (.inr (.inr (.inr (va_up f n (some v))))))), (v, .inr (3, [.int e1, .ref e2, .int e3, .int e4]))] ∧ P2 = P) := by
  refine MP.of (by decide) (Nat.le_of_ble_eq_true rfl) (fun κ C => ?_)
  have C : zC κ l g ({ frames := 5, cells := 1, slots := 60, locals := 127 }) b_AL_add3 4 "java/util/ArrayList" "add" (none : Option FieldType) _ := C
  refine g_lv (lv1 := [(0, .ref q0), (1, .ref v), (2, .ref q1), (3, .int (nI n))]) [0, 1, 2, 3] rfl ?_
  refine g_iload_n C 3 rfl d_AL_add3_0 ?_
  refine g_aload_n C 2 rfl d_AL_add3_1 ?_
  refine g_qalen C 1 rfl d_AL_add3_2 ?_
  refine g_icmp_ne C d_AL_add3_3 (fun _ => ?_) (fun c_1 => absurd c_1 (fun z => absurd ((nI_eq (by omega) (by omega)).mp z) (by omega)))
  refine g_aload_n C 2 rfl d_AL_add3_11 ?_
  refine g_iload_n C 3 rfl d_AL_add3_12 ?_
  refine g_aload_n C 1 rfl d_AL_add3_13 ?_
  refine g_qast (X1 := [(q0, .inr (0, [.int mc, .ref q1, .int (nI n)])), (q1, .inl (g.2.1 4, cp, .inr (.inr (.inr (.inr (va_up f (Int32.toNatClampNeg (nI n)) (some v))))))), (v, .inr (3, [.int e1, .ref e2, .int e3, .int e4]))]) C 1 2 rfl rfl rfl kw_1213 (vp_in_nI (by omega) (by omega)) rfl d_AL_add3_14 ?_
  refine g_eq (X1 := [(q0, .inr (0, [.int mc, .ref q1, .int (nI n)])), (q1, .inl (g.2.1 4, cp, .inr (.inr (.inr (.inr (va_up f n (some v))))))), (v, .inr (3, [.int e1, .ref e2, .int e3, .int e4]))]) rfl (by rw [nI_clamp (by omega)]) ?_
  refine g_aload_n C 0 rfl d_AL_add3_15 ?_
  refine g_iload_n C 3 rfl d_AL_add3_16 ?_
  refine g_iconst (v := 1) C rfl d_AL_add3_17 ?_
  refine g_iadd C d_AL_add3_18 ?_
  refine g_eq (st1 := [.int (nI (n + 1)), .ref q0]) (congrArg (fun z => Value.int z :: [.ref q0]) (nI_add n 1)) rfl ?_
  refine g_put (X1 := [(q0, .inr (0, [.int mc, .ref q1, .int (nI (n + 1))])), (q1, .inl (g.2.1 4, cp, .inr (.inr (.inr (.inr (va_up f n (some v))))))), (v, .inr (3, [.int e1, .ref e2, .int e3, .int e4]))]) C 0 rfl rfl in_AL 2 (by decide) ok_AL nm_AL kw_257 rfl rfl rfl (Nat.le_of_ble_eq_true rfl) rfl d_AL_add3_19 ?_
  exact g_vret C rfl ⟨rfl, rfl, rfl⟩ (by first | decide | (dsimp only; omega)) (by first | decide | (dsimp only; omega)) d_AL_add3_22

set_option maxHeartbeats 4000000 in
set_option maxRecDepth 100000 in
theorem c_AL_add3_eFk (l : Launch) (g : Gx) (q0 : Nat) (mc : Int32) (v e2 : Nat) (e1 e3 e4 : Int32) (P : va_W) : MP l g y_AL_add3 b_AL_add3 4 (none : Option FieldType) ({ frames := 5, cells := 1, slots := 60, locals := 127 }) [.ref q0, .ref v, .ref g.2.2.1, .int 0] [(q0, .inr (0, [.int mc, .ref g.2.2.1, .int 0])), (v, .inr (3, [.int e1, .ref e2, .int e3, .int e4]))] P (fun v2 X2 P2 => ∃ b : Nat, v2 = none ∧ X2 = [(q0, .inr (0, [.int mc, .ref b, .int 1])), (b, .inl (g.2.1 4, 10, .inr (.inr (.inr (.inr (va_up (fun _ => none) 0 (some v))))))), (v, .inr (3, [.int e1, .ref e2, .int e3, .int e4]))] ∧ P2 = P) := by
  refine MP.of (by decide) (Nat.le_of_ble_eq_true rfl) (fun κ C => ?_)
  have C : zC κ l g ({ frames := 5, cells := 1, slots := 60, locals := 127 }) b_AL_add3 4 "java/util/ArrayList" "add" (none : Option FieldType) _ := C
  refine g_lv (lv1 := [(0, .ref q0), (1, .ref v), (2, .ref g.2.2.1), (3, .int 0)]) [0, 1, 2, 3] rfl ?_
  refine g_iload_n C 3 rfl d_AL_add3_0 ?_
  refine g_aload_n C 2 rfl d_AL_add3_1 ?_
  refine g_e0len C d_AL_add3_2 ?_
  refine g_icmp_ne C d_AL_add3_3 (fun c_1 => absurd c_1 (by decide)) (fun _ => ?_)
  refine g_aload_n C 0 rfl d_AL_add3_6 ?_
  refine g_callVP (rest := []) C (c_AL_grow0_e l g q0 mc P) [0] [1] rfl (by decide) mo_AL_grow0 mv_AL_grow0 kw_571 (by decide) (rcX 0 rfl rfl) rfl (Nat.le_of_ble_eq_true rfl) ⟨Nat.le_of_ble_eq_true rfl, Nat.le_of_ble_eq_true rfl⟩ d_AL_add3_7 (fun v2 X2 P2 q => ?_)
  obtain ⟨b, rfl, rfl, rfl⟩ := q
  refine g_ord (X1 := [(q0, .inr (0, [.int mc, .ref b, .int 0])), (v, .inr (3, [.int e1, .ref e2, .int e3, .int e4])), (b, .inl (g.2.1 4, 10, .inr (.inr (.inr (.inr (fun _ => none))))))]) [1, 0, 2] (by decide) rfl ?_
  refine g_astore_n (lv1 := [(0, .ref q0), (1, .ref v), (2, .ref b), (3, .int 0)]) C d_AL_add3_10 [1, 2, 0, 3] (by decide) rfl ?_
  refine g_aload_n C 2 rfl d_AL_add3_11 ?_
  refine g_iload_n C 3 rfl d_AL_add3_12 ?_
  refine g_aload_n C 1 rfl d_AL_add3_13 ?_
  refine g_qast (X1 := [(q0, .inr (0, [.int mc, .ref b, .int 0])), (v, .inr (3, [.int e1, .ref e2, .int e3, .int e4])), (b, .inl (g.2.1 4, 10, .inr (.inr (.inr (.inr (va_up (fun _ => none) (Int32.toNatClampNeg 0) (some v)))))))]) C 2 1 rfl rfl rfl kw_1213 (vp_in_nI (n := 0) (by decide) (by decide)) rfl d_AL_add3_14 ?_
  refine g_eq (X1 := [(q0, .inr (0, [.int mc, .ref b, .int 0])), (v, .inr (3, [.int e1, .ref e2, .int e3, .int e4])), (b, .inl (g.2.1 4, 10, .inr (.inr (.inr (.inr (va_up (fun _ => none) 0 (some v)))))))]) rfl rfl ?_
  refine g_aload_n C 0 rfl d_AL_add3_15 ?_
  refine g_iload_n C 3 rfl d_AL_add3_16 ?_
  refine g_iconst (v := 1) C rfl d_AL_add3_17 ?_
  refine g_iadd C d_AL_add3_18 ?_
  refine g_eq (st1 := [.int 1, .ref q0]) (congrArg (fun z => Value.int z :: [.ref q0]) (by decide)) rfl ?_
  refine g_put (X1 := [(q0, .inr (0, [.int mc, .ref b, .int 1])), (v, .inr (3, [.int e1, .ref e2, .int e3, .int e4])), (b, .inl (g.2.1 4, 10, .inr (.inr (.inr (.inr (va_up (fun _ => none) 0 (some v)))))))]) C 0 rfl rfl in_AL 2 (by decide) ok_AL nm_AL kw_257 rfl rfl rfl (Nat.le_of_ble_eq_true rfl) rfl d_AL_add3_19 ?_
  refine g_ord (X1 := [(q0, .inr (0, [.int mc, .ref b, .int 1])), (b, .inl (g.2.1 4, 10, .inr (.inr (.inr (.inr (va_up (fun _ => none) 0 (some v))))))), (v, .inr (3, [.int e1, .ref e2, .int e3, .int e4]))]) [0, 2, 1] (by decide) rfl ?_
  exact g_vret C rfl ⟨b, rfl, rfl, rfl⟩ (by first | decide | (dsimp only; omega)) (by first | decide | (dsimp only; omega)) d_AL_add3_22

set_option maxHeartbeats 4000000 in
set_option maxRecDepth 100000 in
theorem c_AL_add3_gFk (l : Launch) (g : Gx) (q0 q1 n : Nat) (mc : Int32) (f : Nat → Option Nat) (v e2 : Nat) (e1 e3 e4 : Int32) (P : va_W) (hn : 0 < n) (hn2 : n ≤ 40) (hel : elk P f n) : MP l g y_AL_add3 b_AL_add3 4 (none : Option FieldType) ({ frames := 5, cells := 1, slots := 60, locals := 127 }) [.ref q0, .ref v, .ref q1, .int (nI n)] [(q0, .inr (0, [.int mc, .ref q1, .int (nI n)])), (q1, .inl (g.2.1 4, n, .inr (.inr (.inr (.inr f))))), (v, .inr (3, [.int e1, .ref e2, .int e3, .int e4]))] P (fun v2 X2 P2 => ∃ b : Nat, v2 = none ∧ X2 = [(q0, .inr (0, [.int mc, .ref b, .int (nI (n + 1))])), (b, .inl (g.2.1 4, n + max 1 (n / 2), .inr (.inr (.inr (.inr (va_up (va_cpy f (fun _ => none) 0 0 n) n (some v))))))), (v, .inr (3, [.int e1, .ref e2, .int e3, .int e4]))] ∧ P2 = P) := by
  refine MP.of (by decide) (Nat.le_of_ble_eq_true rfl) (fun κ C => ?_)
  have C : zC κ l g ({ frames := 5, cells := 1, slots := 60, locals := 127 }) b_AL_add3 4 "java/util/ArrayList" "add" (none : Option FieldType) _ := C
  refine g_lv (lv1 := [(0, .ref q0), (1, .ref v), (2, .ref q1), (3, .int (nI n))]) [0, 1, 2, 3] rfl ?_
  refine g_iload_n C 3 rfl d_AL_add3_0 ?_
  refine g_aload_n C 2 rfl d_AL_add3_1 ?_
  refine g_qalen C 1 rfl d_AL_add3_2 ?_
  refine g_icmp_ne C d_AL_add3_3 (fun c_1 => absurd rfl c_1) (fun _ => ?_)
  refine g_aload_n C 0 rfl d_AL_add3_6 ?_
  refine g_callVP (rest := []) C (c_AL_grow0_n l g q0 q1 n mc f P hn hn2 hel) [0, 1] [2] rfl (by decide) mo_AL_grow0 mv_AL_grow0 kw_571 (by decide) (rcX 0 rfl rfl) rfl (Nat.le_of_ble_eq_true rfl) ⟨Nat.le_of_ble_eq_true rfl, Nat.le_of_ble_eq_true rfl⟩ d_AL_add3_7 (fun v2 X2 P2 q => ?_)
  obtain ⟨b, rfl, rfl, rfl⟩ := q
  refine g_ord (X1 := [(q0, .inr (0, [.int mc, .ref b, .int (nI n)])), (b, .inl (g.2.1 4, n + max 1 (n / 2), .inr (.inr (.inr (.inr (va_cpy f (fun _ => none) 0 0 n)))))), (v, .inr (3, [.int e1, .ref e2, .int e3, .int e4]))]) [1, 2, 0] (by decide) rfl ?_
  refine g_astore_n (lv1 := [(0, .ref q0), (1, .ref v), (2, .ref b), (3, .int (nI n))]) C d_AL_add3_10 [1, 2, 0, 3] (by decide) rfl ?_
  refine g_aload_n C 2 rfl d_AL_add3_11 ?_
  refine g_iload_n C 3 rfl d_AL_add3_12 ?_
  refine g_aload_n C 1 rfl d_AL_add3_13 ?_
  refine g_qast (X1 := [(q0, .inr (0, [.int mc, .ref b, .int (nI n)])), (b, .inl (g.2.1 4, n + max 1 (n / 2), .inr (.inr (.inr (.inr (va_up (va_cpy f (fun _ => none) 0 0 n) (Int32.toNatClampNeg (nI n)) (some v))))))), (v, .inr (3, [.int e1, .ref e2, .int e3, .int e4]))]) C 1 2 rfl rfl rfl kw_1213 (vp_in_nI (by omega) (by omega)) rfl d_AL_add3_14 ?_
  refine g_eq (X1 := [(q0, .inr (0, [.int mc, .ref b, .int (nI n)])), (b, .inl (g.2.1 4, n + max 1 (n / 2), .inr (.inr (.inr (.inr (va_up (va_cpy f (fun _ => none) 0 0 n) n (some v))))))), (v, .inr (3, [.int e1, .ref e2, .int e3, .int e4]))]) rfl (by rw [nI_clamp (by omega)]) ?_
  refine g_aload_n C 0 rfl d_AL_add3_15 ?_
  refine g_iload_n C 3 rfl d_AL_add3_16 ?_
  refine g_iconst (v := 1) C rfl d_AL_add3_17 ?_
  refine g_iadd C d_AL_add3_18 ?_
  refine g_eq (st1 := [.int (nI (n + 1)), .ref q0]) (congrArg (fun z => Value.int z :: [.ref q0]) (nI_add n 1)) rfl ?_
  refine g_put (X1 := [(q0, .inr (0, [.int mc, .ref b, .int (nI (n + 1))])), (b, .inl (g.2.1 4, n + max 1 (n / 2), .inr (.inr (.inr (.inr (va_up (va_cpy f (fun _ => none) 0 0 n) n (some v))))))), (v, .inr (3, [.int e1, .ref e2, .int e3, .int e4]))]) C 0 rfl rfl in_AL 2 (by decide) ok_AL nm_AL kw_257 rfl rfl rfl (Nat.le_of_ble_eq_true rfl) rfl d_AL_add3_19 ?_
  exact g_vret C rfl ⟨b, rfl, rfl, rfl⟩ (by first | decide | (dsimp only; omega)) (by first | decide | (dsimp only; omega)) d_AL_add3_22

set_option maxHeartbeats 4000000 in
set_option maxRecDepth 100000 in
theorem c_AL_add_rFk (l : Launch) (g : Gx) (q0 q1 n cp : Nat) (mc : Int32) (f : Nat → Option Nat) (v e2 : Nat) (e1 e3 e4 : Int32) (P : va_W) (hn : n < cp) (hc : cp ≤ 1000) : MP l g y_AL_add b_AL_add 2 (some FieldType.boolean) ({ frames := 6, cells := 1, slots := 60, locals := 150 }) [.ref q0, .ref v] [(q0, .inr (0, [.int mc, .ref q1, .int (nI n)])), (q1, .inl (g.2.1 4, cp, .inr (.inr (.inr (.inr f))))), (v, .inr (3, [.int e1, .ref e2, .int e3, .int e4]))] P (fun v2 X2 P2 => v2 = some (.int 1) ∧ X2 = [(q0, .inr (0, [.int (mc + 1), .ref q1, .int (nI (n + 1))])), (q1, .inl (g.2.1 4, cp, .inr (.inr (.inr (.inr (va_up f n (some v))))))), (v, .inr (3, [.int e1, .ref e2, .int e3, .int e4]))] ∧ P2 = P) := by
  refine MP.of (by decide) (Nat.le_of_ble_eq_true rfl) (fun κ C => ?_)
  have C : zC κ l g ({ frames := 6, cells := 1, slots := 60, locals := 150 }) b_AL_add 2 "java/util/ArrayList" "add" (some FieldType.boolean) _ := C
  refine g_lv (lv1 := [(0, .ref q0), (1, .ref v)]) [0, 1] rfl ?_
  refine g_aload_n C 0 rfl d_AL_add_0 ?_
  refine g_dup C rfl d_AL_add_1 ?_
  refine g_getS C 0 rfl rfl in_AL 0 (by decide) kw_259 kw_260 rfl d_AL_add_2 ?_
  refine g_iconst (v := 1) C rfl d_AL_add_5 ?_
  refine g_iadd C d_AL_add_6 ?_
  refine g_putS (X1 := [(q0, .inr (0, [.int (mc + 1), .ref q1, .int (nI n)])), (q1, .inl (g.2.1 4, cp, .inr (.inr (.inr (.inr f))))), (v, .inr (3, [.int e1, .ref e2, .int e3, .int e4]))]) C 0 rfl rfl in_AL 0 (by decide) ok_AL nm_AL kw_259 kw_260 rfl rfl rfl (Nat.le_of_ble_eq_true rfl) rfl d_AL_add_7 ?_
  refine g_aload_n C 0 rfl d_AL_add_10 ?_
  refine g_aload_n C 1 rfl d_AL_add_11 ?_
  refine g_aload_n C 0 rfl d_AL_add_12 ?_
  refine g_get C 0 rfl rfl in_AL 1 (by decide) kw_256 rfl d_AL_add_13 ?_
  refine g_aload_n C 0 rfl d_AL_add_16 ?_
  refine g_get C 0 rfl rfl in_AL 2 (by decide) kw_257 rfl d_AL_add_17 ?_
  refine g_callVP (rest := []) C (c_AL_add3_rFk l g q0 q1 n cp (mc + 1) f v e2 e1 e3 e4 P (by first | assumption | omega | exact nI_pos (by omega)) (by first | assumption | omega | exact nI_pos (by omega))) [0, 1, 2] [] rfl (by decide) mo_AL_add3 mv_AL_add3 kw_567 (by decide) (rcX 0 rfl rfl) rfl (Nat.le_of_ble_eq_true rfl) ⟨Nat.le_of_ble_eq_true rfl, Nat.le_of_ble_eq_true rfl⟩ d_AL_add_20 (fun v2 X2 P2 q => ?_)
  obtain ⟨rfl, rfl, rfl⟩ := q
  refine g_ord (X1 := [(q0, .inr (0, [.int (mc + 1), .ref q1, .int (nI (n + 1))])), (q1, .inl (g.2.1 4, cp, .inr (.inr (.inr (.inr (va_up f n (some v))))))), (v, .inr (3, [.int e1, .ref e2, .int e3, .int e4]))]) [0, 1, 2] (by decide) rfl ?_
  refine g_iconst (v := 1) C rfl d_AL_add_23 ?_
  exact g_zret C (Or.inr rfl) rfl ⟨rfl, rfl, rfl⟩ (by first | decide | (dsimp only; omega)) (by first | decide | (dsimp only; omega)) d_AL_add_24

set_option maxHeartbeats 4000000 in
set_option maxRecDepth 100000 in
theorem c_AL_add_eFk (l : Launch) (g : Gx) (q0 : Nat) (mc : Int32) (v e2 : Nat) (e1 e3 e4 : Int32) (P : va_W) : MP l g y_AL_add b_AL_add 2 (some FieldType.boolean) ({ frames := 6, cells := 1, slots := 60, locals := 150 }) [.ref q0, .ref v] [(q0, .inr (0, [.int mc, .ref g.2.2.1, .int 0])), (v, .inr (3, [.int e1, .ref e2, .int e3, .int e4]))] P (fun v2 X2 P2 => ∃ b : Nat, v2 = some (.int 1) ∧ X2 = [(q0, .inr (0, [.int (mc + 1), .ref b, .int 1])), (b, .inl (g.2.1 4, 10, .inr (.inr (.inr (.inr (va_up (fun _ => none) 0 (some v))))))), (v, .inr (3, [.int e1, .ref e2, .int e3, .int e4]))] ∧ P2 = P) := by
  refine MP.of (by decide) (Nat.le_of_ble_eq_true rfl) (fun κ C => ?_)
  have C : zC κ l g ({ frames := 6, cells := 1, slots := 60, locals := 150 }) b_AL_add 2 "java/util/ArrayList" "add" (some FieldType.boolean) _ := C
  refine g_lv (lv1 := [(0, .ref q0), (1, .ref v)]) [0, 1] rfl ?_
  refine g_aload_n C 0 rfl d_AL_add_0 ?_
  refine g_dup C rfl d_AL_add_1 ?_
  refine g_getS C 0 rfl rfl in_AL 0 (by decide) kw_259 kw_260 rfl d_AL_add_2 ?_
  refine g_iconst (v := 1) C rfl d_AL_add_5 ?_
  refine g_iadd C d_AL_add_6 ?_
  refine g_putS (X1 := [(q0, .inr (0, [.int (mc + 1), .ref g.2.2.1, .int 0])), (v, .inr (3, [.int e1, .ref e2, .int e3, .int e4]))]) C 0 rfl rfl in_AL 0 (by decide) ok_AL nm_AL kw_259 kw_260 rfl rfl rfl (Nat.le_of_ble_eq_true rfl) rfl d_AL_add_7 ?_
  refine g_aload_n C 0 rfl d_AL_add_10 ?_
  refine g_aload_n C 1 rfl d_AL_add_11 ?_
  refine g_aload_n C 0 rfl d_AL_add_12 ?_
  refine g_get C 0 rfl rfl in_AL 1 (by decide) kw_256 rfl d_AL_add_13 ?_
  refine g_aload_n C 0 rfl d_AL_add_16 ?_
  refine g_get C 0 rfl rfl in_AL 2 (by decide) kw_257 rfl d_AL_add_17 ?_
  refine g_callVP (rest := []) C (c_AL_add3_eFk l g q0 (mc + 1) v e2 e1 e3 e4 P) [0, 1] [] rfl (by decide) mo_AL_add3 mv_AL_add3 kw_567 (by decide) (rcX 0 rfl rfl) rfl (Nat.le_of_ble_eq_true rfl) ⟨Nat.le_of_ble_eq_true rfl, Nat.le_of_ble_eq_true rfl⟩ d_AL_add_20 (fun v2 X2 P2 q => ?_)
  obtain ⟨b, rfl, rfl, rfl⟩ := q
  refine g_ord (X1 := [(q0, .inr (0, [.int (mc + 1), .ref b, .int 1])), (b, .inl (g.2.1 4, 10, .inr (.inr (.inr (.inr (va_up (fun _ => none) 0 (some v))))))), (v, .inr (3, [.int e1, .ref e2, .int e3, .int e4]))]) [0, 1, 2] (by decide) rfl ?_
  refine g_iconst (v := 1) C rfl d_AL_add_23 ?_
  exact g_zret C (Or.inr rfl) rfl ⟨b, rfl, rfl, rfl⟩ (by first | decide | (dsimp only; omega)) (by first | decide | (dsimp only; omega)) d_AL_add_24

set_option maxHeartbeats 4000000 in
set_option maxRecDepth 100000 in
theorem c_AL_add_gFk (l : Launch) (g : Gx) (q0 q1 n : Nat) (mc : Int32) (f : Nat → Option Nat) (v e2 : Nat) (e1 e3 e4 : Int32) (P : va_W) (hn : 0 < n) (hn2 : n ≤ 40) (hel : elk P f n) : MP l g y_AL_add b_AL_add 2 (some FieldType.boolean) ({ frames := 6, cells := 1, slots := 60, locals := 150 }) [.ref q0, .ref v] [(q0, .inr (0, [.int mc, .ref q1, .int (nI n)])), (q1, .inl (g.2.1 4, n, .inr (.inr (.inr (.inr f))))), (v, .inr (3, [.int e1, .ref e2, .int e3, .int e4]))] P (fun v2 X2 P2 => ∃ b : Nat, v2 = some (.int 1) ∧ X2 = [(q0, .inr (0, [.int (mc + 1), .ref b, .int (nI (n + 1))])), (b, .inl (g.2.1 4, n + max 1 (n / 2), .inr (.inr (.inr (.inr (va_up (va_cpy f (fun _ => none) 0 0 n) n (some v))))))), (v, .inr (3, [.int e1, .ref e2, .int e3, .int e4]))] ∧ P2 = P) := by
  refine MP.of (by decide) (Nat.le_of_ble_eq_true rfl) (fun κ C => ?_)
  have C : zC κ l g ({ frames := 6, cells := 1, slots := 60, locals := 150 }) b_AL_add 2 "java/util/ArrayList" "add" (some FieldType.boolean) _ := C
  refine g_lv (lv1 := [(0, .ref q0), (1, .ref v)]) [0, 1] rfl ?_
  refine g_aload_n C 0 rfl d_AL_add_0 ?_
  refine g_dup C rfl d_AL_add_1 ?_
  refine g_getS C 0 rfl rfl in_AL 0 (by decide) kw_259 kw_260 rfl d_AL_add_2 ?_
  refine g_iconst (v := 1) C rfl d_AL_add_5 ?_
  refine g_iadd C d_AL_add_6 ?_
  refine g_putS (X1 := [(q0, .inr (0, [.int (mc + 1), .ref q1, .int (nI n)])), (q1, .inl (g.2.1 4, n, .inr (.inr (.inr (.inr f))))), (v, .inr (3, [.int e1, .ref e2, .int e3, .int e4]))]) C 0 rfl rfl in_AL 0 (by decide) ok_AL nm_AL kw_259 kw_260 rfl rfl rfl (Nat.le_of_ble_eq_true rfl) rfl d_AL_add_7 ?_
  refine g_aload_n C 0 rfl d_AL_add_10 ?_
  refine g_aload_n C 1 rfl d_AL_add_11 ?_
  refine g_aload_n C 0 rfl d_AL_add_12 ?_
  refine g_get C 0 rfl rfl in_AL 1 (by decide) kw_256 rfl d_AL_add_13 ?_
  refine g_aload_n C 0 rfl d_AL_add_16 ?_
  refine g_get C 0 rfl rfl in_AL 2 (by decide) kw_257 rfl d_AL_add_17 ?_
  refine g_callVP (rest := []) C (c_AL_add3_gFk l g q0 q1 n (mc + 1) f v e2 e1 e3 e4 P hn hn2 hel) [0, 1, 2] [] rfl (by decide) mo_AL_add3 mv_AL_add3 kw_567 (by decide) (rcX 0 rfl rfl) rfl (Nat.le_of_ble_eq_true rfl) ⟨Nat.le_of_ble_eq_true rfl, Nat.le_of_ble_eq_true rfl⟩ d_AL_add_20 (fun v2 X2 P2 q => ?_)
  obtain ⟨b, rfl, rfl, rfl⟩ := q
  refine g_ord (X1 := [(q0, .inr (0, [.int (mc + 1), .ref b, .int (nI (n + 1))])), (b, .inl (g.2.1 4, n + max 1 (n / 2), .inr (.inr (.inr (.inr (va_up (va_cpy f (fun _ => none) 0 0 n) n (some v))))))), (v, .inr (3, [.int e1, .ref e2, .int e3, .int e4]))]) [0, 1, 2] (by decide) rfl ?_
  refine g_iconst (v := 1) C rfl d_AL_add_23 ?_
  exact g_zret C (Or.inr rfl) rfl ⟨b, rfl, rfl, rfl⟩ (by first | decide | (dsimp only; omega)) (by first | decide | (dsimp only; omega)) d_AL_add_24

