section GSF
variable {κ : Kx} {l : Launch} {g : Gx} {R : Room} {cc : ByteArray} {nL : Nat} {own name : String} {ret : Option FieldType} {E : Ex} {cs ss pc q : Nat} {lv : List (Nat × Value)} {st : List Value} {X P : va_W}
theorem g_getS (C : zC κ l g R cc nL own name ret E) {a ci N index : Nat} {fs : List Value} {Cn ref : String} {T : u_T} {v : Value} (i : Nat) (he : X[i]? = some (a, .inr (ci, fs))) (hc : vwCl[ci]? = some (Cn, T, N)) (hin : ∀ w ∈ u_ws Cn T N, w ∈ big) (f : Nat) (hf : f < N) (hw : Cond.fieldLink own index ref (T f).2.1 (T f).2.2.1 ∈ big) (hs : Cond.sameField ref (T f).1 (T f).2.1 (T f).2.2.1 ∈ big) (hv : fs[f]? = some v) (hd : dz cc pc (.getfield index) 3 q) (k : G κ nL cs ss q lv (v :: st) X P) : G κ nL cs ss pc lv (.ref a :: st) X P := by
  obtain ⟨hd, rfl⟩ := hd
  intro H locs ls hl hP hD hS
  exact va_get C.2.2.2.1 C.2.2.2.2.1 C.2.2.2.2.2.2.2.1 hin C.2.2.2.2.2.2.1 C.K hP i (by rw [List.getElem?_append_left (List.getElem?_eq_some_iff.mp he).1]; exact he) hc f hf (C.w hw) (fun x h => u_same (C.w hs) x h) hv hd (k H locs ls hl hP hD hS)
theorem g_putS (C : zC κ l g R cc nL own name ret E) {a ci N index : Nat} {fs : List Value} {Cn ref : String} {T : u_T} {v : Value} {X1 : va_W} {ty0 : Nat → FieldType} (i : Nat) (he : X[i]? = some (a, .inr (ci, fs))) (hc : vwCl[ci]? = some (Cn, T, N)) (hin : ∀ w ∈ u_ws Cn T N, w ∈ big) (f : Nat) (hf : f < N) (hty : ∀ k, k < N → parseFieldDescriptor (T k).2.2.1 = some (ty0 k)) (hnm : ∀ a, a < N → ∀ b, b < N → a ≠ b → (T a).2.1 ≠ (T b).2.1) (hw : Cond.fieldLink own index ref (T f).2.1 (T f).2.2.1 ∈ big) (hs : Cond.sameField ref (T f).1 (T f).2.1 (T f).2.2.1 ∈ big) (hfin : (T f).2.2.2 = false) (hn : narrow (ty0 f) v = v) (hfit : fits (ty0 f) v = true) (hlf : f < fs.length) (hX : X.set i (a, .inr (ci, fs.set f v)) = X1) (hd : dz cc pc (.putfield index) 3 q) (k : G κ nL cs ss q lv st X1 P) : G κ nL cs ss pc lv (v :: .ref a :: st) X P := by
  obtain ⟨hd, rfl⟩ := hd
  intro H locs ls hl hP hD hS
  refine va_put C.2.2.2.1 C.2.2.2.2.1 C.2.2.2.2.2.2.2.1 hin ty0 hty hnm C.2.2.2.2.2.2.1 C.K hP hD hS i (by rw [List.getElem?_append_left (List.getElem?_eq_some_iff.mp he).1]; exact he) hc f hf (C.w hw) (fun x h => u_same (C.w hs) x h) hfin (hty f hf) hn hfit hlf hd (fun H1 l1 hP1 hD1 hS1 => ?_)
  rw [List.set_append_left _ _ (List.getElem?_eq_some_iff.mp he).1, hX] at hP1 hD1
  exact k H1 l1 ls hl hP1 hD1 hS1
end GSF

set_option maxHeartbeats 4000000 in
set_option maxRecDepth 100000 in
theorem c_Pr_checkIndex (l : Launch) (g : Gx) (i n : Nat) (hi : i < n) (hn : n ≤ 1000) : M0 l g y_Pr_checkIndex b_Pr_checkIndex 3 (some FieldType.int) ({ frames := 1, cells := 0, slots := 0, locals := 20 }) [.int (nI i), .int (nI n), .null] [] (some (.int (nI i))) [] := by
  refine MP.of (by decide) (Nat.le_of_ble_eq_true rfl) (fun κ C => ?_)
  have C : zC κ l g ({ frames := 1, cells := 0, slots := 0, locals := 20 }) b_Pr_checkIndex 3 "jdk/internal/util/Preconditions" "checkIndex" (some FieldType.int) _ := C
  refine g_lv (lv1 := [(0, .int (nI i)), (1, .int (nI n)), (2, .null)]) [0, 1, 2] rfl ?_
  refine g_iload_n C 0 rfl d_Pr_checkIndex_0 ?_
  refine g_if_lt C d_Pr_checkIndex_1 (fun c_1 => absurd c_1 (nI_pos (by omega))) (fun _ => ?_)
  refine g_iload_n C 0 rfl d_Pr_checkIndex_4 ?_
  refine g_iload_n C 1 rfl d_Pr_checkIndex_5 ?_
  refine g_icmp_lt C d_Pr_checkIndex_6 (fun _ => ?_) (fun c_2 => absurd (nI_lt hi (by omega)) c_2)
  refine g_iload_n C 0 rfl d_Pr_checkIndex_16 ?_
  exact g_iret C rfl ⟨rfl, rfl, rfl⟩ (by decide) (by decide) d_Pr_checkIndex_17

set_option maxHeartbeats 4000000 in
set_option maxRecDepth 100000 in
theorem c_Ob_checkIndex (l : Launch) (g : Gx) (i n : Nat) (hi : i < n) (hn : n ≤ 1000) : M0 l g y_Ob_checkIndex b_Ob_checkIndex 2 (some FieldType.int) ({ frames := 2, cells := 0, slots := 0, locals := 42 }) [.int (nI i), .int (nI n)] [] (some (.int (nI i))) [] := by
  refine MP.of (by decide) (Nat.le_of_ble_eq_true rfl) (fun κ C => ?_)
  have C : zC κ l g ({ frames := 2, cells := 0, slots := 0, locals := 42 }) b_Ob_checkIndex 2 "java/util/Objects" "checkIndex" (some FieldType.int) _ := C
  refine g_lv (lv1 := [(0, .int (nI i)), (1, .int (nI n))]) [0, 1] rfl ?_
  refine g_iload_n C 0 rfl d_Ob_checkIndex_0 ?_
  refine g_iload_n C 1 rfl d_Ob_checkIndex_1 ?_
  refine g_null C d_Ob_checkIndex_2 ?_
  refine g_callS0 (rest := []) (Xn := []) C (c_Pr_checkIndex l g i n (by first | assumption | omega | exact nI_pos (by omega)) (by first | assumption | omega | exact nI_pos (by omega))) [] [] [] rfl (by decide) (by decide) rfl mo_Pr_checkIndex ms_Pr_checkIndex kw_684 (by decide) rfl (Nat.le_of_ble_eq_true rfl) ⟨Nat.le_of_ble_eq_true rfl, Nat.le_of_ble_eq_true rfl⟩ d_Ob_checkIndex_3 ?_
  exact g_iret C rfl ⟨rfl, rfl, rfl⟩ (by decide) (by decide) d_Ob_checkIndex_6

set_option maxHeartbeats 4000000 in
set_option maxRecDepth 100000 in
theorem c_AL_size (l : Launch) (g : Gx) (q0 q1 : Nat) (mc n : Int32) : M0 l g y_AL_size b_AL_size 1 (some FieldType.int) ({ frames := 0, cells := 0, slots := 0, locals := 0 }) [.ref q0] [(q0, .inr (0, [.int mc, .ref q1, .int n]))] (some (.int n)) [(q0, .inr (0, [.int mc, .ref q1, .int n]))] := by
  refine MP.of (by decide) (Nat.le_of_ble_eq_true rfl) (fun κ C => ?_)
  have C : zC κ l g ({ frames := 0, cells := 0, slots := 0, locals := 0 }) b_AL_size 1 "java/util/ArrayList" "size" (some FieldType.int) _ := C
  refine g_lv (lv1 := [(0, .ref q0)]) [0] rfl ?_
  refine g_aload_n C 0 rfl d_AL_size_0 ?_
  refine g_get C 0 rfl rfl in_AL 2 (by decide) kw_257 rfl d_AL_size_1 ?_
  exact g_iret C rfl ⟨rfl, rfl, rfl⟩ (by decide) (by decide) d_AL_size_4

set_option maxHeartbeats 4000000 in
set_option maxRecDepth 100000 in
theorem c_AL_elementData (l : Launch) (g : Gx) (q0 q1 n cp i x : Nat) (mc : Int32) (af : Nat → Option Nat) (P : va_W) (hi : i < n) (hn : n ≤ cp) (hc : cp ≤ 1000) (hx : af i = some x) : MP l g y_AL_elementData b_AL_elementData 2 (some (FieldType.object "java/lang/Object")) ({ frames := 0, cells := 0, slots := 0, locals := 0 }) [.ref q0, .int (nI i)] [(q0, .inr (0, [.int mc, .ref q1, .int (nI n)])), (q1, .inl (g.2.1 4, cp, .inr (.inr (.inr (.inr af)))))] P (fun v2 X2 P2 => v2 = some (.ref x) ∧ X2 = [(q0, .inr (0, [.int mc, .ref q1, .int (nI n)])), (q1, .inl (g.2.1 4, cp, .inr (.inr (.inr (.inr af)))))] ∧ P2 = P) := by
  refine MP.of (by decide) (Nat.le_of_ble_eq_true rfl) (fun κ C => ?_)
  have C : zC κ l g ({ frames := 0, cells := 0, slots := 0, locals := 0 }) b_AL_elementData 2 "java/util/ArrayList" "elementData" (some (FieldType.object "java/lang/Object")) _ := C
  refine g_lv (lv1 := [(0, .ref q0), (1, .int (nI i))]) [0, 1] rfl ?_
  refine g_aload_n C 0 rfl d_AL_elementData_0 ?_
  refine g_get C 0 rfl rfl in_AL 1 (by decide) kw_256 rfl d_AL_elementData_1 ?_
  refine g_iload_n C 1 rfl d_AL_elementData_4 ?_
  refine g_qald C 1 rfl (vp_in_nI (by omega) (by omega)) (by rw [nI_clamp (by omega)]; exact hx) d_AL_elementData_5 ?_
  exact g_aret C (Or.inl ⟨_, rfl⟩) rfl ⟨rfl, rfl, rfl⟩ (by first | decide | simp | omega) (by first | decide | simp | omega) d_AL_elementData_6

set_option maxHeartbeats 4000000 in
set_option maxRecDepth 100000 in
theorem c_AL_get (l : Launch) (g : Gx) (q0 q1 n cp i x : Nat) (mc : Int32) (af : Nat → Option Nat) (P : va_W) (hi : i < n) (hn : n ≤ cp) (hc : cp ≤ 1000) (hx : af i = some x) : MP l g y_AL_get b_AL_get 2 (some (FieldType.object "java/lang/Object")) ({ frames := 3, cells := 0, slots := 0, locals := 63 }) [.ref q0, .int (nI i)] [(q0, .inr (0, [.int mc, .ref q1, .int (nI n)])), (q1, .inl (g.2.1 4, cp, .inr (.inr (.inr (.inr af)))))] P (fun v2 X2 P2 => v2 = some (.ref x) ∧ X2 = [(q0, .inr (0, [.int mc, .ref q1, .int (nI n)])), (q1, .inl (g.2.1 4, cp, .inr (.inr (.inr (.inr af)))))] ∧ P2 = P) := by
  refine MP.of (by decide) (Nat.le_of_ble_eq_true rfl) (fun κ C => ?_)
  have C : zC κ l g ({ frames := 3, cells := 0, slots := 0, locals := 63 }) b_AL_get 2 "java/util/ArrayList" "get" (some (FieldType.object "java/lang/Object")) _ := C
  refine g_lv (lv1 := [(0, .ref q0), (1, .int (nI i))]) [0, 1] rfl ?_
  refine g_iload_n C 1 rfl d_AL_get_0 ?_
  refine g_aload_n C 0 rfl d_AL_get_1 ?_
  refine g_get C 0 rfl rfl in_AL 2 (by decide) kw_257 rfl d_AL_get_2 ?_
  refine g_callS0 (rest := []) (Xn := [(q0, .inr (0, [.int mc, .ref q1, .int (nI n)])), (q1, .inl (g.2.1 4, cp, .inr (.inr (.inr (.inr af)))))]) C (c_Ob_checkIndex l g i n (by first | assumption | omega | exact nI_pos (by omega)) (by first | assumption | omega | exact nI_pos (by omega))) [] [0, 1] [0, 1] rfl (by decide) (by decide) rfl mo_Ob_checkIndex ms_Ob_checkIndex kw_681 (by decide) rfl (Nat.le_of_ble_eq_true rfl) ⟨Nat.le_of_ble_eq_true rfl, Nat.le_of_ble_eq_true rfl⟩ d_AL_get_5 ?_
  refine g_pop C rfl d_AL_get_8 ?_
  refine g_aload_n C 0 rfl d_AL_get_9 ?_
  refine g_iload_n C 1 rfl d_AL_get_10 ?_
  refine g_callVP (rest := []) C (c_AL_elementData l g q0 q1 n cp i x mc af P (by first | assumption | omega | exact nI_pos (by omega)) (by first | assumption | omega | exact nI_pos (by omega)) (by first | assumption | omega | exact nI_pos (by omega)) (by first | assumption | omega | exact nI_pos (by omega))) [0, 1] [] rfl (by decide) mo_AL_elementData mv_AL_elementData kw_687 (by decide) (rcX 0 rfl rfl) rfl (Nat.le_of_ble_eq_true rfl) ⟨Nat.le_of_ble_eq_true rfl, Nat.le_of_ble_eq_true rfl⟩ d_AL_get_11 (fun v2 X2 P2 q => ?_)
  obtain ⟨rfl, rfl, rfl⟩ := q
  refine g_ord (X1 := [(q0, .inr (0, [.int mc, .ref q1, .int (nI n)])), (q1, .inl (g.2.1 4, cp, .inr (.inr (.inr (.inr af)))))]) [0, 1] (by decide) rfl ?_
  exact g_aret C (Or.inl ⟨_, rfl⟩) rfl ⟨rfl, rfl, rfl⟩ (by first | decide | simp | omega) (by first | decide | simp | omega) d_AL_get_14

