theorem l_split {α : Type} {l : List α} {i : Nat} (h : i < l.length) : ∃ a r b, l = a ++ r :: b ∧ a.length = i := by
  refine ⟨l.take i, l[i], l.drop (i + 1), ?_, by simp; omega⟩
  rw [← List.drop_eq_getElem_cons h, List.take_append_drop]
def guA (fs : List FR) (i : Nat) : Int32 := match fs[i]? with
  | some r => r.2.2.2.1
  | none => 1
def lnA (fs : List FR) (i : Nat) : Nat := match fs[i]? with
  | some r => r.2.2.2.2.2.length
  | none => 0
def gvF : List FR → Nat → Int32 → List FR
  | [], _, _ => []
  | r :: fs, 0, d => (r.1, r.2.1, r.2.2.1, 1, d, r.2.2.2.2.2) :: fs
  | r :: fs, i + 1, d => r :: gvF fs i d
theorem guA_mid (a : List FR) (r : FR) (b : List FR) : guA (a ++ r :: b) a.length = r.2.2.2.1 := by simp [guA]
theorem lnA_mid (a : List FR) (r : FR) (b : List FR) : lnA (a ++ r :: b) a.length = r.2.2.2.2.2.length := by simp [lnA]
theorem gvF_mid (r : FR) (b : List FR) (d : Int32) : ∀ a : List FR, gvF (a ++ r :: b) a.length d = a ++ (r.1, r.2.1, r.2.2.1, 1, d, r.2.2.2.2.2) :: b
  | [] => rfl
  | x :: a => by
    show x :: gvF (a ++ r :: b) a.length d = x :: (a ++ (r.1, r.2.1, r.2.2.1, 1, d, r.2.2.2.2.2) :: b)
    rw [gvF_mid r b d a]
theorem gvF_len (d : Int32) : ∀ (fs : List FR) (i : Nat), (gvF fs i d).length = fs.length
  | [], _ => rfl
  | _ :: _, 0 => rfl
  | _ :: fs, i + 1 => congrArg (· + 1) (gvF_len d fs i)
theorem gvF_fad (d : Int32) : ∀ (fs : List FR) (i : Nat), fad (gvF fs i d) = fad fs
  | [], _ => rfl
  | _ :: _, 0 => rfl
  | r :: fs, i + 1 => congrArg (r.1 :: ·) (gvF_fad d fs i)
theorem gvF_fok {g : Gx} (d : Int32) : ∀ (fs : List FR) (i : Nat), (∀ r ∈ fs, fok g r) → ∀ r ∈ gvF fs i d, fok g r
  | [], _, h => h
  | x :: fs, 0, h => by
    intro r hr
    rcases List.mem_cons.mp hr with rfl | hr
    · exact h x (List.mem_cons.mpr (Or.inl rfl))
    · exact h r (List.mem_cons.mpr (Or.inr hr))
  | x :: fs, i + 1, h => by
    intro r hr
    rcases List.mem_cons.mp hr with rfl | hr
    · exact h r (List.mem_cons.mpr (Or.inl rfl))
    · exact gvF_fok d fs i (fun r h2 => h r (List.mem_cons.mpr (Or.inr h2))) r hr
set_option maxHeartbeats 4000000 in
set_option maxRecDepth 100000 in
theorem c_Fs_count (l : Launch) (g : Gx) (q7 k1 ka : Nat) (mc n : Int32) : M0 l g y_Fs_count b_Fs_count 1 (some FieldType.int) ({ frames := 1, cells := 0, slots := 0, locals := 20 }) [.ref q7] [(q7, .inr (5, [.ref k1])), (k1, .inr (0, [.int mc, .ref ka, .int n]))] (some (.int n)) [(q7, .inr (5, [.ref k1])), (k1, .inr (0, [.int mc, .ref ka, .int n]))] := by
  refine MP.of (by decide) (Nat.le_of_ble_eq_true rfl) (fun κ C => ?_)
  have C : zC κ l g ({ frames := 1, cells := 0, slots := 0, locals := 20 }) b_Fs_count 1 "TombLane$Flakes" "count" (some FieldType.int) _ := C
  refine g_lv (lv1 := [(0, .ref q7)]) [0] rfl ?_
  refine g_aload_n C 0 rfl d_Fs_count_0 ?_
  refine g_get C 0 rfl rfl in_Fs 0 (by decide) kw_268 rfl d_Fs_count_1 ?_
  refine g_callV0 (rest := []) (Xn := [(q7, .inr (5, [.ref k1])), (k1, .inr (0, [.int mc, .ref ka, .int n]))]) C (c_AL_size l g k1 ka mc n) [1] [0] [0, 1] rfl (by decide) (by decide) rfl mo_AL_size mv_AL_size kw_467 (by decide) (rcX 1 rfl rfl) rfl (Nat.le_of_ble_eq_true rfl) ⟨Nat.le_of_ble_eq_true rfl, Nat.le_of_ble_eq_true rfl⟩ d_Fs_count_4 ?_
  exact g_iret C rfl ⟨rfl, rfl, rfl⟩ (by decide) (by decide) d_Fs_count_7

set_option maxHeartbeats 4000000 in
set_option maxRecDepth 100000 in
theorem c_Fs_isFull (l : Launch) (g : Gx) (q7 k1 ka c : Nat) (mc : Int32) (hc : c ≤ 40) : M0 l g y_Fs_isFull b_Fs_isFull 1 (some FieldType.boolean) ({ frames := 1, cells := 0, slots := 0, locals := 20 }) [.ref q7] [(q7, .inr (5, [.ref k1])), (k1, .inr (0, [.int mc, .ref ka, .int (nI c)]))] (some (.int (zb (40 ≤ c)))) [(q7, .inr (5, [.ref k1])), (k1, .inr (0, [.int mc, .ref ka, .int (nI c)]))] := by
  refine MP.of (by decide) (Nat.le_of_ble_eq_true rfl) (fun κ C => ?_)
  have C : zC κ l g ({ frames := 1, cells := 0, slots := 0, locals := 20 }) b_Fs_isFull 1 "TombLane$Flakes" "isFull" (some FieldType.boolean) _ := C
  refine g_lv (lv1 := [(0, .ref q7)]) [0] rfl ?_
  refine g_aload_n C 0 rfl d_Fs_isFull_0 ?_
  refine g_get C 0 rfl rfl in_Fs 0 (by decide) kw_268 rfl d_Fs_isFull_1 ?_
  refine g_callV0 (rest := []) (Xn := [(q7, .inr (5, [.ref k1])), (k1, .inr (0, [.int mc, .ref ka, .int (nI c)]))]) C (c_AL_size l g k1 ka mc (nI c)) [1] [0] [0, 1] rfl (by decide) (by decide) rfl mo_AL_size mv_AL_size kw_467 (by decide) (rcX 1 rfl rfl) rfl (Nat.le_of_ble_eq_true rfl) ⟨Nat.le_of_ble_eq_true rfl, Nat.le_of_ble_eq_true rfl⟩ d_Fs_isFull_4 ?_
  refine g_bipush (v := 40) C rfl d_Fs_isFull_7 ?_
  refine g_icmp_lt C d_Fs_isFull_9 (fun c_1 => ?_) (fun c_1 => ?_)
  · skip
    have n_1 : c < 40 := (nI_ltI (a := c) (b := 40) (by omega) (by omega)).mp c_1
    refine g_iconst (v := 0) C rfl d_Fs_isFull_16 ?_
    exact g_zret C (Or.inl rfl) rfl ⟨congrArg (fun z => some (Value.int z)) (by simp [zb, c_1, Int32.not_le.mpr c_1, n_1, Nat.not_le.mpr n_1]), rfl, rfl⟩ (by decide) (by decide) d_Fs_isFull_17
  · skip
    have n_1 : 40 ≤ c := Nat.not_lt.mp (fun z => c_1 ((nI_ltI (a := c) (b := 40) (by omega) (by omega)).mpr z))
    refine g_iconst (v := 1) C rfl d_Fs_isFull_12 ?_
    refine g_goto C d_Fs_isFull_13 ?_
    exact g_zret C (Or.inr rfl) rfl ⟨congrArg (fun z => some (Value.int z)) (by simp [zb, c_1, Int32.not_lt.mp c_1, n_1, Nat.not_lt.mpr n_1]), rfl, rfl⟩ (by decide) (by decide) d_Fs_isFull_17

set_option maxHeartbeats 4000000 in
set_option maxRecDepth 100000 in
theorem c_Fs_keep (l : Launch) (g : Gx) (q7 v f1 c : Nat) (fd gu on : Int32) (K : AR) (ds : List Nat) (P : va_W) (ha : okA g K ds) (hcd : ds.length = c) (hc : c ≤ 40) (hel : elk P K.2.2.2.2 c) : MP l g y_Fs_keep b_Fs_keep 2 (some FieldType.int) ({ frames := 7, cells := 1, slots := 60, locals := 171 }) [.ref q7, .ref v] [(q7, .inr (5, [.ref K.1])), (K.1, .inr (0, [.int K.2.1, .ref K.2.2.1, .int (nI c)])), (v, .inr (3, [.int fd, .ref f1, .int gu, .int on]))] (arc g K c ++ P) (fun v2 X2 P2 => ∃ (b2 : Int32 × Nat × Nat × (Nat → Option Nat)), (okA g (K.1, b2) (ds ++ [v])) ∧ v2 = some (.int (nI c)) ∧ X2 = [(q7, .inr (5, [.ref K.1])), (K.1, .inr (0, [.int b2.1, .ref b2.2.1, .int (nI (c + 1))])), (v, .inr (3, [.int fd, .ref f1, .int gu, .int on]))] ∧ P2 = arc g (K.1, b2) (c + 1) ++ P) := by
  refine MP.of (by decide) (Nat.le_of_ble_eq_true rfl) (fun κ C => ?_)
  have C : zC κ l g ({ frames := 7, cells := 1, slots := 60, locals := 171 }) b_Fs_keep 2 "TombLane$Flakes" "keep" (some FieldType.int) _ := C
  refine g_lv (lv1 := [(0, .ref q7), (1, .ref v)]) [0, 1] rfl ?_
  refine g_aload_n C 0 rfl d_Fs_keep_0 ?_
  refine g_get C 0 rfl rfl in_Fs 0 (by decide) kw_268 rfl d_Fs_keep_1 ?_
  refine g_aload_n C 1 rfl d_Fs_keep_4 ?_
  refine g_callVP (rest := []) C (c_AL_add_uFk l g K c ds v f1 fd gu on P ha hcd hc hel) [1, 2] [0] rfl (by decide) mo_AL_add mv_AL_add kw_663 (by decide) (rcX 1 rfl rfl) rfl (Nat.le_of_ble_eq_true rfl) ⟨Nat.le_of_ble_eq_true rfl, Nat.le_of_ble_eq_true rfl⟩ d_Fs_keep_5 (fun v2 X2 P2 q => ?_)
  obtain ⟨b2, hok, rfl, rfl, rfl⟩ := q
  refine g_ord (X1 := [(q7, .inr (5, [.ref K.1])), (K.1, .inr (0, [.int b2.1, .ref b2.2.1, .int (nI (c + 1))])), (v, .inr (3, [.int fd, .ref f1, .int gu, .int on]))]) [0, 1, 2] (by decide) rfl ?_
  refine g_pop C rfl d_Fs_keep_8 ?_
  refine g_aload_n C 0 rfl d_Fs_keep_9 ?_
  refine g_get C 0 rfl rfl in_Fs 0 (by decide) kw_268 rfl d_Fs_keep_10 ?_
  refine g_callV0 (rest := []) (Xn := [(q7, .inr (5, [.ref K.1])), (K.1, .inr (0, [.int b2.1, .ref b2.2.1, .int (nI (c + 1))])), (v, .inr (3, [.int fd, .ref f1, .int gu, .int on]))]) C (c_AL_size l g K.1 b2.2.1 b2.1 (nI (c + 1))) [1] [0, 2] [0, 2, 1] rfl (by decide) (by decide) rfl mo_AL_size mv_AL_size kw_467 (by decide) (rcX 1 rfl rfl) rfl (Nat.le_of_ble_eq_true rfl) ⟨Nat.le_of_ble_eq_true rfl, Nat.le_of_ble_eq_true rfl⟩ d_Fs_keep_13 ?_
  refine g_iconst (v := 1) C rfl d_Fs_keep_16 ?_
  refine g_isub C d_Fs_keep_17 ?_
  refine g_eq (st1 := [.int (nI c)]) (congrArg (fun z => Value.int z :: []) (nI_pred c)) rfl ?_
  exact g_iret C rfl ⟨b2, hok, rfl, rfl, rfl⟩ (by first | decide | (dsimp only; omega)) (by first | decide | (dsimp only; omega)) d_Fs_keep_18

theorem zb_no {p : Prop} [Decidable p] (h : ¬ p) : zb p = 0 := by simp [zb, h]
theorem zb_yes {p : Prop} [Decidable p] (h : p) : zb p = 1 := by simp [zb, h]
set_option maxHeartbeats 4000000 in
set_option maxRecDepth 100000 in
theorem c_Fs_giveUpOn (l : Launch) (g : Gx) (q7 : Nat) (K : AR) (fs : List FR) (p0 p1 : Int32) (P : va_W) (hl : fs.length ≤ 40) (hK : okA g K (fad fs)) : MP l g y_Fs_giveUpOn b_Fs_giveUpOn 3 (some FieldType.boolean) ({ frames := 4, cells := 0, slots := 0, locals := 84 }) [.ref q7, .int p0, .int p1] [(q7, .inr (5, [.ref K.1])), (K.1, .inr (0, [.int K.2.1, .ref K.2.2.1, .int (nI fs.length)]))] (arc g K fs.length ++ (fcs g fs ++ P)) (fun v2 X2 P2 => v2 = some (.int (zb (inB p0 (nI fs.length) = true ∧ guA fs p0.toNatClampNeg = 0))) ∧ X2 = [(q7, .inr (5, [.ref K.1])), (K.1, .inr (0, [.int K.2.1, .ref K.2.2.1, .int (nI fs.length)]))] ∧ P2 = arc g K fs.length ++ (fcs g (if inB p0 (nI fs.length) = true ∧ guA fs p0.toNatClampNeg = 0 then gvF fs p0.toNatClampNeg p1 else fs) ++ P)) := by
  refine MP.of (by decide) (Nat.le_of_ble_eq_true rfl) (fun κ C => ?_)
  have C : zC κ l g ({ frames := 4, cells := 0, slots := 0, locals := 84 }) b_Fs_giveUpOn 3 "TombLane$Flakes" "giveUpOn" (some FieldType.boolean) _ := C
  refine g_lv (lv1 := [(0, .ref q7), (1, .int p0), (2, .int p1)]) [0, 1, 2] rfl ?_
  refine g_iload_n C 1 rfl d_Fs_giveUpOn_0 ?_
  refine g_aload_n C 0 rfl d_Fs_giveUpOn_1 ?_
  refine g_get C 0 rfl rfl in_Fs 0 (by decide) kw_268 rfl d_Fs_giveUpOn_2 ?_
  refine g_callV0 (rest := [.int p0]) (Xn := [(q7, .inr (5, [.ref K.1])), (K.1, .inr (0, [.int K.2.1, .ref K.2.2.1, .int (nI fs.length)]))]) C (c_AL_size l g K.1 K.2.2.1 K.2.1 (nI fs.length)) [1] [0] [0, 1] rfl (by decide) (by decide) rfl mo_AL_size mv_AL_size kw_467 (by decide) (rcX 1 rfl rfl) rfl (Nat.le_of_ble_eq_true rfl) ⟨Nat.le_of_ble_eq_true rfl, Nat.le_of_ble_eq_true rfl⟩ d_Fs_giveUpOn_5 ?_
  refine g_callSN0 (rest := []) (Xn := [(q7, .inr (5, [.ref K.1])), (K.1, .inr (0, [.int K.2.1, .ref K.2.2.1, .int (nI fs.length)]))]) C (c_TL_isBelow l g p0 (nI fs.length)) [] [0, 1] [0, 1] rfl (by decide) (by decide) rfl mo_TL_isBelow ms_TL_isBelow kw_676 (by decide) rfl (Nat.le_of_ble_eq_true rfl) ⟨Nat.le_of_ble_eq_true rfl, Nat.le_of_ble_eq_true rfl⟩ d_Fs_giveUpOn_8 ?_
  refine g_if_eq C d_Fs_giveUpOn_11 (fun c_1 => ?_) (fun c_1 => ?_)
  · have c_1 := zb_0.mp c_1
    refine g_iconst (v := 0) C rfl d_Fs_giveUpOn_31 ?_
    exact g_zret C (Or.inl rfl) rfl ⟨(by simp [zb, c_1]), rfl, (by simp [c_1])⟩ (by first | decide | (dsimp only; omega)) (by first | decide | (dsimp only; omega)) d_Fs_giveUpOn_32
  · have c_1 := zb_n0.mp c_1
    obtain ⟨i, hi, rfl⟩ := (inB_iff (by omega)).mp c_1
    obtain ⟨a, r, b, he, hal⟩ := l_split hi
    subst hal
    have h0 : ¬ fs.length = 0 := by omega
    obtain ⟨h1, h2, h3⟩ := hK.2 (fun z => h0 (by simpa [fad] using congrArg List.length z))
    have h4 : fs.length ≤ K.2.2.2.1 := by simpa [fad] using h1
    have hx : K.2.2.2.2 a.length = some r.1 := by rw [h3 a.length (by simpa [fad] using hi)]; simp [fad, he]
    refine g_tl (X1 := [(q7, .inr (5, [.ref K.1])), (K.1, .inr (0, [.int K.2.1, .ref K.2.2.1, .int (nI fs.length)])), (K.2.2.1, .inl (g.2.1 4, K.2.2.2.1, .inr (.inr (.inr (.inr K.2.2.2.2)))))]) (P1 := fcs g fs ++ P) (by rw [arc_ne h0]; rfl) ?_
    rw [he]
    refine g_openF a r b ?_
    rw [← he]
    refine g_eq (X1 := [(q7, .inr (5, [.ref K.1])), (K.1, .inr (0, [.int K.2.1, .ref K.2.2.1, .int (nI fs.length)])), (K.2.2.1, .inl (g.2.1 4, K.2.2.2.1, .inr (.inr (.inr (.inr K.2.2.2.2))))), (r.1, .inr (3, [.int r.2.2.1, .ref r.2.1.1, .int r.2.2.2.1, .int r.2.2.2.2.1])), (r.2.1.1, .inr (0, [.int r.2.1.2.1, .ref r.2.1.2.2.1, .int (nI r.2.2.2.2.2.length)]))]) rfl rfl ?_
    refine g_aload_n C 0 rfl d_Fs_giveUpOn_14 ?_
    refine g_get C 0 rfl rfl in_Fs 0 (by decide) kw_268 rfl d_Fs_giveUpOn_15 ?_
    refine g_iload_n C 1 rfl d_Fs_giveUpOn_18 ?_
    refine g_callVP (rest := []) C (c_AL_get l g K.1 K.2.2.1 fs.length K.2.2.2.1 a.length r.1 K.2.1 K.2.2.2.2 (arc g r.2.1 r.2.2.2.2.2.length ++ (lcs g r.2.2.2.2.2 ++ (fcs g a ++ (fcs g b ++ P)))) (by omega) h4 h2 hx) [1, 2] [0, 3, 4] rfl (by decide) mo_AL_get mv_AL_get kw_677 (by decide) (rcX 1 rfl rfl) rfl (Nat.le_of_ble_eq_true rfl) ⟨Nat.le_of_ble_eq_true rfl, Nat.le_of_ble_eq_true rfl⟩ d_Fs_giveUpOn_19 (fun v2 X2 P2 q => ?_)
    obtain ⟨rfl, rfl, rfl⟩ := q
    refine g_ord (X1 := [(q7, .inr (5, [.ref K.1])), (K.1, .inr (0, [.int K.2.1, .ref K.2.2.1, .int (nI fs.length)])), (K.2.2.1, .inl (g.2.1 4, K.2.2.2.1, .inr (.inr (.inr (.inr K.2.2.2.2))))), (r.1, .inr (3, [.int r.2.2.1, .ref r.2.1.1, .int r.2.2.2.1, .int r.2.2.2.2.1])), (r.2.1.1, .inr (0, [.int r.2.1.2.1, .ref r.2.1.2.2.1, .int (nI r.2.2.2.2.2.length)]))]) [0, 3, 4, 1, 2] (by decide) rfl ?_
    refine g_cast (ci := 3) C kw_691 rfl (rcX 3 rfl rfl) d_Fs_giveUpOn_22 ?_
    refine g_getN C 3 rfl rfl in_Fk 2 (by decide) kw_485 rfl d_Fs_giveUpOn_25 ?_
    refine g_if_eq C d_Fs_giveUpOn_28 (fun c_2 => ?_) (fun c_2 => ?_)
    · skip
      refine g_aload_n C 0 rfl d_Fs_giveUpOn_33 ?_
      refine g_get C 0 rfl rfl in_Fs 0 (by decide) kw_268 rfl d_Fs_giveUpOn_34 ?_
      refine g_iload_n C 1 rfl d_Fs_giveUpOn_37 ?_
      refine g_callVP (rest := []) C (c_AL_get l g K.1 K.2.2.1 fs.length K.2.2.2.1 a.length r.1 K.2.1 K.2.2.2.2 (arc g r.2.1 r.2.2.2.2.2.length ++ (lcs g r.2.2.2.2.2 ++ (fcs g a ++ (fcs g b ++ P)))) (by omega) h4 h2 hx) [1, 2] [0, 3, 4] rfl (by decide) mo_AL_get mv_AL_get kw_677 (by decide) (rcX 1 rfl rfl) rfl (Nat.le_of_ble_eq_true rfl) ⟨Nat.le_of_ble_eq_true rfl, Nat.le_of_ble_eq_true rfl⟩ d_Fs_giveUpOn_38 (fun v2 X2 P2 q => ?_)
      obtain ⟨rfl, rfl, rfl⟩ := q
      refine g_ord (X1 := [(q7, .inr (5, [.ref K.1])), (K.1, .inr (0, [.int K.2.1, .ref K.2.2.1, .int (nI fs.length)])), (K.2.2.1, .inl (g.2.1 4, K.2.2.2.1, .inr (.inr (.inr (.inr K.2.2.2.2))))), (r.1, .inr (3, [.int r.2.2.1, .ref r.2.1.1, .int r.2.2.2.1, .int r.2.2.2.2.1])), (r.2.1.1, .inr (0, [.int r.2.1.2.1, .ref r.2.1.2.2.1, .int (nI r.2.2.2.2.2.length)]))]) [0, 3, 4, 1, 2] (by decide) rfl ?_
      refine g_cast (ci := 3) C kw_691 rfl (rcX 3 rfl rfl) d_Fs_giveUpOn_41 ?_
      refine g_iconst (v := 1) C rfl d_Fs_giveUpOn_44 ?_
      refine g_putN (X1 := [(q7, .inr (5, [.ref K.1])), (K.1, .inr (0, [.int K.2.1, .ref K.2.2.1, .int (nI fs.length)])), (K.2.2.1, .inl (g.2.1 4, K.2.2.2.1, .inr (.inr (.inr (.inr K.2.2.2.2))))), (r.1, .inr (3, [.int r.2.2.1, .ref r.2.1.1, .int 1, .int r.2.2.2.2.1])), (r.2.1.1, .inr (0, [.int r.2.1.2.1, .ref r.2.1.2.2.1, .int (nI r.2.2.2.2.2.length)]))]) C 3 rfl rfl in_Fk 2 (by decide) ok_Fk nm_Fk kw_485 rfl rfl rfl (Nat.le_of_ble_eq_true rfl) rfl d_Fs_giveUpOn_45 ?_
      refine g_aload_n C 0 rfl d_Fs_giveUpOn_48 ?_
      refine g_get C 0 rfl rfl in_Fs 0 (by decide) kw_268 rfl d_Fs_giveUpOn_49 ?_
      refine g_iload_n C 1 rfl d_Fs_giveUpOn_52 ?_
      refine g_callVP (rest := []) C (c_AL_get l g K.1 K.2.2.1 fs.length K.2.2.2.1 a.length r.1 K.2.1 K.2.2.2.2 (arc g r.2.1 r.2.2.2.2.2.length ++ (lcs g r.2.2.2.2.2 ++ (fcs g a ++ (fcs g b ++ P)))) (by omega) h4 h2 hx) [1, 2] [0, 3, 4] rfl (by decide) mo_AL_get mv_AL_get kw_677 (by decide) (rcX 1 rfl rfl) rfl (Nat.le_of_ble_eq_true rfl) ⟨Nat.le_of_ble_eq_true rfl, Nat.le_of_ble_eq_true rfl⟩ d_Fs_giveUpOn_53 (fun v2 X2 P2 q => ?_)
      obtain ⟨rfl, rfl, rfl⟩ := q
      refine g_ord (X1 := [(q7, .inr (5, [.ref K.1])), (K.1, .inr (0, [.int K.2.1, .ref K.2.2.1, .int (nI fs.length)])), (K.2.2.1, .inl (g.2.1 4, K.2.2.2.1, .inr (.inr (.inr (.inr K.2.2.2.2))))), (r.1, .inr (3, [.int r.2.2.1, .ref r.2.1.1, .int 1, .int r.2.2.2.2.1])), (r.2.1.1, .inr (0, [.int r.2.1.2.1, .ref r.2.1.2.2.1, .int (nI r.2.2.2.2.2.length)]))]) [0, 3, 4, 1, 2] (by decide) rfl ?_
      refine g_cast (ci := 3) C kw_691 rfl (rcX 3 rfl rfl) d_Fs_giveUpOn_56 ?_
      refine g_iload_n C 2 rfl d_Fs_giveUpOn_59 ?_
      refine g_putN (X1 := [(q7, .inr (5, [.ref K.1])), (K.1, .inr (0, [.int K.2.1, .ref K.2.2.1, .int (nI fs.length)])), (K.2.2.1, .inl (g.2.1 4, K.2.2.2.1, .inr (.inr (.inr (.inr K.2.2.2.2))))), (r.1, .inr (3, [.int r.2.2.1, .ref r.2.1.1, .int 1, .int p1])), (r.2.1.1, .inr (0, [.int r.2.1.2.1, .ref r.2.1.2.2.1, .int (nI r.2.2.2.2.2.length)]))]) C 3 rfl rfl in_Fk 3 (by decide) ok_Fk nm_Fk kw_487 rfl rfl rfl (Nat.le_of_ble_eq_true rfl) rfl d_Fs_giveUpOn_60 ?_
      refine g_iconst (v := 1) C rfl d_Fs_giveUpOn_63 ?_
      have hcl : (nI a.length).toNatClampNeg = a.length := nI_clamp (by omega)
      have hin : inB (nI a.length) (nI fs.length) = true := (inB_iff (by omega)).mpr ⟨_, hi, rfl⟩
      have hgu : guA fs a.length = r.2.2.2.1 := by rw [he]; exact guA_mid a r b
      refine g_closeF (X := [(q7, .inr (5, [.ref K.1])), (K.1, .inr (0, [.int K.2.1, .ref K.2.2.1, .int (nI fs.length)])), (K.2.2.1, .inl (g.2.1 4, K.2.2.2.1, .inr (.inr (.inr (.inr K.2.2.2.2)))))]) a (r.1, r.2.1, r.2.2.1, 1, p1, r.2.2.2.2.2) b ?_
      refine g_tl (X1 := [(q7, .inr (5, [.ref K.1])), (K.1, .inr (0, [.int K.2.1, .ref K.2.2.1, .int (nI fs.length)]))]) (P1 := arc g K fs.length ++ (fcs g (a ++ (r.1, r.2.1, r.2.2.1, 1, p1, r.2.2.2.2.2) :: b) ++ P)) (by rw [arc_ne h0]; rfl) ?_
      have hno : inB (nI a.length) (nI fs.length) = true ∧ guA fs (nI a.length).toNatClampNeg = 0 := by rw [hcl, hgu]; exact ⟨hin, c_2⟩
      exact g_zret C (Or.inr rfl) rfl ⟨(by rw [zb_yes hno]), rfl, (by rw [if_pos hno, hcl, he, gvF_mid, ← he])⟩ (by first | decide | (dsimp only; omega)) (by first | decide | (dsimp only; omega)) d_Fs_giveUpOn_64
    · skip
      refine g_iconst (v := 0) C rfl d_Fs_giveUpOn_31 ?_
      have hcl : (nI a.length).toNatClampNeg = a.length := nI_clamp (by omega)
      have hin : inB (nI a.length) (nI fs.length) = true := (inB_iff (by omega)).mpr ⟨_, hi, rfl⟩
      have hgu : guA fs a.length = r.2.2.2.1 := by rw [he]; exact guA_mid a r b
      refine g_closeF (X := [(q7, .inr (5, [.ref K.1])), (K.1, .inr (0, [.int K.2.1, .ref K.2.2.1, .int (nI fs.length)])), (K.2.2.1, .inl (g.2.1 4, K.2.2.2.1, .inr (.inr (.inr (.inr K.2.2.2.2)))))]) a r b ?_
      refine g_tl (X1 := [(q7, .inr (5, [.ref K.1])), (K.1, .inr (0, [.int K.2.1, .ref K.2.2.1, .int (nI fs.length)]))]) (P1 := arc g K fs.length ++ (fcs g (a ++ r :: b) ++ P)) (by rw [arc_ne h0]; rfl) ?_
      rw [← he]
      have hno : ¬ (inB (nI a.length) (nI fs.length) = true ∧ guA fs (nI a.length).toNatClampNeg = 0) := by rw [hcl, hgu]; exact fun z => c_2 z.2
      exact g_zret C (Or.inl rfl) rfl ⟨(by rw [zb_no hno]), rfl, (by rw [if_neg hno])⟩ (by first | decide | (dsimp only; omega)) (by first | decide | (dsimp only; omega)) d_Fs_giveUpOn_32

set_option maxHeartbeats 4000000 in
set_option maxRecDepth 100000 in
theorem c_Fs_linesOf (l : Launch) (g : Gx) (q7 : Nat) (K : AR) (fs : List FR) (p0 : Int32) (P : va_W) (hl : fs.length ≤ 40) (hK : okA g K (fad fs)) : MP l g y_Fs_linesOf b_Fs_linesOf 2 (some FieldType.int) ({ frames := 4, cells := 0, slots := 0, locals := 84 }) [.ref q7, .int p0] [(q7, .inr (5, [.ref K.1])), (K.1, .inr (0, [.int K.2.1, .ref K.2.2.1, .int (nI fs.length)]))] (arc g K fs.length ++ (fcs g fs ++ P)) (fun v2 X2 P2 => v2 = some (.int (if inB p0 (nI fs.length) = true then nI (lnA fs p0.toNatClampNeg) else (-1))) ∧ X2 = [(q7, .inr (5, [.ref K.1])), (K.1, .inr (0, [.int K.2.1, .ref K.2.2.1, .int (nI fs.length)]))] ∧ P2 = arc g K fs.length ++ (fcs g fs ++ P)) := by
  refine MP.of (by decide) (Nat.le_of_ble_eq_true rfl) (fun κ C => ?_)
  have C : zC κ l g ({ frames := 4, cells := 0, slots := 0, locals := 84 }) b_Fs_linesOf 2 "TombLane$Flakes" "linesOf" (some FieldType.int) _ := C
  refine g_lv (lv1 := [(0, .ref q7), (1, .int p0)]) [0, 1] rfl ?_
  refine g_iload_n C 1 rfl d_Fs_linesOf_0 ?_
  refine g_aload_n C 0 rfl d_Fs_linesOf_1 ?_
  refine g_get C 0 rfl rfl in_Fs 0 (by decide) kw_268 rfl d_Fs_linesOf_2 ?_
  refine g_callV0 (rest := [.int p0]) (Xn := [(q7, .inr (5, [.ref K.1])), (K.1, .inr (0, [.int K.2.1, .ref K.2.2.1, .int (nI fs.length)]))]) C (c_AL_size l g K.1 K.2.2.1 K.2.1 (nI fs.length)) [1] [0] [0, 1] rfl (by decide) (by decide) rfl mo_AL_size mv_AL_size kw_467 (by decide) (rcX 1 rfl rfl) rfl (Nat.le_of_ble_eq_true rfl) ⟨Nat.le_of_ble_eq_true rfl, Nat.le_of_ble_eq_true rfl⟩ d_Fs_linesOf_5 ?_
  refine g_callSN0 (rest := []) (Xn := [(q7, .inr (5, [.ref K.1])), (K.1, .inr (0, [.int K.2.1, .ref K.2.2.1, .int (nI fs.length)]))]) C (c_TL_isBelow l g p0 (nI fs.length)) [] [0, 1] [0, 1] rfl (by decide) (by decide) rfl mo_TL_isBelow ms_TL_isBelow kw_676 (by decide) rfl (Nat.le_of_ble_eq_true rfl) ⟨Nat.le_of_ble_eq_true rfl, Nat.le_of_ble_eq_true rfl⟩ d_Fs_linesOf_8 ?_
  refine g_if_eq C d_Fs_linesOf_11 (fun c_1 => ?_) (fun c_1 => ?_)
  · have c_1 := zb_0.mp c_1
    refine g_iconst (v := (-1)) C rfl d_Fs_linesOf_34 ?_
    exact g_iret C rfl ⟨(by simp [c_1]), rfl, rfl⟩ (by first | decide | (dsimp only; omega)) (by first | decide | (dsimp only; omega)) d_Fs_linesOf_35
  · have c_1 := zb_n0.mp c_1
    obtain ⟨i, hi, rfl⟩ := (inB_iff (by omega)).mp c_1
    obtain ⟨a, r, b, he, hal⟩ := l_split hi
    subst hal
    have h0 : ¬ fs.length = 0 := by omega
    obtain ⟨h1, h2, h3⟩ := hK.2 (fun z => h0 (by simpa [fad] using congrArg List.length z))
    have h4 : fs.length ≤ K.2.2.2.1 := by simpa [fad] using h1
    have hx : K.2.2.2.2 a.length = some r.1 := by rw [h3 a.length (by simpa [fad] using hi)]; simp [fad, he]
    refine g_tl (X1 := [(q7, .inr (5, [.ref K.1])), (K.1, .inr (0, [.int K.2.1, .ref K.2.2.1, .int (nI fs.length)])), (K.2.2.1, .inl (g.2.1 4, K.2.2.2.1, .inr (.inr (.inr (.inr K.2.2.2.2)))))]) (P1 := fcs g fs ++ P) (by rw [arc_ne h0]; rfl) ?_
    rw [he]
    refine g_openF a r b ?_
    rw [← he]
    refine g_eq (X1 := [(q7, .inr (5, [.ref K.1])), (K.1, .inr (0, [.int K.2.1, .ref K.2.2.1, .int (nI fs.length)])), (K.2.2.1, .inl (g.2.1 4, K.2.2.2.1, .inr (.inr (.inr (.inr K.2.2.2.2))))), (r.1, .inr (3, [.int r.2.2.1, .ref r.2.1.1, .int r.2.2.2.1, .int r.2.2.2.2.1])), (r.2.1.1, .inr (0, [.int r.2.1.2.1, .ref r.2.1.2.2.1, .int (nI r.2.2.2.2.2.length)]))]) rfl rfl ?_
    refine g_aload_n C 0 rfl d_Fs_linesOf_14 ?_
    refine g_get C 0 rfl rfl in_Fs 0 (by decide) kw_268 rfl d_Fs_linesOf_15 ?_
    refine g_iload_n C 1 rfl d_Fs_linesOf_18 ?_
    refine g_callVP (rest := []) C (c_AL_get l g K.1 K.2.2.1 fs.length K.2.2.2.1 a.length r.1 K.2.1 K.2.2.2.2 (arc g r.2.1 r.2.2.2.2.2.length ++ (lcs g r.2.2.2.2.2 ++ (fcs g a ++ (fcs g b ++ P)))) (by omega) h4 h2 hx) [1, 2] [0, 3, 4] rfl (by decide) mo_AL_get mv_AL_get kw_677 (by decide) (rcX 1 rfl rfl) rfl (Nat.le_of_ble_eq_true rfl) ⟨Nat.le_of_ble_eq_true rfl, Nat.le_of_ble_eq_true rfl⟩ d_Fs_linesOf_19 (fun v2 X2 P2 q => ?_)
    obtain ⟨rfl, rfl, rfl⟩ := q
    refine g_ord (X1 := [(q7, .inr (5, [.ref K.1])), (K.1, .inr (0, [.int K.2.1, .ref K.2.2.1, .int (nI fs.length)])), (K.2.2.1, .inl (g.2.1 4, K.2.2.2.1, .inr (.inr (.inr (.inr K.2.2.2.2))))), (r.1, .inr (3, [.int r.2.2.1, .ref r.2.1.1, .int r.2.2.2.1, .int r.2.2.2.2.1])), (r.2.1.1, .inr (0, [.int r.2.1.2.1, .ref r.2.1.2.2.1, .int (nI r.2.2.2.2.2.length)]))]) [0, 3, 4, 1, 2] (by decide) rfl ?_
    refine g_cast (ci := 3) C kw_691 rfl (rcX 3 rfl rfl) d_Fs_linesOf_22 ?_
    refine g_getN C 3 rfl rfl in_Fk 1 (by decide) kw_483 rfl d_Fs_linesOf_25 ?_
    refine g_callV0 (rest := []) (Xn := [(q7, .inr (5, [.ref K.1])), (K.1, .inr (0, [.int K.2.1, .ref K.2.2.1, .int (nI fs.length)])), (K.2.2.1, .inl (g.2.1 4, K.2.2.2.1, .inr (.inr (.inr (.inr K.2.2.2.2))))), (r.1, .inr (3, [.int r.2.2.1, .ref r.2.1.1, .int r.2.2.2.1, .int r.2.2.2.2.1])), (r.2.1.1, .inr (0, [.int r.2.1.2.1, .ref r.2.1.2.2.1, .int (nI r.2.2.2.2.2.length)]))]) C (c_AL_size l g r.2.1.1 r.2.1.2.2.1 r.2.1.2.1 (nI r.2.2.2.2.2.length)) [4] [0, 1, 2, 3] [0, 1, 2, 3, 4] rfl (by decide) (by decide) rfl mo_AL_size mv_AL_size kw_467 (by decide) (rcX 4 rfl rfl) rfl (Nat.le_of_ble_eq_true rfl) ⟨Nat.le_of_ble_eq_true rfl, Nat.le_of_ble_eq_true rfl⟩ d_Fs_linesOf_28 ?_
    refine g_goto C d_Fs_linesOf_31 ?_
    have hcl : (nI a.length).toNatClampNeg = a.length := nI_clamp (by omega)
    have hin : inB (nI a.length) (nI fs.length) = true := (inB_iff (by omega)).mpr ⟨_, hi, rfl⟩
    refine g_closeF (X := [(q7, .inr (5, [.ref K.1])), (K.1, .inr (0, [.int K.2.1, .ref K.2.2.1, .int (nI fs.length)])), (K.2.2.1, .inl (g.2.1 4, K.2.2.2.1, .inr (.inr (.inr (.inr K.2.2.2.2)))))]) a r b ?_
    refine g_tl (X1 := [(q7, .inr (5, [.ref K.1])), (K.1, .inr (0, [.int K.2.1, .ref K.2.2.1, .int (nI fs.length)]))]) (P1 := arc g K fs.length ++ (fcs g (a ++ r :: b) ++ P)) (by rw [arc_ne h0]; rfl) ?_
    rw [← he]
    exact g_iret C rfl ⟨(by rw [if_pos hin, hcl, he, lnA_mid]), rfl, rfl⟩ (by first | decide | (dsimp only; omega)) (by first | decide | (dsimp only; omega)) d_Fs_linesOf_35

