/-- a list of the class: its address, changes, its row's address, length and elements -/
abbrev AR : Type := Nat × Int32 × Nat × Nat × (Nat → Option Nat)
abbrev aln (a : AR) (n : Nat) : Nat × va_E := (a.1, .inr (0, [.int a.2.1, .ref a.2.2.1, .int (nI n)]))
def arc (g : Gx) (a : AR) (n : Nat) : va_W := if n = 0 then [] else [(a.2.2.1, .inl (g.2.1 4, a.2.2.2.1, .inr (.inr (.inr (.inr a.2.2.2.2)))))]
theorem arc_ne {g : Gx} {a : AR} {n : Nat} (h : ¬ n = 0) : arc g a n = [(a.2.2.1, .inl (g.2.1 4, a.2.2.2.1, .inr (.inr (.inr (.inr a.2.2.2.2)))))] := if_neg h
theorem arc_0 {g : Gx} {a : AR} {n : Nat} (h : n = 0) : arc g a n = [] := if_pos h
def okA (g : Gx) (a : AR) (ds : List Nat) : Prop := (ds = [] → a.2.2.1 = g.2.2.1) ∧ (¬ ds = [] → ds.length ≤ a.2.2.2.1 ∧ a.2.2.2.1 ≤ 1000 ∧ ∀ j (h : j < ds.length), a.2.2.2.2 j = some ds[j])
/-- a flake of the class: its address, its list, found, given up, on, its lines -/
abbrev FR : Type := Nat × AR × Int32 × Int32 × Int32 × List LR
abbrev fko (r : FR) : Nat × va_E := (r.1, .inr (3, [.int r.2.2.1, .ref r.2.1.1, .int r.2.2.2.1, .int r.2.2.2.2.1]))
def fc1 (g : Gx) (r : FR) : va_W := [fko r, aln r.2.1 r.2.2.2.2.2.length] ++ (arc g r.2.1 r.2.2.2.2.2.length ++ lcs g r.2.2.2.2.2)
def fcs (g : Gx) (fs : List FR) : va_W := fs.flatMap (fc1 g)
def lad (ls : List LR) : List Nat := ls.map (fun r => r.1)
def fad (fs : List FR) : List Nat := fs.map (fun r => r.1)
def fok (g : Gx) (r : FR) : Prop := okA g r.2.1 (lad r.2.2.2.2.2)
theorem fcs_mid (g : Gx) (a : List FR) (r : FR) (b : List FR) : fcs g (a ++ r :: b) = fcs g a ++ (fc1 g r ++ fcs g b) := by
  unfold fcs
  rw [List.flatMap_append, List.flatMap_cons]
section GF
variable {κ : Kx} {nL cs ss pc : Nat} {lv : List (Nat × Value)} {st : List Value} {X P P0 : va_W}
theorem g_tl {X1 P1 : va_W} (h : X ++ P = X1 ++ P1) (k : G κ nL cs ss pc lv st X1 P1) : G κ nL cs ss pc lv st X P := by
  intro H locs l1 hl hP hD hS
  rw [h] at hP hD
  exact k H locs l1 hl hP hD hS
theorem g_pm {X1 P1 : va_W} (h : (X ++ P).Perm (X1 ++ P1)) (k : G κ nL cs ss pc lv st X1 P1) : G κ nL cs ss pc lv st X P := by
  intro H locs l1 hl hP hD hS
  exact k H locs l1 hl (P_perm h hP) (D_perm h hD) hS
theorem perm_midF {X A B C D E F : va_W} : (X ++ ((A ++ ((B ++ (C ++ D)) ++ E)) ++ F)).Perm ((X ++ B) ++ (C ++ (D ++ (A ++ (E ++ F))))) := by
  have h1 : X ++ ((A ++ ((B ++ (C ++ D)) ++ E)) ++ F) = X ++ ((A ++ (B ++ C ++ D)) ++ (E ++ F)) := by simp only [List.append_assoc]
  have h2 : (X ++ B) ++ (C ++ (D ++ (A ++ (E ++ F)))) = X ++ (((B ++ C ++ D) ++ A) ++ (E ++ F)) := by simp only [List.append_assoc]
  rw [h1, h2]
  exact List.Perm.append_left _ (List.Perm.append_right _ List.perm_append_comm)
theorem g_openF {g : Gx} (a : List FR) (r : FR) (b : List FR) (k : G κ nL cs ss pc lv st (X ++ [fko r, aln r.2.1 r.2.2.2.2.2.length]) (arc g r.2.1 r.2.2.2.2.2.length ++ (lcs g r.2.2.2.2.2 ++ (fcs g a ++ (fcs g b ++ P0))))) : G κ nL cs ss pc lv st X (fcs g (a ++ r :: b) ++ P0) := by
  refine g_pm ?_ k
  rw [fcs_mid]
  exact perm_midF
theorem g_closeF {g : Gx} (a : List FR) (r : FR) (b : List FR) (k : G κ nL cs ss pc lv st X (fcs g (a ++ r :: b) ++ P0)) : G κ nL cs ss pc lv st (X ++ [fko r, aln r.2.1 r.2.2.2.2.2.length]) (arc g r.2.1 r.2.2.2.2.2.length ++ (lcs g r.2.2.2.2.2 ++ (fcs g a ++ (fcs g b ++ P0)))) := by
  refine g_pm ?_ k
  rw [fcs_mid]
  exact perm_midF.symm
end GF
/-- what the counting flakes tell of a day -/
def rkF (sf : Nat → Int32) (n : Nat) (sd dy kk : Int32) : List FR → DS → DS
  | [], t => t
  | r :: fs, t => rkF sf n sd dy kk fs (if cntC r.2.2.1 r.2.2.2.1 r.2.2.2.2.1 kk = true then hfC sf n sd dy r.2.2.2.2.2 t else t)
def rkC (sf : Nat → Int32) (n : Nat) (sd dy kk : Int32) (fs : List FR) : DS := rkF sf n sd dy kk fs (fun _ => 0, -1, 0)
def nrC (sf : Nat → Int32) (n : Nat) (sd dy kk : Int32) (fs : List FR) : Int32 × (Nat → Int32) := nrw sf (rkC sf n sd dy kk fs).1 (rkC sf n sd dy kk fs).2.1 (rkC sf n sd dy kk fs).2.2 sd n
set_option maxHeartbeats 4000000 in
set_option maxRecDepth 100000 in
theorem c_Dy_hearFlake (l : Launch) (g : Gx) (q0 q1 q2 q6 q7 m1 m2 m3 n f : Nat) (fd gu on p1 p2 wt wu : Int32) (sf st : Nat → Int32) (a : AR) (ls : List LR) (P : va_W) (hn : n ≤ 12) (ha : okA g a (lad ls)) : MP l g y_Dy_hearFlake b_Dy_hearFlake 6 (none : Option FieldType) ({ frames := 4, cells := 0, slots := 0, locals := 84 }) [.ref q0, .ref f, .int p1, .int p2] [(q0, .inr (1, [.ref q6, .ref q7, .ref q1, .ref q2, .int wt, .int wu])), (q1, .inl (g.2.1 0, 12, .inl st)), (q6, .inr (7, [.ref m1, .ref m2, .ref m3, .int (nI n)])), (m2, .inl (g.2.1 0, 12, .inl sf)), (f, .inr (3, [.int fd, .ref a.1, .int gu, .int on])), (a.1, .inr (0, [.int a.2.1, .ref a.2.2.1, .int (nI ls.length)]))] (arc g a ls.length ++ (lcs g ls ++ P)) (fun v2 X2 P2 => v2 = none ∧ X2 = [(q0, .inr (1, [.ref q6, .ref q7, .ref q1, .ref q2, .int (hfC sf n p1 p2 ls (st, wt, wu)).2.1, .int (hfC sf n p1 p2 ls (st, wt, wu)).2.2])), (q1, .inl (g.2.1 0, 12, .inl (hfC sf n p1 p2 ls (st, wt, wu)).1)), (q6, .inr (7, [.ref m1, .ref m2, .ref m3, .int (nI n)])), (m2, .inl (g.2.1 0, 12, .inl sf)), (f, .inr (3, [.int fd, .ref a.1, .int gu, .int on])), (a.1, .inr (0, [.int a.2.1, .ref a.2.2.1, .int (nI ls.length)]))] ∧ P2 = arc g a ls.length ++ (lcs g ls ++ P)) := by
  refine MP.of (by decide) (Nat.le_of_ble_eq_true rfl) (fun κ C => ?_)
  have C : zC κ l g ({ frames := 4, cells := 0, slots := 0, locals := 84 }) b_Dy_hearFlake 6 "TombLane$DayBook" "hearFlake" (none : Option FieldType) _ := C
  refine g_lv (lv1 := [(0, .ref q0), (1, .ref f), (2, .int p1), (3, .int p2)]) [0, 1, 2, 3] rfl ?_
  by_cases h0 : ls = []
  · have hl0 : ls.length = 0 := by rw [h0]; rfl
    refine g_iconst (v := 0) C rfl d_Dy_hearFlake_0 ?_
    refine g_istore (lv1 := [(0, .ref q0), (1, .ref f), (2, .int p1), (3, .int p2), (4, .int 0)]) C d_Dy_hearFlake_1 [1, 2, 3, 4, 0] (by decide) rfl ?_
    refine g_iload C 4 rfl d_Dy_hearFlake_3 ?_
    refine g_aload_n C 1 rfl d_Dy_hearFlake_5 ?_
    refine g_getN C 4 rfl rfl in_Fk 1 (by decide) kw_482 rfl d_Dy_hearFlake_6 ?_
    refine g_callV0 (rest := [.int 0]) (Xn := [(q0, .inr (1, [.ref q6, .ref q7, .ref q1, .ref q2, .int wt, .int wu])), (q1, .inl (g.2.1 0, 12, .inl st)), (q6, .inr (7, [.ref m1, .ref m2, .ref m3, .int (nI n)])), (m2, .inl (g.2.1 0, 12, .inl sf)), (f, .inr (3, [.int fd, .ref a.1, .int gu, .int on])), (a.1, .inr (0, [.int a.2.1, .ref a.2.2.1, .int (nI ls.length)]))]) C (c_AL_size l g a.1 a.2.2.1 a.2.1 (nI ls.length)) [5] [0, 1, 2, 3, 4] [0, 1, 2, 3, 4, 5] rfl (by decide) (by decide) rfl mo_AL_size mv_AL_size kw_714 (by decide) (rcX 5 rfl rfl) rfl (Nat.le_of_ble_eq_true rfl) ⟨Nat.le_of_ble_eq_true rfl, Nat.le_of_ble_eq_true rfl⟩ d_Dy_hearFlake_9 ?_
    refine g_icmp_ge C d_Dy_hearFlake_12 (fun _ => ?_) (fun c_1 => absurd (by rw [hl0]; decide) c_1)
    exact g_vret C rfl ⟨rfl, (by rw [h0]; rfl), rfl⟩ (by first | decide | (dsimp only; omega)) (by first | decide | (dsimp only; omega)) d_Dy_hearFlake_51
  · have hl0 : ¬ ls.length = 0 := fun z => h0 (List.eq_nil_of_length_eq_zero z)
    obtain ⟨h1, h2, h3⟩ := ha.2 (by unfold lad; simpa using h0)
    have h4 : ls.length ≤ a.2.2.2.1 := by simpa [lad] using h1
    have h5 : ∀ j (h : j < ls.length), a.2.2.2.2 j = some (ls[j]).1 := fun j h => by rw [h3 j (by simpa [lad] using h)]; simp [lad]
    refine g_iconst (v := 0) C rfl d_Dy_hearFlake_0 ?_
    refine g_istore (lv1 := [(0, .ref q0), (1, .ref f), (2, .int p1), (3, .int p2), (4, .int 0)]) C d_Dy_hearFlake_1 [1, 2, 3, 4, 0] (by decide) rfl ?_
    refine g_tl (X1 := [(q0, .inr (1, [.ref q6, .ref q7, .ref q1, .ref q2, .int wt, .int wu])), (q1, .inl (g.2.1 0, 12, .inl st)), (q6, .inr (7, [.ref m1, .ref m2, .ref m3, .int (nI n)])), (m2, .inl (g.2.1 0, 12, .inl sf)), (f, .inr (3, [.int fd, .ref a.1, .int gu, .int on])), (a.1, .inr (0, [.int a.2.1, .ref a.2.2.1, .int (nI ls.length)])), (a.2.2.1, .inl (g.2.1 4, a.2.2.2.1, .inr (.inr (.inr (.inr a.2.2.2.2)))))]) (P1 := lcs g ls ++ P) (by rw [arc_ne hl0]; rfl) ?_
    refine lp_hearFlake l g q0 q1 q2 q6 q7 m1 m2 m3 n f a.1 a.2.2.1 a.2.2.2.1 fd gu on a.2.1 p1 p2 sf a.2.2.2.2 ls hn h4 h2 h5 C ls [] (st, wt, wu) rfl ?_
    refine g_tl (X1 := [(q0, .inr (1, [.ref q6, .ref q7, .ref q1, .ref q2, .int (hfC sf n p1 p2 ls (st, wt, wu)).2.1, .int (hfC sf n p1 p2 ls (st, wt, wu)).2.2])), (q1, .inl (g.2.1 0, 12, .inl (hfC sf n p1 p2 ls (st, wt, wu)).1)), (q6, .inr (7, [.ref m1, .ref m2, .ref m3, .int (nI n)])), (m2, .inl (g.2.1 0, 12, .inl sf)), (f, .inr (3, [.int fd, .ref a.1, .int gu, .int on])), (a.1, .inr (0, [.int a.2.1, .ref a.2.2.1, .int (nI ls.length)]))]) (P1 := arc g a ls.length ++ (lcs g ls ++ P)) (by rw [arc_ne hl0]; rfl) ?_
    exact g_vret C rfl ⟨rfl, rfl, rfl⟩ (by first | decide | (dsimp only; omega)) (by first | decide | (dsimp only; omega)) d_Dy_hearFlake_51

set_option maxHeartbeats 4000000 in
set_option maxRecDepth 100000 in
theorem lp_reckon (l : Launch) (g : Gx) {κ : Kx} {E : Ex} {P : va_W} (q0 q1 q2 q6 q7 m1 m2 m3 n : Nat) (sf : Nat → Int32) (K : AR) (fs : List FR) (p0 p1 p2 : Int32) (hn : n ≤ 12) (hc : fs.length ≤ K.2.2.2.1) (hc2 : K.2.2.2.1 ≤ 1000) (haf : ∀ j (h : j < fs.length), K.2.2.2.2 j = some (fs[j]).1) (hfk : ∀ r ∈ fs, fok g r) (C : zC κ l g ({ frames := 5, cells := 0, slots := 0, locals := 109 }) b_Dy_reckon 6 "TombLane$DayBook" "reckon" (some FieldType.int) E) : ∀ (b a : List FR) (t : DS), fs = a ++ b → (G κ 6 0 0 92 [(0, .ref q0), (1, .int p0), (2, .int p1), (3, .int p2)] [] [(q0, .inr (1, [.ref q6, .ref q7, .ref q1, .ref q2, .int (rkF sf n p0 p1 p2 b t).2.1, .int (rkF sf n p0 p1 p2 b t).2.2])), (q1, .inl (g.2.1 0, 12, .inl (rkF sf n p0 p1 p2 b t).1)), (q6, .inr (7, [.ref m1, .ref m2, .ref m3, .int (nI n)])), (m2, .inl (g.2.1 0, 12, .inl sf)), (q7, .inr (5, [.ref K.1])), (K.1, .inr (0, [.int K.2.1, .ref K.2.2.1, .int (nI fs.length)])), (K.2.2.1, .inl (g.2.1 4, K.2.2.2.1, .inr (.inr (.inr (.inr K.2.2.2.2)))))] (fcs g fs ++ P)) → G κ 6 0 0 37 [(0, .ref q0), (1, .int p0), (2, .int p1), (3, .int p2), (4, .int (nI a.length))] [] [(q0, .inr (1, [.ref q6, .ref q7, .ref q1, .ref q2, .int t.2.1, .int t.2.2])), (q1, .inl (g.2.1 0, 12, .inl t.1)), (q6, .inr (7, [.ref m1, .ref m2, .ref m3, .int (nI n)])), (m2, .inl (g.2.1 0, 12, .inl sf)), (q7, .inr (5, [.ref K.1])), (K.1, .inr (0, [.int K.2.1, .ref K.2.2.1, .int (nI fs.length)])), (K.2.2.1, .inl (g.2.1 4, K.2.2.2.1, .inr (.inr (.inr (.inr K.2.2.2.2)))))] (fcs g fs ++ P) := by
  intro b
  induction b with
  | nil =>
    intro a t he hE
    have hlen : fs.length = a.length := by rw [he, List.append_nil]
    refine g_iload C 4 rfl d_Dy_reckon_37 ?_
    refine g_aload_n C 0 rfl d_Dy_reckon_39 ?_
    refine g_get C 0 rfl rfl in_Dy 1 (by decide) kw_280 rfl d_Dy_reckon_40 ?_
    refine g_getN C 4 rfl rfl in_Fs 0 (by decide) kw_269 rfl d_Dy_reckon_43 ?_
    refine g_callV0 (rest := [.int (nI a.length)]) (Xn := [(q0, .inr (1, [.ref q6, .ref q7, .ref q1, .ref q2, .int t.2.1, .int t.2.2])), (q1, .inl (g.2.1 0, 12, .inl t.1)), (q6, .inr (7, [.ref m1, .ref m2, .ref m3, .int (nI n)])), (m2, .inl (g.2.1 0, 12, .inl sf)), (q7, .inr (5, [.ref K.1])), (K.1, .inr (0, [.int K.2.1, .ref K.2.2.1, .int (nI fs.length)])), (K.2.2.1, .inl (g.2.1 4, K.2.2.2.1, .inr (.inr (.inr (.inr K.2.2.2.2)))))]) C (c_AL_size l g K.1 K.2.2.1 K.2.1 (nI fs.length)) [5] [0, 1, 2, 3, 4, 6] [0, 1, 2, 3, 4, 6, 5] rfl (by decide) (by decide) rfl mo_AL_size mv_AL_size kw_714 (by decide) (rcX 5 rfl rfl) rfl (Nat.le_of_ble_eq_true rfl) ⟨Nat.le_of_ble_eq_true rfl, Nat.le_of_ble_eq_true rfl⟩ d_Dy_reckon_46 ?_
    refine g_icmp_ge C d_Dy_reckon_49 (fun _ => ?_) (fun c_1 => absurd (nI_le (by omega) (by omega)) c_1)
    refine g_lv (lv1 := [(0, .ref q0), (1, .int p0), (2, .int p1), (3, .int p2)]) [0, 1, 2, 3] rfl ?_
    exact hE
  | cons r b ih =>
    intro a t he hE
    have hlen : fs.length = a.length + (b.length + 1) := by rw [he, List.length_append, List.length_cons]
    have hx : K.2.2.2.2 a.length = some r.1 := by rw [haf a.length (by omega)]; simp [he]
    have hr : fok g r := hfk r (by rw [he]; simp)
    refine g_iload C 4 rfl d_Dy_reckon_37 ?_
    refine g_aload_n C 0 rfl d_Dy_reckon_39 ?_
    refine g_get C 0 rfl rfl in_Dy 1 (by decide) kw_280 rfl d_Dy_reckon_40 ?_
    refine g_getN C 4 rfl rfl in_Fs 0 (by decide) kw_269 rfl d_Dy_reckon_43 ?_
    refine g_callV0 (rest := [.int (nI a.length)]) (Xn := [(q0, .inr (1, [.ref q6, .ref q7, .ref q1, .ref q2, .int t.2.1, .int t.2.2])), (q1, .inl (g.2.1 0, 12, .inl t.1)), (q6, .inr (7, [.ref m1, .ref m2, .ref m3, .int (nI n)])), (m2, .inl (g.2.1 0, 12, .inl sf)), (q7, .inr (5, [.ref K.1])), (K.1, .inr (0, [.int K.2.1, .ref K.2.2.1, .int (nI fs.length)])), (K.2.2.1, .inl (g.2.1 4, K.2.2.2.1, .inr (.inr (.inr (.inr K.2.2.2.2)))))]) C (c_AL_size l g K.1 K.2.2.1 K.2.1 (nI fs.length)) [5] [0, 1, 2, 3, 4, 6] [0, 1, 2, 3, 4, 6, 5] rfl (by decide) (by decide) rfl mo_AL_size mv_AL_size kw_714 (by decide) (rcX 5 rfl rfl) rfl (Nat.le_of_ble_eq_true rfl) ⟨Nat.le_of_ble_eq_true rfl, Nat.le_of_ble_eq_true rfl⟩ d_Dy_reckon_46 ?_
    refine g_icmp_ge C d_Dy_reckon_49 (fun c_1 => absurd c_1 (nI_ge (by omega) (by omega))) (fun _ => ?_)
    refine g_aload_n C 0 rfl d_Dy_reckon_52 ?_
    refine g_get C 0 rfl rfl in_Dy 1 (by decide) kw_280 rfl d_Dy_reckon_53 ?_
    refine g_getN C 4 rfl rfl in_Fs 0 (by decide) kw_269 rfl d_Dy_reckon_56 ?_
    refine g_iload C 4 rfl d_Dy_reckon_59 ?_
    refine g_callVP (rest := []) C (c_AL_get l g K.1 K.2.2.1 fs.length K.2.2.2.1 a.length r.1 K.2.1 K.2.2.2.2 (fcs g fs ++ P) (by omega) hc hc2 hx) [5, 6] [0, 1, 2, 3, 4] rfl (by decide) mo_AL_get mv_AL_get kw_715 (by decide) (rcX 5 rfl rfl) rfl (Nat.le_of_ble_eq_true rfl) ⟨Nat.le_of_ble_eq_true rfl, Nat.le_of_ble_eq_true rfl⟩ d_Dy_reckon_61 (fun v2 X2 P2 q => ?_)
    obtain ⟨rfl, rfl, rfl⟩ := q
    refine g_ord (X1 := [(q0, .inr (1, [.ref q6, .ref q7, .ref q1, .ref q2, .int t.2.1, .int t.2.2])), (q1, .inl (g.2.1 0, 12, .inl t.1)), (q6, .inr (7, [.ref m1, .ref m2, .ref m3, .int (nI n)])), (m2, .inl (g.2.1 0, 12, .inl sf)), (q7, .inr (5, [.ref K.1])), (K.1, .inr (0, [.int K.2.1, .ref K.2.2.1, .int (nI fs.length)])), (K.2.2.1, .inl (g.2.1 4, K.2.2.2.1, .inr (.inr (.inr (.inr K.2.2.2.2)))))]) [0, 1, 2, 3, 4, 5, 6] (by decide) rfl ?_
    rw [he]
    refine g_openF a r b ?_
    rw [← he]
    refine g_eq (X1 := [(q0, .inr (1, [.ref q6, .ref q7, .ref q1, .ref q2, .int t.2.1, .int t.2.2])), (q1, .inl (g.2.1 0, 12, .inl t.1)), (q6, .inr (7, [.ref m1, .ref m2, .ref m3, .int (nI n)])), (m2, .inl (g.2.1 0, 12, .inl sf)), (q7, .inr (5, [.ref K.1])), (K.1, .inr (0, [.int K.2.1, .ref K.2.2.1, .int (nI fs.length)])), (K.2.2.1, .inl (g.2.1 4, K.2.2.2.1, .inr (.inr (.inr (.inr K.2.2.2.2))))), (r.1, .inr (3, [.int r.2.2.1, .ref r.2.1.1, .int r.2.2.2.1, .int r.2.2.2.2.1])), (r.2.1.1, .inr (0, [.int r.2.1.2.1, .ref r.2.1.2.2.1, .int (nI r.2.2.2.2.2.length)]))]) rfl rfl ?_
    refine g_cast (ci := 3) C kw_716 rfl (rcX 7 rfl rfl) d_Dy_reckon_64 ?_
    refine g_astore (lv1 := [(0, .ref q0), (1, .int p0), (2, .int p1), (3, .int p2), (4, .int (nI a.length)), (5, .ref r.1)]) C d_Dy_reckon_67 [1, 2, 3, 4, 5, 0] (by decide) rfl ?_
    refine g_aload C 5 rfl d_Dy_reckon_69 ?_
    refine g_iload_n C 3 rfl d_Dy_reckon_71 ?_
    refine g_callVN0 (rest := []) (Xn := [(q0, .inr (1, [.ref q6, .ref q7, .ref q1, .ref q2, .int t.2.1, .int t.2.2])), (q1, .inl (g.2.1 0, 12, .inl t.1)), (q6, .inr (7, [.ref m1, .ref m2, .ref m3, .int (nI n)])), (m2, .inl (g.2.1 0, 12, .inl sf)), (q7, .inr (5, [.ref K.1])), (K.1, .inr (0, [.int K.2.1, .ref K.2.2.1, .int (nI fs.length)])), (K.2.2.1, .inl (g.2.1 4, K.2.2.2.1, .inr (.inr (.inr (.inr K.2.2.2.2))))), (r.1, .inr (3, [.int r.2.2.1, .ref r.2.1.1, .int r.2.2.2.1, .int r.2.2.2.2.1])), (r.2.1.1, .inr (0, [.int r.2.1.2.1, .ref r.2.1.2.2.1, .int (nI r.2.2.2.2.2.length)]))]) C (c_Fk_counts l g r.1 r.2.1.1 r.2.2.1 r.2.2.2.1 r.2.2.2.2.1 p2) [7] [0, 1, 2, 3, 4, 5, 6, 8] [0, 1, 2, 3, 4, 5, 6, 8, 7] rfl (by decide) (by decide) rfl mo_Fk_counts mv_Fk_counts kw_717 (by decide) (rcX 7 rfl rfl) rfl (Nat.le_of_ble_eq_true rfl) ⟨Nat.le_of_ble_eq_true rfl, Nat.le_of_ble_eq_true rfl⟩ d_Dy_reckon_72 ?_
    refine g_if_eq C d_Dy_reckon_75 (fun c_2 => ?_) (fun c_2 => ?_)
    · have c_2 := zb_0.mp c_2
      refine g_iinc (v := nI (a.length + 1)) (lv1 := [(0, .ref q0), (1, .int p0), (2, .int p1), (3, .int p2), (4, .int (nI (a.length + 1))), (5, .ref r.1)]) C d_Dy_reckon_86 4 rfl (nI_1 _) [1, 2, 3, 4, 0, 5] (by decide) rfl ?_
      refine g_goto C d_Dy_reckon_89 ?_
      refine g_lv (lv1 := [(0, .ref q0), (1, .int p0), (2, .int p1), (3, .int p2), (4, .int (nI (a.length + 1)))]) [0, 1, 2, 3, 4] rfl ?_
      refine g_closeF (X := [(q0, .inr (1, [.ref q6, .ref q7, .ref q1, .ref q2, .int (t.1, t.2.1, t.2.2).2.1, .int (t.1, t.2.1, t.2.2).2.2])), (q1, .inl (g.2.1 0, 12, .inl (t.1, t.2.1, t.2.2).1)), (q6, .inr (7, [.ref m1, .ref m2, .ref m3, .int (nI n)])), (m2, .inl (g.2.1 0, 12, .inl sf)), (q7, .inr (5, [.ref K.1])), (K.1, .inr (0, [.int K.2.1, .ref K.2.2.1, .int (nI fs.length)])), (K.2.2.1, .inl (g.2.1 4, K.2.2.2.1, .inr (.inr (.inr (.inr K.2.2.2.2)))))]) a r b ?_
      rw [← he]
      have h1 := ih (a ++ [r]) (t.1, t.2.1, t.2.2) (by rw [he]; simp) (by simpa [rkF, c_2] using hE)
      rw [List.length_append, List.length_singleton] at h1
      exact h1
    · have c_2 := zb_n0.mp c_2
      refine g_aload_n C 0 rfl d_Dy_reckon_78 ?_
      refine g_aload C 5 rfl d_Dy_reckon_79 ?_
      refine g_iload_n C 1 rfl d_Dy_reckon_81 ?_
      refine g_iload_n C 2 rfl d_Dy_reckon_82 ?_
      refine g_callVP (rest := []) C (c_Dy_hearFlake l g q0 q1 q2 q6 q7 m1 m2 m3 n r.1 r.2.2.1 r.2.2.2.1 r.2.2.2.2.1 p0 p1 t.2.1 t.2.2 sf t.1 r.2.1 r.2.2.2.2.2 (fcs g a ++ (fcs g b ++ P)) hn hr) [0, 1, 2, 3, 7, 8] [4, 5, 6] rfl (by decide) mo_Dy_hearFlake mv_Dy_hearFlake kw_721 (by decide) (rcX 0 rfl rfl) rfl (Nat.le_of_ble_eq_true rfl) ⟨Nat.le_of_ble_eq_true rfl, Nat.le_of_ble_eq_true rfl⟩ d_Dy_reckon_83 (fun v2 X2 P2 q => ?_)
      obtain ⟨rfl, rfl, rfl⟩ := q
      refine g_ord (X1 := [(q0, .inr (1, [.ref q6, .ref q7, .ref q1, .ref q2, .int (hfC sf n p0 p1 r.2.2.2.2.2 (t.1, t.2.1, t.2.2)).2.1, .int (hfC sf n p0 p1 r.2.2.2.2.2 (t.1, t.2.1, t.2.2)).2.2])), (q1, .inl (g.2.1 0, 12, .inl (hfC sf n p0 p1 r.2.2.2.2.2 (t.1, t.2.1, t.2.2)).1)), (q6, .inr (7, [.ref m1, .ref m2, .ref m3, .int (nI n)])), (m2, .inl (g.2.1 0, 12, .inl sf)), (q7, .inr (5, [.ref K.1])), (K.1, .inr (0, [.int K.2.1, .ref K.2.2.1, .int (nI fs.length)])), (K.2.2.1, .inl (g.2.1 4, K.2.2.2.1, .inr (.inr (.inr (.inr K.2.2.2.2))))), (r.1, .inr (3, [.int r.2.2.1, .ref r.2.1.1, .int r.2.2.2.1, .int r.2.2.2.2.1])), (r.2.1.1, .inr (0, [.int r.2.1.2.1, .ref r.2.1.2.2.1, .int (nI r.2.2.2.2.2.length)]))]) [3, 4, 5, 6, 0, 1, 2, 7, 8] (by decide) rfl ?_
      refine g_iinc (v := nI (a.length + 1)) (lv1 := [(0, .ref q0), (1, .int p0), (2, .int p1), (3, .int p2), (4, .int (nI (a.length + 1))), (5, .ref r.1)]) C d_Dy_reckon_86 4 rfl (nI_1 _) [1, 2, 3, 4, 0, 5] (by decide) rfl ?_
      refine g_goto C d_Dy_reckon_89 ?_
      refine g_lv (lv1 := [(0, .ref q0), (1, .int p0), (2, .int p1), (3, .int p2), (4, .int (nI (a.length + 1)))]) [0, 1, 2, 3, 4] rfl ?_
      refine g_closeF (X := [(q0, .inr (1, [.ref q6, .ref q7, .ref q1, .ref q2, .int ((hfC sf n p0 p1 r.2.2.2.2.2 (t.1, t.2.1, t.2.2)).1, (hfC sf n p0 p1 r.2.2.2.2.2 (t.1, t.2.1, t.2.2)).2.1, (hfC sf n p0 p1 r.2.2.2.2.2 (t.1, t.2.1, t.2.2)).2.2).2.1, .int ((hfC sf n p0 p1 r.2.2.2.2.2 (t.1, t.2.1, t.2.2)).1, (hfC sf n p0 p1 r.2.2.2.2.2 (t.1, t.2.1, t.2.2)).2.1, (hfC sf n p0 p1 r.2.2.2.2.2 (t.1, t.2.1, t.2.2)).2.2).2.2])), (q1, .inl (g.2.1 0, 12, .inl ((hfC sf n p0 p1 r.2.2.2.2.2 (t.1, t.2.1, t.2.2)).1, (hfC sf n p0 p1 r.2.2.2.2.2 (t.1, t.2.1, t.2.2)).2.1, (hfC sf n p0 p1 r.2.2.2.2.2 (t.1, t.2.1, t.2.2)).2.2).1)), (q6, .inr (7, [.ref m1, .ref m2, .ref m3, .int (nI n)])), (m2, .inl (g.2.1 0, 12, .inl sf)), (q7, .inr (5, [.ref K.1])), (K.1, .inr (0, [.int K.2.1, .ref K.2.2.1, .int (nI fs.length)])), (K.2.2.1, .inl (g.2.1 4, K.2.2.2.1, .inr (.inr (.inr (.inr K.2.2.2.2)))))]) a r b ?_
      rw [← he]
      have h1 := ih (a ++ [r]) ((hfC sf n p0 p1 r.2.2.2.2.2 (t.1, t.2.1, t.2.2)).1, (hfC sf n p0 p1 r.2.2.2.2.2 (t.1, t.2.1, t.2.2)).2.1, (hfC sf n p0 p1 r.2.2.2.2.2 (t.1, t.2.1, t.2.2)).2.2) (by rw [he]; simp) (by simpa [rkF, c_2] using hE)
      rw [List.length_append, List.length_singleton] at h1
      exact h1

set_option maxHeartbeats 4000000 in
set_option maxRecDepth 100000 in
theorem lp_reckon0 (l : Launch) (g : Gx) {κ : Kx} {E : Ex} {P : va_W} (q0 q1 q2 q6 q7 m1 m2 m3 n : Nat) (sf : Nat → Int32) (K : AR) (fs : List FR) (p0 p1 p2 : Int32) (st : Nat → Int32) (wt wu : Int32) (C : zC κ l g ({ frames := 5, cells := 0, slots := 0, locals := 109 }) b_Dy_reckon 6 "TombLane$DayBook" "reckon" (some FieldType.int) E) : ∀ (k : Nat) (i : Nat), (i + k = 12) → (G κ 6 0 0 24 [(0, .ref q0), (1, .int p0), (2, .int p1), (3, .int p2)] [] [(q0, .inr (1, [.ref q6, .ref q7, .ref q1, .ref q2, .int wt, .int wu])), (q1, .inl (g.2.1 0, 12, .inl (fa_f0 st 12))), (q6, .inr (7, [.ref m1, .ref m2, .ref m3, .int (nI n)])), (m2, .inl (g.2.1 0, 12, .inl sf)), (q7, .inr (5, [.ref K.1])), (K.1, .inr (0, [.int K.2.1, .ref K.2.2.1, .int (nI fs.length)]))] P) → G κ 6 0 0 3 [(0, .ref q0), (1, .int p0), (2, .int p1), (3, .int p2), (4, .int (nI i))] [] [(q0, .inr (1, [.ref q6, .ref q7, .ref q1, .ref q2, .int wt, .int wu])), (q1, .inl (g.2.1 0, 12, .inl (fa_f0 st i))), (q6, .inr (7, [.ref m1, .ref m2, .ref m3, .int (nI n)])), (m2, .inl (g.2.1 0, 12, .inl sf)), (q7, .inr (5, [.ref K.1])), (K.1, .inr (0, [.int K.2.1, .ref K.2.2.1, .int (nI fs.length)]))] P := by
  intro k
  induction k with
  | zero =>
    intro i hi hE
    have e12 : i = 12 := by omega
    subst e12
    refine g_lv (lv1 := [(0, .ref q0), (1, .int p0), (2, .int p1), (3, .int p2), (4, .int (nI 12))]) [0, 1, 2, 3, 4] rfl ?_
    refine g_iload C 4 rfl d_Dy_reckon_3 ?_
    refine g_bipush (v := 12) C rfl d_Dy_reckon_5 ?_
    refine g_icmp_ge C d_Dy_reckon_7 (fun _ => ?_) (fun c_1 => absurd (nI_le (Nat.le_refl 12) (by decide)) c_1)
    refine g_lv (lv1 := [(0, .ref q0), (1, .int p0), (2, .int p1), (3, .int p2)]) [0, 1, 2, 3] rfl ?_
    exact hE
  | succ k ih =>
    intro i hi hE
    refine g_iload C 4 rfl d_Dy_reckon_3 ?_
    refine g_bipush (v := 12) C rfl d_Dy_reckon_5 ?_
    refine g_icmp_ge C d_Dy_reckon_7 (fun c_1 => absurd c_1 (nI_ge (b := 12) (by omega) (by decide))) (fun _ => ?_)
    refine g_aload_n C 0 rfl d_Dy_reckon_10 ?_
    refine g_get C 0 rfl rfl in_Dy 2 (by decide) kw_281 rfl d_Dy_reckon_11 ?_
    refine g_iload C 4 rfl d_Dy_reckon_14 ?_
    refine g_iconst (v := 0) C rfl d_Dy_reckon_16 ?_
    refine g_iast (X1 := [(q0, .inr (1, [.ref q6, .ref q7, .ref q1, .ref q2, .int wt, .int wu])), (q1, .inl (g.2.1 0, 12, .inl (upd (fa_f0 st i) (Int32.toNatClampNeg (nI i)) 0))), (q6, .inr (7, [.ref m1, .ref m2, .ref m3, .int (nI n)])), (m2, .inl (g.2.1 0, 12, .inl sf)), (q7, .inr (5, [.ref K.1])), (K.1, .inr (0, [.int K.2.1, .ref K.2.2.1, .int (nI fs.length)]))]) C 1 rfl (vp_in_nI (by omega) (by decide)) rfl d_Dy_reckon_17 ?_
    refine g_eq (X1 := [(q0, .inr (1, [.ref q6, .ref q7, .ref q1, .ref q2, .int wt, .int wu])), (q1, .inl (g.2.1 0, 12, .inl (upd (fa_f0 st i) i 0))), (q6, .inr (7, [.ref m1, .ref m2, .ref m3, .int (nI n)])), (m2, .inl (g.2.1 0, 12, .inl sf)), (q7, .inr (5, [.ref K.1])), (K.1, .inr (0, [.int K.2.1, .ref K.2.2.1, .int (nI fs.length)]))]) rfl (by rw [nI_clamp (by omega)]) ?_
    refine g_iinc (v := nI (i + 1)) (lv1 := [(0, .ref q0), (1, .int p0), (2, .int p1), (3, .int p2), (4, .int (nI (i + 1)))]) C d_Dy_reckon_18 4 rfl (nI_1 _) [1, 2, 3, 4, 0] (by decide) rfl ?_
    refine g_goto C d_Dy_reckon_21 ?_
    refine g_eq (X1 := [(q0, .inr (1, [.ref q6, .ref q7, .ref q1, .ref q2, .int wt, .int wu])), (q1, .inl (g.2.1 0, 12, .inl (fa_f0 st (i + 1)))), (q6, .inr (7, [.ref m1, .ref m2, .ref m3, .int (nI n)])), (m2, .inl (g.2.1 0, 12, .inl sf)), (q7, .inr (5, [.ref K.1])), (K.1, .inr (0, [.int K.2.1, .ref K.2.2.1, .int (nI fs.length)]))]) rfl (by rw [upd_fill]) ?_
    exact ih (i + 1) (by omega) hE

set_option maxHeartbeats 4000000 in
set_option maxRecDepth 100000 in
theorem c_Dy_reckon (l : Launch) (g : Gx) (q0 q1 q2 q6 q7 m1 m2 m3 n : Nat) (sf : Nat → Int32) (K : AR) (fs : List FR) (p0 p1 p2 : Int32) (st : Nat → Int32) (wt wu : Int32) (P : va_W) (hn : n ≤ 12) (hK : okA g K (fad fs)) (hfk : ∀ r ∈ fs, fok g r) : MP l g y_Dy_reckon b_Dy_reckon 6 (some FieldType.int) ({ frames := 5, cells := 0, slots := 0, locals := 109 }) [.ref q0, .int p0, .int p1, .int p2] [(q0, .inr (1, [.ref q6, .ref q7, .ref q1, .ref q2, .int wt, .int wu])), (q1, .inl (g.2.1 0, 12, .inl st)), (q6, .inr (7, [.ref m1, .ref m2, .ref m3, .int (nI n)])), (m2, .inl (g.2.1 0, 12, .inl sf)), (q7, .inr (5, [.ref K.1])), (K.1, .inr (0, [.int K.2.1, .ref K.2.2.1, .int (nI fs.length)]))] (arc g K fs.length ++ (fcs g fs ++ P)) (fun v2 X2 P2 => v2 = some (.int (nrC sf n p0 p1 p2 fs).1) ∧ X2 = [(q0, .inr (1, [.ref q6, .ref q7, .ref q1, .ref q2, .int (rkC sf n p0 p1 p2 fs).2.1, .int (rkC sf n p0 p1 p2 fs).2.2])), (q1, .inl (g.2.1 0, 12, .inl (nrC sf n p0 p1 p2 fs).2)), (q6, .inr (7, [.ref m1, .ref m2, .ref m3, .int (nI n)])), (m2, .inl (g.2.1 0, 12, .inl sf)), (q7, .inr (5, [.ref K.1])), (K.1, .inr (0, [.int K.2.1, .ref K.2.2.1, .int (nI fs.length)]))] ∧ P2 = arc g K fs.length ++ (fcs g fs ++ P)) := by
  refine MP.of (by decide) (Nat.le_of_ble_eq_true rfl) (fun κ C => ?_)
  have C : zC κ l g ({ frames := 5, cells := 0, slots := 0, locals := 109 }) b_Dy_reckon 6 "TombLane$DayBook" "reckon" (some FieldType.int) _ := C
  refine g_lv (lv1 := [(0, .ref q0), (1, .int p0), (2, .int p1), (3, .int p2)]) [0, 1, 2, 3] rfl ?_
  refine g_iconst (v := 0) C rfl d_Dy_reckon_0 ?_
  refine g_istore (lv1 := [(0, .ref q0), (1, .int p0), (2, .int p1), (3, .int p2), (4, .int 0)]) C d_Dy_reckon_1 [1, 2, 3, 4, 0] (by decide) rfl ?_
  refine g_eq (X1 := [(q0, .inr (1, [.ref q6, .ref q7, .ref q1, .ref q2, .int wt, .int wu])), (q1, .inl (g.2.1 0, 12, .inl (fa_f0 st 0))), (q6, .inr (7, [.ref m1, .ref m2, .ref m3, .int (nI n)])), (m2, .inl (g.2.1 0, 12, .inl sf)), (q7, .inr (5, [.ref K.1])), (K.1, .inr (0, [.int K.2.1, .ref K.2.2.1, .int (nI fs.length)]))]) rfl (by rw [show fa_f0 st 0 = st from by funext j; simp [fa_f0]]) ?_
  refine lp_reckon0 l g q0 q1 q2 q6 q7 m1 m2 m3 n sf K fs p0 p1 p2 st wt wu C 12 0 (by omega) ?_
  refine g_exti (f' := fun _ => 0) (X1 := [(q0, .inr (1, [.ref q6, .ref q7, .ref q1, .ref q2, .int wt, .int wu])), (q1, .inl (g.2.1 0, 12, .inl (fun _ => 0))), (q6, .inr (7, [.ref m1, .ref m2, .ref m3, .int (nI n)])), (m2, .inl (g.2.1 0, 12, .inl sf)), (q7, .inr (5, [.ref K.1])), (K.1, .inr (0, [.int K.2.1, .ref K.2.2.1, .int (nI fs.length)]))]) 1 rfl (fun j hj => by simp [fa_f0, hj]) rfl ?_
  refine g_aload_n C 0 rfl d_Dy_reckon_24 ?_
  refine g_iconst (v := (-1)) C rfl d_Dy_reckon_25 ?_
  refine g_put (X1 := [(q0, .inr (1, [.ref q6, .ref q7, .ref q1, .ref q2, .int (-1), .int wu])), (q1, .inl (g.2.1 0, 12, .inl (fun _ => 0))), (q6, .inr (7, [.ref m1, .ref m2, .ref m3, .int (nI n)])), (m2, .inl (g.2.1 0, 12, .inl sf)), (q7, .inr (5, [.ref K.1])), (K.1, .inr (0, [.int K.2.1, .ref K.2.2.1, .int (nI fs.length)]))]) C 0 rfl rfl in_Dy 4 (by decide) ok_Dy nm_Dy kw_283 rfl rfl rfl (Nat.le_of_ble_eq_true rfl) rfl d_Dy_reckon_26 ?_
  refine g_aload_n C 0 rfl d_Dy_reckon_29 ?_
  refine g_iconst (v := 0) C rfl d_Dy_reckon_30 ?_
  refine g_put (X1 := [(q0, .inr (1, [.ref q6, .ref q7, .ref q1, .ref q2, .int (-1), .int 0])), (q1, .inl (g.2.1 0, 12, .inl (fun _ => 0))), (q6, .inr (7, [.ref m1, .ref m2, .ref m3, .int (nI n)])), (m2, .inl (g.2.1 0, 12, .inl sf)), (q7, .inr (5, [.ref K.1])), (K.1, .inr (0, [.int K.2.1, .ref K.2.2.1, .int (nI fs.length)]))]) C 0 rfl rfl in_Dy 5 (by decide) ok_Dy nm_Dy kw_284 rfl rfl rfl (Nat.le_of_ble_eq_true rfl) rfl d_Dy_reckon_31 ?_
  refine g_iconst (v := 0) C rfl d_Dy_reckon_34 ?_
  refine g_istore (lv1 := [(0, .ref q0), (1, .int p0), (2, .int p1), (3, .int p2), (4, .int 0)]) C d_Dy_reckon_35 [1, 2, 3, 4, 0] (by decide) rfl ?_
  by_cases h0 : fs = []
  · have hl0 : fs.length = 0 := by rw [h0]; rfl
    refine g_iload C 4 rfl d_Dy_reckon_37 ?_
    refine g_aload_n C 0 rfl d_Dy_reckon_39 ?_
    refine g_get C 0 rfl rfl in_Dy 1 (by decide) kw_280 rfl d_Dy_reckon_40 ?_
    refine g_getN C 4 rfl rfl in_Fs 0 (by decide) kw_269 rfl d_Dy_reckon_43 ?_
    refine g_callV0 (rest := [.int 0]) (Xn := [(q0, .inr (1, [.ref q6, .ref q7, .ref q1, .ref q2, .int (-1), .int 0])), (q1, .inl (g.2.1 0, 12, .inl (fun _ => 0))), (q6, .inr (7, [.ref m1, .ref m2, .ref m3, .int (nI n)])), (m2, .inl (g.2.1 0, 12, .inl sf)), (q7, .inr (5, [.ref K.1])), (K.1, .inr (0, [.int K.2.1, .ref K.2.2.1, .int (nI fs.length)]))]) C (c_AL_size l g K.1 K.2.2.1 K.2.1 (nI fs.length)) [5] [0, 1, 2, 3, 4] [0, 1, 2, 3, 4, 5] rfl (by decide) (by decide) rfl mo_AL_size mv_AL_size kw_714 (by decide) (rcX 5 rfl rfl) rfl (Nat.le_of_ble_eq_true rfl) ⟨Nat.le_of_ble_eq_true rfl, Nat.le_of_ble_eq_true rfl⟩ d_Dy_reckon_46 ?_
    refine g_icmp_ge C d_Dy_reckon_49 (fun _ => ?_) (fun c_1 => absurd (by rw [hl0]; decide) c_1)
    refine g_lv (lv1 := [(0, .ref q0), (1, .int p0), (2, .int p1), (3, .int p2)]) [0, 1, 2, 3] rfl ?_
    have e0 : (rkC sf n p0 p1 p2 fs) = ((fun _ => 0, (-1), 0) : DS) := by rw [h0]; rfl
    refine g_eq (X1 := [(q0, .inr (1, [.ref q6, .ref q7, .ref q1, .ref q2, .int (rkC sf n p0 p1 p2 fs).2.1, .int (rkC sf n p0 p1 p2 fs).2.2])), (q1, .inl (g.2.1 0, 12, .inl (rkC sf n p0 p1 p2 fs).1)), (q6, .inr (7, [.ref m1, .ref m2, .ref m3, .int (nI n)])), (m2, .inl (g.2.1 0, 12, .inl sf)), (q7, .inr (5, [.ref K.1])), (K.1, .inr (0, [.int K.2.1, .ref K.2.2.1, .int (nI fs.length)]))]) rfl (by rw [e0]) ?_
    refine g_aload_n C 0 rfl d_Dy_reckon_92 ?_
    refine g_iload_n C 1 rfl d_Dy_reckon_93 ?_
    refine g_callV0 (rest := []) (Xn := [(q0, .inr (1, [.ref q6, .ref q7, .ref q1, .ref q2, .int (rkC sf n p0 p1 p2 fs).2.1, .int (rkC sf n p0 p1 p2 fs).2.2])), (q1, .inl (g.2.1 0, 12, .inl (nrw sf (rkC sf n p0 p1 p2 fs).1 (rkC sf n p0 p1 p2 fs).2.1 (rkC sf n p0 p1 p2 fs).2.2 p0 n).2)), (q6, .inr (7, [.ref m1, .ref m2, .ref m3, .int (nI n)])), (m2, .inl (g.2.1 0, 12, .inl sf)), (q7, .inr (5, [.ref K.1])), (K.1, .inr (0, [.int K.2.1, .ref K.2.2.1, .int (nI fs.length)]))]) C (c_Dy_narrow l g q0 q1 q2 q6 q7 m1 m2 m3 n (rkC sf n p0 p1 p2 fs).2.1 (rkC sf n p0 p1 p2 fs).2.2 sf (rkC sf n p0 p1 p2 fs).1 p0 (by first | assumption | omega | exact nI_pos (by omega))) [0, 1, 2, 3] [4, 5] [2, 3, 4, 5, 0, 1] rfl (by decide) (by decide) rfl mo_Dy_narrow mv_Dy_narrow kw_741 (by decide) (rcX 0 rfl rfl) rfl (Nat.le_of_ble_eq_true rfl) ⟨Nat.le_of_ble_eq_true rfl, Nat.le_of_ble_eq_true rfl⟩ d_Dy_reckon_94 ?_
    exact g_iret C rfl ⟨(by rfl), (by rfl), rfl⟩ (by first | decide | (dsimp only; omega)) (by first | decide | (dsimp only; omega)) d_Dy_reckon_97
  · have hl0 : ¬ fs.length = 0 := fun z => h0 (List.eq_nil_of_length_eq_zero z)
    obtain ⟨h1, h2, h3⟩ := hK.2 (by unfold fad; simpa using h0)
    have h4 : fs.length ≤ K.2.2.2.1 := by simpa [fad] using h1
    have h5 : ∀ j (h : j < fs.length), K.2.2.2.2 j = some (fs[j]).1 := fun j h => by rw [h3 j (by simpa [fad] using h)]; simp [fad]
    refine g_tl (X1 := [(q0, .inr (1, [.ref q6, .ref q7, .ref q1, .ref q2, .int (-1), .int 0])), (q1, .inl (g.2.1 0, 12, .inl (fun _ => 0))), (q6, .inr (7, [.ref m1, .ref m2, .ref m3, .int (nI n)])), (m2, .inl (g.2.1 0, 12, .inl sf)), (q7, .inr (5, [.ref K.1])), (K.1, .inr (0, [.int K.2.1, .ref K.2.2.1, .int (nI fs.length)])), (K.2.2.1, .inl (g.2.1 4, K.2.2.2.1, .inr (.inr (.inr (.inr K.2.2.2.2)))))]) (P1 := fcs g fs ++ P) (by rw [arc_ne hl0]; rfl) ?_
    refine lp_reckon l g q0 q1 q2 q6 q7 m1 m2 m3 n sf K fs p0 p1 p2 hn h4 h2 h5 hfk C fs [] ((fun _ => 0, (-1), 0) : DS) rfl ?_
    refine g_tl (X1 := [(q0, .inr (1, [.ref q6, .ref q7, .ref q1, .ref q2, .int (rkC sf n p0 p1 p2 fs).2.1, .int (rkC sf n p0 p1 p2 fs).2.2])), (q1, .inl (g.2.1 0, 12, .inl (rkC sf n p0 p1 p2 fs).1)), (q6, .inr (7, [.ref m1, .ref m2, .ref m3, .int (nI n)])), (m2, .inl (g.2.1 0, 12, .inl sf)), (q7, .inr (5, [.ref K.1])), (K.1, .inr (0, [.int K.2.1, .ref K.2.2.1, .int (nI fs.length)]))]) (P1 := arc g K fs.length ++ (fcs g fs ++ P)) (by rw [arc_ne hl0]; rfl) ?_
    refine g_aload_n C 0 rfl d_Dy_reckon_92 ?_
    refine g_iload_n C 1 rfl d_Dy_reckon_93 ?_
    refine g_callV0 (rest := []) (Xn := [(q0, .inr (1, [.ref q6, .ref q7, .ref q1, .ref q2, .int (rkC sf n p0 p1 p2 fs).2.1, .int (rkC sf n p0 p1 p2 fs).2.2])), (q1, .inl (g.2.1 0, 12, .inl (nrw sf (rkC sf n p0 p1 p2 fs).1 (rkC sf n p0 p1 p2 fs).2.1 (rkC sf n p0 p1 p2 fs).2.2 p0 n).2)), (q6, .inr (7, [.ref m1, .ref m2, .ref m3, .int (nI n)])), (m2, .inl (g.2.1 0, 12, .inl sf)), (q7, .inr (5, [.ref K.1])), (K.1, .inr (0, [.int K.2.1, .ref K.2.2.1, .int (nI fs.length)]))]) C (c_Dy_narrow l g q0 q1 q2 q6 q7 m1 m2 m3 n (rkC sf n p0 p1 p2 fs).2.1 (rkC sf n p0 p1 p2 fs).2.2 sf (rkC sf n p0 p1 p2 fs).1 p0 (by first | assumption | omega | exact nI_pos (by omega))) [0, 1, 2, 3] [4, 5] [2, 3, 4, 5, 0, 1] rfl (by decide) (by decide) rfl mo_Dy_narrow mv_Dy_narrow kw_741 (by decide) (rcX 0 rfl rfl) rfl (Nat.le_of_ble_eq_true rfl) ⟨Nat.le_of_ble_eq_true rfl, Nat.le_of_ble_eq_true rfl⟩ d_Dy_reckon_94 ?_
    exact g_iret C rfl ⟨(by rfl), (by rfl), rfl⟩ (by first | decide | (dsimp only; omega)) (by first | decide | (dsimp only; omega)) d_Dy_reckon_97

set_option maxHeartbeats 4000000 in
set_option maxRecDepth 100000 in
theorem c_Dy_stateOf (l : Launch) (g : Gx) (q0 q1 q2 q6 q7 m1 m2 m3 n : Nat) (sf : Nat → Int32) (K : AR) (fs : List FR) (p0 p1 p2 : Int32) (st : Nat → Int32) (wt wu : Int32) (P : va_W) (hn : n ≤ 12) (hK : okA g K (fad fs)) (hfk : ∀ r ∈ fs, fok g r) (hp : vp_in p0 12) : MP l g y_Dy_stateOf b_Dy_stateOf 4 (some FieldType.int) ({ frames := 6, cells := 0, slots := 0, locals := 134 }) [.ref q0, .int p0, .int p1, .int p2] [(q0, .inr (1, [.ref q6, .ref q7, .ref q1, .ref q2, .int wt, .int wu])), (q1, .inl (g.2.1 0, 12, .inl st)), (q6, .inr (7, [.ref m1, .ref m2, .ref m3, .int (nI n)])), (m2, .inl (g.2.1 0, 12, .inl sf)), (q7, .inr (5, [.ref K.1])), (K.1, .inr (0, [.int K.2.1, .ref K.2.2.1, .int (nI fs.length)]))] (arc g K fs.length ++ (fcs g fs ++ P)) (fun v2 X2 P2 => v2 = some (.int ((nrC sf n (sf p0.toNatClampNeg) p1 p2 fs).2 p0.toNatClampNeg)) ∧ X2 = [(q0, .inr (1, [.ref q6, .ref q7, .ref q1, .ref q2, .int (rkC sf n (sf p0.toNatClampNeg) p1 p2 fs).2.1, .int (rkC sf n (sf p0.toNatClampNeg) p1 p2 fs).2.2])), (q1, .inl (g.2.1 0, 12, .inl (nrC sf n (sf p0.toNatClampNeg) p1 p2 fs).2)), (q6, .inr (7, [.ref m1, .ref m2, .ref m3, .int (nI n)])), (m2, .inl (g.2.1 0, 12, .inl sf)), (q7, .inr (5, [.ref K.1])), (K.1, .inr (0, [.int K.2.1, .ref K.2.2.1, .int (nI fs.length)]))] ∧ P2 = arc g K fs.length ++ (fcs g fs ++ P)) := by
  refine MP.of (by decide) (Nat.le_of_ble_eq_true rfl) (fun κ C => ?_)
  have C : zC κ l g ({ frames := 6, cells := 0, slots := 0, locals := 134 }) b_Dy_stateOf 4 "TombLane$DayBook" "stateOf" (some FieldType.int) _ := C
  refine g_lv (lv1 := [(0, .ref q0), (1, .int p0), (2, .int p1), (3, .int p2)]) [0, 1, 2, 3] rfl ?_
  refine g_aload_n C 0 rfl d_Dy_stateOf_0 ?_
  refine g_aload_n C 0 rfl d_Dy_stateOf_1 ?_
  refine g_get C 0 rfl rfl in_Dy 0 (by decide) kw_279 rfl d_Dy_stateOf_2 ?_
  refine g_getN C 2 rfl rfl in_Me 1 (by decide) kw_116 rfl d_Dy_stateOf_5 ?_
  refine g_iload_n C 1 rfl d_Dy_stateOf_8 ?_
  refine g_iald C 3 rfl hp d_Dy_stateOf_9 ?_
  refine g_iload_n C 2 rfl d_Dy_stateOf_10 ?_
  refine g_iload_n C 3 rfl d_Dy_stateOf_11 ?_
  refine g_callVP (rest := []) C (c_Dy_reckon l g q0 q1 q2 q6 q7 m1 m2 m3 n sf K fs (sf (Int32.toNatClampNeg p0)) p1 p2 st wt wu P hn hK hfk) [0, 1, 2, 3, 4, 5] [] rfl (by decide) mo_Dy_reckon mv_Dy_reckon kw_710 (by decide) (rcX 0 rfl rfl) rfl (Nat.le_of_ble_eq_true rfl) ⟨Nat.le_of_ble_eq_true rfl, Nat.le_of_ble_eq_true rfl⟩ d_Dy_stateOf_12 (fun v2 X2 P2 q => ?_)
  obtain ⟨rfl, rfl, rfl⟩ := q
  refine g_ord (X1 := [(q0, .inr (1, [.ref q6, .ref q7, .ref q1, .ref q2, .int (rkC sf n (sf (Int32.toNatClampNeg p0)) p1 p2 fs).2.1, .int (rkC sf n (sf (Int32.toNatClampNeg p0)) p1 p2 fs).2.2])), (q1, .inl (g.2.1 0, 12, .inl (nrC sf n (sf (Int32.toNatClampNeg p0)) p1 p2 fs).2)), (q6, .inr (7, [.ref m1, .ref m2, .ref m3, .int (nI n)])), (m2, .inl (g.2.1 0, 12, .inl sf)), (q7, .inr (5, [.ref K.1])), (K.1, .inr (0, [.int K.2.1, .ref K.2.2.1, .int (nI fs.length)]))]) [0, 1, 2, 3, 4, 5] (by decide) rfl ?_
  refine g_pop C rfl d_Dy_stateOf_15 ?_
  refine g_aload_n C 0 rfl d_Dy_stateOf_16 ?_
  refine g_get C 0 rfl rfl in_Dy 2 (by decide) kw_281 rfl d_Dy_stateOf_17 ?_
  refine g_iload_n C 1 rfl d_Dy_stateOf_20 ?_
  refine g_iald C 1 rfl hp d_Dy_stateOf_21 ?_
  exact g_iret C rfl ⟨(by rfl), (by rfl), rfl⟩ (by first | decide | (dsimp only; omega)) (by first | decide | (dsimp only; omega)) d_Dy_stateOf_22

/-- the days of a month, counted by what they are -/
def dbs (sf : Nat → Int32) (n : Nat) (fs : List FR) (p : Nat) (mo kk : Int32) : Nat → Nat → (Nat → Int32) × DS → (Nat → Int32) × DS
  | 0, _, x => x
  | k + 1, i, x => dbs sf n fs p mo kk k (i + 1) (upd x.1 ((nrC sf n (sf p) (mo * 30 + nI i) kk fs).2 p).toNatClampNeg (x.1 ((nrC sf n (sf p) (mo * 30 + nI i) kk fs).2 p).toNatClampNeg + 1), (nrC sf n (sf p) (mo * 30 + nI i) kk fs).2, (rkC sf n (sf p) (mo * 30 + nI i) kk fs).2)
def dsC (sf : Nat → Int32) (n : Nat) (fs : List FR) (p : Nat) (mo kk : Int32) (t : DS) : (Nat → Int32) × DS := dbs sf n fs p mo kk 30 0 (fun _ => 0, t)
set_option maxHeartbeats 4000000 in
set_option maxRecDepth 100000 in
theorem lp_dbs0 (l : Launch) (g : Gx) {κ : Kx} {E : Ex} {P : va_W} (q0 q1 q2 q6 q7 m1 m2 m3 n : Nat) (sf : Nat → Int32) (K : AR) (fs : List FR) (p0 p1 p2 : Int32) (st : Nat → Int32) (wt wu : Int32) (df : Nat → Int32) (C : zC κ l g ({ frames := 7, cells := 0, slots := 0, locals := 157 }) b_Dy_daysByState 5 "TombLane$DayBook" "daysByState" (some (FieldType.array FieldType.int)) E) : ∀ (k : Nat) (i : Nat), (i + k = 8) → (G κ 5 0 0 24 [(0, .ref q0), (1, .int p0), (2, .int p1), (3, .int p2)] [] [(q0, .inr (1, [.ref q6, .ref q7, .ref q1, .ref q2, .int wt, .int wu])), (q1, .inl (g.2.1 0, 12, .inl st)), (q6, .inr (7, [.ref m1, .ref m2, .ref m3, .int (nI n)])), (m2, .inl (g.2.1 0, 12, .inl sf)), (q7, .inr (5, [.ref K.1])), (K.1, .inr (0, [.int K.2.1, .ref K.2.2.1, .int (nI fs.length)])), (q2, .inl (g.2.1 0, 8, .inl (fa_f0 df 8)))] P) → G κ 5 0 0 3 [(0, .ref q0), (1, .int p0), (2, .int p1), (3, .int p2), (4, .int (nI i))] [] [(q0, .inr (1, [.ref q6, .ref q7, .ref q1, .ref q2, .int wt, .int wu])), (q1, .inl (g.2.1 0, 12, .inl st)), (q6, .inr (7, [.ref m1, .ref m2, .ref m3, .int (nI n)])), (m2, .inl (g.2.1 0, 12, .inl sf)), (q7, .inr (5, [.ref K.1])), (K.1, .inr (0, [.int K.2.1, .ref K.2.2.1, .int (nI fs.length)])), (q2, .inl (g.2.1 0, 8, .inl (fa_f0 df i)))] P := by
  intro k
  induction k with
  | zero =>
    intro i hi hE
    have e12 : i = 8 := by omega
    subst e12
    refine g_lv (lv1 := [(0, .ref q0), (1, .int p0), (2, .int p1), (3, .int p2), (4, .int (nI 8))]) [0, 1, 2, 3, 4] rfl ?_
    refine g_iload C 4 rfl d_Dy_daysByState_3 ?_
    refine g_bipush (v := 8) C rfl d_Dy_daysByState_5 ?_
    refine g_icmp_ge C d_Dy_daysByState_7 (fun _ => ?_) (fun c_1 => absurd (nI_le (Nat.le_refl 8) (by decide)) c_1)
    refine g_lv (lv1 := [(0, .ref q0), (1, .int p0), (2, .int p1), (3, .int p2)]) [0, 1, 2, 3] rfl ?_
    exact hE
  | succ k ih =>
    intro i hi hE
    refine g_iload C 4 rfl d_Dy_daysByState_3 ?_
    refine g_bipush (v := 8) C rfl d_Dy_daysByState_5 ?_
    refine g_icmp_ge C d_Dy_daysByState_7 (fun c_1 => absurd c_1 (nI_ge (b := 8) (by omega) (by decide))) (fun _ => ?_)
    refine g_aload_n C 0 rfl d_Dy_daysByState_10 ?_
    refine g_get C 0 rfl rfl in_Dy 3 (by decide) kw_282 rfl d_Dy_daysByState_11 ?_
    refine g_iload C 4 rfl d_Dy_daysByState_14 ?_
    refine g_iconst (v := 0) C rfl d_Dy_daysByState_16 ?_
    refine g_iast (X1 := [(q0, .inr (1, [.ref q6, .ref q7, .ref q1, .ref q2, .int wt, .int wu])), (q1, .inl (g.2.1 0, 12, .inl st)), (q6, .inr (7, [.ref m1, .ref m2, .ref m3, .int (nI n)])), (m2, .inl (g.2.1 0, 12, .inl sf)), (q7, .inr (5, [.ref K.1])), (K.1, .inr (0, [.int K.2.1, .ref K.2.2.1, .int (nI fs.length)])), (q2, .inl (g.2.1 0, 8, .inl (upd (fa_f0 df i) (Int32.toNatClampNeg (nI i)) 0)))]) C 6 rfl (vp_in_nI (by omega) (by decide)) rfl d_Dy_daysByState_17 ?_
    refine g_eq (X1 := [(q0, .inr (1, [.ref q6, .ref q7, .ref q1, .ref q2, .int wt, .int wu])), (q1, .inl (g.2.1 0, 12, .inl st)), (q6, .inr (7, [.ref m1, .ref m2, .ref m3, .int (nI n)])), (m2, .inl (g.2.1 0, 12, .inl sf)), (q7, .inr (5, [.ref K.1])), (K.1, .inr (0, [.int K.2.1, .ref K.2.2.1, .int (nI fs.length)])), (q2, .inl (g.2.1 0, 8, .inl (upd (fa_f0 df i) i 0)))]) rfl (by rw [nI_clamp (by omega)]) ?_
    refine g_iinc (v := nI (i + 1)) (lv1 := [(0, .ref q0), (1, .int p0), (2, .int p1), (3, .int p2), (4, .int (nI (i + 1)))]) C d_Dy_daysByState_18 4 rfl (nI_1 _) [1, 2, 3, 4, 0] (by decide) rfl ?_
    refine g_goto C d_Dy_daysByState_21 ?_
    refine g_eq (X1 := [(q0, .inr (1, [.ref q6, .ref q7, .ref q1, .ref q2, .int wt, .int wu])), (q1, .inl (g.2.1 0, 12, .inl st)), (q6, .inr (7, [.ref m1, .ref m2, .ref m3, .int (nI n)])), (m2, .inl (g.2.1 0, 12, .inl sf)), (q7, .inr (5, [.ref K.1])), (K.1, .inr (0, [.int K.2.1, .ref K.2.2.1, .int (nI fs.length)])), (q2, .inl (g.2.1 0, 8, .inl (fa_f0 df (i + 1))))]) rfl (by rw [upd_fill]) ?_
    exact ih (i + 1) (by omega) hE

set_option maxHeartbeats 4000000 in
set_option maxRecDepth 100000 in
theorem lp_dbs (l : Launch) (g : Gx) {κ : Kx} {E : Ex} {P : va_W} (q0 q1 q2 q6 q7 m1 m2 m3 n : Nat) (sf : Nat → Int32) (K : AR) (fs : List FR) (p0 p1 p2 : Int32) (hn : n ≤ 12) (hK : okA g K (fad fs)) (hfk : ∀ r ∈ fs, fok g r) (hp : vp_in p0 12) (hv : ∀ d, vp_in ((nrC sf n (sf p0.toNatClampNeg) d p2 fs).2 p0.toNatClampNeg) 8) (C : zC κ l g ({ frames := 7, cells := 0, slots := 0, locals := 157 }) b_Dy_daysByState 5 "TombLane$DayBook" "daysByState" (some (FieldType.array FieldType.int)) E) : ∀ (k i : Nat) (x : (Nat → Int32) × DS), i + k = 30 → (G κ 5 0 0 62 [(0, .ref q0), (1, .int p0), (2, .int p1), (3, .int p2)] [] [(q0, .inr (1, [.ref q6, .ref q7, .ref q1, .ref q2, .int (dbs sf n fs p0.toNatClampNeg p1 p2 k i x).2.2.1, .int (dbs sf n fs p0.toNatClampNeg p1 p2 k i x).2.2.2])), (q1, .inl (g.2.1 0, 12, .inl (dbs sf n fs p0.toNatClampNeg p1 p2 k i x).2.1)), (q6, .inr (7, [.ref m1, .ref m2, .ref m3, .int (nI n)])), (m2, .inl (g.2.1 0, 12, .inl sf)), (q7, .inr (5, [.ref K.1])), (K.1, .inr (0, [.int K.2.1, .ref K.2.2.1, .int (nI fs.length)])), (q2, .inl (g.2.1 0, 8, .inl (dbs sf n fs p0.toNatClampNeg p1 p2 k i x).1))] (arc g K fs.length ++ (fcs g fs ++ P))) → G κ 5 0 0 27 [(0, .ref q0), (1, .int p0), (2, .int p1), (3, .int p2), (4, .int (nI i))] [] [(q0, .inr (1, [.ref q6, .ref q7, .ref q1, .ref q2, .int x.2.2.1, .int x.2.2.2])), (q1, .inl (g.2.1 0, 12, .inl x.2.1)), (q6, .inr (7, [.ref m1, .ref m2, .ref m3, .int (nI n)])), (m2, .inl (g.2.1 0, 12, .inl sf)), (q7, .inr (5, [.ref K.1])), (K.1, .inr (0, [.int K.2.1, .ref K.2.2.1, .int (nI fs.length)])), (q2, .inl (g.2.1 0, 8, .inl x.1))] (arc g K fs.length ++ (fcs g fs ++ P)) := by
  intro k
  induction k with
  | zero =>
    intro i x hi hE
    have e12 : i = 30 := by omega
    subst e12
    refine g_iload C 4 rfl d_Dy_daysByState_27 ?_
    refine g_bipush (v := 30) C rfl d_Dy_daysByState_29 ?_
    refine g_icmp_ge C d_Dy_daysByState_31 (fun _ => ?_) (fun c_1 => absurd (nI_le (Nat.le_refl 30) (by decide)) c_1)
    refine g_lv (lv1 := [(0, .ref q0), (1, .int p0), (2, .int p1), (3, .int p2)]) [0, 1, 2, 3] rfl ?_
    exact hE
  | succ k ih =>
    intro i x hi hE
    refine g_iload C 4 rfl d_Dy_daysByState_27 ?_
    refine g_bipush (v := 30) C rfl d_Dy_daysByState_29 ?_
    refine g_icmp_ge C d_Dy_daysByState_31 (fun c_1 => absurd c_1 (nI_ge (b := 30) (by omega) (by decide))) (fun _ => ?_)
    refine g_aload_n C 0 rfl d_Dy_daysByState_34 ?_
    refine g_get C 0 rfl rfl in_Dy 3 (by decide) kw_282 rfl d_Dy_daysByState_35 ?_
    refine g_aload_n C 0 rfl d_Dy_daysByState_38 ?_
    refine g_iload_n C 1 rfl d_Dy_daysByState_39 ?_
    refine g_iload_n C 2 rfl d_Dy_daysByState_40 ?_
    refine g_bipush (v := 30) C rfl d_Dy_daysByState_41 ?_
    refine g_imul C d_Dy_daysByState_43 ?_
    refine g_iload C 4 rfl d_Dy_daysByState_44 ?_
    refine g_iadd C d_Dy_daysByState_46 ?_
    refine g_iload_n C 3 rfl d_Dy_daysByState_47 ?_
    refine g_callVP (rest := [.ref q2]) C (c_Dy_stateOf l g q0 q1 q2 q6 q7 m1 m2 m3 n sf K fs p0 ((p1 * 30) + (nI i)) p2 x.2.1 x.2.2.1 x.2.2.2 P hn hK hfk hp) [0, 1, 2, 3, 4, 5] [6] rfl (by decide) mo_Dy_stateOf mv_Dy_stateOf kw_766 (by decide) (rcX 0 rfl rfl) rfl (Nat.le_of_ble_eq_true rfl) ⟨Nat.le_of_ble_eq_true rfl, Nat.le_of_ble_eq_true rfl⟩ d_Dy_daysByState_48 (fun v2 X2 P2 q => ?_)
    obtain ⟨rfl, rfl, rfl⟩ := q
    refine g_ord (X1 := [(q0, .inr (1, [.ref q6, .ref q7, .ref q1, .ref q2, .int (rkC sf n (sf p0.toNatClampNeg) ((p1 * 30) + (nI i)) p2 fs).2.1, .int (rkC sf n (sf p0.toNatClampNeg) ((p1 * 30) + (nI i)) p2 fs).2.2])), (q1, .inl (g.2.1 0, 12, .inl (nrC sf n (sf p0.toNatClampNeg) ((p1 * 30) + (nI i)) p2 fs).2)), (q6, .inr (7, [.ref m1, .ref m2, .ref m3, .int (nI n)])), (m2, .inl (g.2.1 0, 12, .inl sf)), (q7, .inr (5, [.ref K.1])), (K.1, .inr (0, [.int K.2.1, .ref K.2.2.1, .int (nI fs.length)])), (q2, .inl (g.2.1 0, 8, .inl x.1))]) [1, 2, 3, 4, 5, 6, 0] (by decide) rfl ?_
    refine g_dup2 C rfl rfl d_Dy_daysByState_51 ?_
    refine g_iald C 6 rfl (hv _) d_Dy_daysByState_52 ?_
    refine g_iconst (v := 1) C rfl d_Dy_daysByState_53 ?_
    refine g_iadd C d_Dy_daysByState_54 ?_
    refine g_iast (X1 := [(q0, .inr (1, [.ref q6, .ref q7, .ref q1, .ref q2, .int (rkC sf n (sf p0.toNatClampNeg) ((p1 * 30) + (nI i)) p2 fs).2.1, .int (rkC sf n (sf p0.toNatClampNeg) ((p1 * 30) + (nI i)) p2 fs).2.2])), (q1, .inl (g.2.1 0, 12, .inl (nrC sf n (sf p0.toNatClampNeg) ((p1 * 30) + (nI i)) p2 fs).2)), (q6, .inr (7, [.ref m1, .ref m2, .ref m3, .int (nI n)])), (m2, .inl (g.2.1 0, 12, .inl sf)), (q7, .inr (5, [.ref K.1])), (K.1, .inr (0, [.int K.2.1, .ref K.2.2.1, .int (nI fs.length)])), (q2, .inl (g.2.1 0, 8, .inl (upd x.1 (Int32.toNatClampNeg ((nrC sf n (sf p0.toNatClampNeg) ((p1 * 30) + (nI i)) p2 fs).2 p0.toNatClampNeg)) ((x.1 (Int32.toNatClampNeg ((nrC sf n (sf p0.toNatClampNeg) ((p1 * 30) + (nI i)) p2 fs).2 p0.toNatClampNeg))) + 1))))]) C 6 rfl (hv _) rfl d_Dy_daysByState_55 ?_
    refine g_iinc (v := nI (i + 1)) (lv1 := [(0, .ref q0), (1, .int p0), (2, .int p1), (3, .int p2), (4, .int (nI (i + 1)))]) C d_Dy_daysByState_56 4 rfl (nI_1 _) [1, 2, 3, 4, 0] (by decide) rfl ?_
    refine g_goto C d_Dy_daysByState_59 ?_
    exact ih (i + 1) _ (by omega) hE

set_option maxHeartbeats 4000000 in
set_option maxRecDepth 100000 in
theorem c_Dy_daysByState (l : Launch) (g : Gx) (q0 q1 q2 q6 q7 m1 m2 m3 n : Nat) (sf : Nat → Int32) (K : AR) (fs : List FR) (p0 p1 p2 : Int32) (st : Nat → Int32) (wt wu : Int32) (df : Nat → Int32) (P : va_W) (hn : n ≤ 12) (hK : okA g K (fad fs)) (hfk : ∀ r ∈ fs, fok g r) (hp : vp_in p0 12) (hv : ∀ d, vp_in ((nrC sf n (sf p0.toNatClampNeg) d p2 fs).2 p0.toNatClampNeg) 8) : MP l g y_Dy_daysByState b_Dy_daysByState 5 (some (FieldType.array FieldType.int)) ({ frames := 7, cells := 0, slots := 0, locals := 157 }) [.ref q0, .int p0, .int p1, .int p2] [(q0, .inr (1, [.ref q6, .ref q7, .ref q1, .ref q2, .int wt, .int wu])), (q1, .inl (g.2.1 0, 12, .inl st)), (q6, .inr (7, [.ref m1, .ref m2, .ref m3, .int (nI n)])), (m2, .inl (g.2.1 0, 12, .inl sf)), (q7, .inr (5, [.ref K.1])), (K.1, .inr (0, [.int K.2.1, .ref K.2.2.1, .int (nI fs.length)])), (q2, .inl (g.2.1 0, 8, .inl df))] (arc g K fs.length ++ (fcs g fs ++ P)) (fun v2 X2 P2 => v2 = some (.ref q2) ∧ X2 = [(q0, .inr (1, [.ref q6, .ref q7, .ref q1, .ref q2, .int (dsC sf n fs p0.toNatClampNeg p1 p2 (st, wt, wu)).2.2.1, .int (dsC sf n fs p0.toNatClampNeg p1 p2 (st, wt, wu)).2.2.2])), (q1, .inl (g.2.1 0, 12, .inl (dsC sf n fs p0.toNatClampNeg p1 p2 (st, wt, wu)).2.1)), (q6, .inr (7, [.ref m1, .ref m2, .ref m3, .int (nI n)])), (m2, .inl (g.2.1 0, 12, .inl sf)), (q7, .inr (5, [.ref K.1])), (K.1, .inr (0, [.int K.2.1, .ref K.2.2.1, .int (nI fs.length)])), (q2, .inl (g.2.1 0, 8, .inl (dsC sf n fs p0.toNatClampNeg p1 p2 (st, wt, wu)).1))] ∧ P2 = arc g K fs.length ++ (fcs g fs ++ P)) := by
  refine MP.of (by decide) (Nat.le_of_ble_eq_true rfl) (fun κ C => ?_)
  have C : zC κ l g ({ frames := 7, cells := 0, slots := 0, locals := 157 }) b_Dy_daysByState 5 "TombLane$DayBook" "daysByState" (some (FieldType.array FieldType.int)) _ := C
  refine g_lv (lv1 := [(0, .ref q0), (1, .int p0), (2, .int p1), (3, .int p2)]) [0, 1, 2, 3] rfl ?_
  refine g_iconst (v := 0) C rfl d_Dy_daysByState_0 ?_
  refine g_istore (lv1 := [(0, .ref q0), (1, .int p0), (2, .int p1), (3, .int p2), (4, .int 0)]) C d_Dy_daysByState_1 [1, 2, 3, 4, 0] (by decide) rfl ?_
  refine g_eq (X1 := [(q0, .inr (1, [.ref q6, .ref q7, .ref q1, .ref q2, .int wt, .int wu])), (q1, .inl (g.2.1 0, 12, .inl st)), (q6, .inr (7, [.ref m1, .ref m2, .ref m3, .int (nI n)])), (m2, .inl (g.2.1 0, 12, .inl sf)), (q7, .inr (5, [.ref K.1])), (K.1, .inr (0, [.int K.2.1, .ref K.2.2.1, .int (nI fs.length)])), (q2, .inl (g.2.1 0, 8, .inl (fa_f0 df 0)))]) rfl (by rw [show fa_f0 df 0 = df from by funext j; simp [fa_f0]]) ?_
  refine lp_dbs0 l g q0 q1 q2 q6 q7 m1 m2 m3 n sf K fs p0 p1 p2 st wt wu df C 8 0 (by omega) ?_
  refine g_exti (f' := fun _ => 0) (X1 := [(q0, .inr (1, [.ref q6, .ref q7, .ref q1, .ref q2, .int wt, .int wu])), (q1, .inl (g.2.1 0, 12, .inl st)), (q6, .inr (7, [.ref m1, .ref m2, .ref m3, .int (nI n)])), (m2, .inl (g.2.1 0, 12, .inl sf)), (q7, .inr (5, [.ref K.1])), (K.1, .inr (0, [.int K.2.1, .ref K.2.2.1, .int (nI fs.length)])), (q2, .inl (g.2.1 0, 8, .inl (fun _ => 0)))]) 6 rfl (fun j hj => by simp [fa_f0, hj]) rfl ?_
  refine g_iconst (v := 0) C rfl d_Dy_daysByState_24 ?_
  refine g_istore (lv1 := [(0, .ref q0), (1, .int p0), (2, .int p1), (3, .int p2), (4, .int 0)]) C d_Dy_daysByState_25 [1, 2, 3, 4, 0] (by decide) rfl ?_
  refine lp_dbs l g q0 q1 q2 q6 q7 m1 m2 m3 n sf K fs p0 p1 p2 hn hK hfk hp hv C 30 0 (fun _ => 0, st, wt, wu) (by omega) ?_
  refine g_aload_n C 0 rfl d_Dy_daysByState_62 ?_
  refine g_get C 0 rfl rfl in_Dy 3 (by decide) kw_282 rfl d_Dy_daysByState_63 ?_
  exact g_aret C (Or.inr ⟨_, rfl⟩) rfl ⟨rfl, rfl, rfl⟩ (by first | decide | (dsimp only; omega)) (by first | decide | (dsimp only; omega)) d_Dy_daysByState_66

