/-- a state -/
def okS (x : Int32) : Prop := x = 0 ∨ x = 1 ∨ x = 2 ∨ x = 3 ∨ x = 4 ∨ x = 5 ∨ x = 6 ∨ x = 7
theorem okS_vp {x : Int32} (h : okS x) : vp_in x 8 := by
  rcases h with h | h | h | h | h | h | h | h <;> rw [h] <;> unfold vp_in <;> decide
theorem joi_ok {a b : Int32} (ha : okS a) (hb : okS b) : okS (joi a b) := by
  unfold joi
  split
  · exact ha
  · split
    · exact hb
    · split
      · exact ha
      · simp [okS]
theorem tel_ok {e y gp : Int32} (h : entR e y) : okS (telC e gp) := by
  unfold telC
  rcases h with ⟨h1, -⟩ | ⟨-, h2⟩
  · rw [h1]; simp [okS]
  · rcases h2 with h | h | h | h | h | h <;> rw [h]
    · by_cases q : gp = 0 <;> simp [okS, q]
    · simp [okS]
    · simp [okS]
    · simp [okS]
    · simp [okS]
    · simp [okS]
theorem hrM_ok {sf : Nat → Int32} {sd : Int32} {say : Nat → Int32} : ∀ (k m : Nat) (d : Nat → Int32), (∀ i, i < m + k → okS (say i)) → (∀ i, okS (d i)) → ∀ i, okS (hrM sf sd say k m d i)
  | 0, _, _, _, hd => hd
  | k + 1, m, d, hs, hd => by
    unfold hrM
    refine hrM_ok k (m + 1) _ (fun i hi => hs i (by omega)) ?_
    intro i
    split
    · unfold upd
      split
      · exact joi_ok (hd m) (hs m (by omega))
      · exact hd i
    · exact hd i
theorem hfC_ok {sf ld ls lw sy hg : Nat → Int32} {n : Nat} {sd dy : Int32} (hn : n ≤ 12) : ∀ (rs : List LR) (l : Nat) (t : DS), (∀ i (h : i < rs.length), linR (rs[i]).2.2 (l + i) ld ls lw sy hg) → (∀ i, okS (t.1 i)) → ∀ i, okS ((hfC sf n sd dy rs t).1 i)
  | [], l, t, _, hw => hw
  | r :: rs, l, t, h, hw => by
    have h0 := h 0 (by simp)
    simp only [List.getElem_cons_zero] at h0
    refine hfC_ok hn rs (l + 1) _ (fun i hi => by
      have := h (i + 1) (by simp; omega)
      simp only [List.getElem_cons_succ] at this
      rw [show l + 1 + i = l + (i + 1) from by omega]
      exact this) ?_
    split
    · exact hrM_ok n 0 _ (fun i hi => tel_ok (h0.2.2.2.2.1 i (by omega))) hw
    · exact hw
theorem rkF_ok {sf lm ld ls lw sy hg fd gv : Nat → Int32} {n : Nat} {sd dy kk : Int32} {fs : List FR} (hn : n ≤ 12) (hR : FlR fs lm ld ls lw sy hg fd gv) : ∀ (b a : List FR) (t : DS), fs = a ++ b → (∀ i, okS (t.1 i)) → ∀ i, okS ((rkF sf n sd dy kk b t).1 i)
  | [], a, t, _, hw => hw
  | r :: b, a, t, he, hw => by
    have hi : a.length < fs.length := by rw [he]; simp
    have hr : fs[a.length] = r := by simp [he]
    obtain ⟨h1, h2, h3, h4, h5⟩ := hR a.length hi
    rw [hr] at h5
    refine rkF_ok hn hR b (a ++ [r]) _ (by rw [he]; simp) ?_
    split
    · refine hfC_ok (ld := ld) (ls := ls) (lw := lw) (sy := sy) (hg := hg) hn _ (20 * a.length) _ (fun i hi => ?_) hw
      have := h5 i (by rw [lnp_len]; exact hi)
      simpa [lnp] using this
    · exact hw
theorem cop_ok {sf : Nat → Int32} {sd v : Int32} (hv : okS v) : ∀ k i d, (∀ j, okS (d j)) → ∀ j, okS (cop sf sd v k i d j)
  | 0, _, _, h => h
  | k + 1, i, d, h => by
    unfold cop
    refine cop_ok hv k (i + 1) _ ?_
    intro j
    split
    · unfold upd
      split
      · exact hv
      · exact h j
    · exact h j
theorem nrC_ok {sf lm ld ls lw sy hg fd gv : Nat → Int32} {n : Nat} {fs : List FR} (hn : n ≤ 12) (hR : FlR fs lm ld ls lw sy hg fd gv) (sd dy kk : Int32) (p : Nat) : okS ((nrC sf n sd dy kk fs).2 p) := by
  have h := rkF_ok (sf := sf) (sd := sd) (dy := dy) (kk := kk) hn hR fs [] (fun _ => 0, -1, 0) rfl (fun _ => Or.inl rfl)
  unfold nrC nrw rkC
  split
  · exact h p
  · split
    · exact h p
    · split
      · exact cop_ok (by simp [okS]) _ _ _ h p
      · split
        · exact cop_ok (by simp [okS]) _ _ _ h p
        · exact h p
/-- how many days of a span are this -/
def cdN (T : Nat → Int32) (x : Int32) : Nat → Nat → Int32
  | 0, _ => 0
  | k + 1, d => (if T d = x then 1 else 0) + cdN T x k (d + 1)
theorem dbs_eq {sf : Nat → Int32} {n : Nat} {fs : List FR} {p mo : Nat} {kk : Int32} {T : Nat → Int32} (x : Nat) (hx : x < 8) (hT : ∀ i, i < 30 → (nrC sf n (sf p) (nI mo * 30 + nI i) kk fs).2 p = T (30 * mo + i)) (hok : ∀ i, okS (T i)) : ∀ (k i : Nat) (a : (Nat → Int32) × DS), i + k = 30 → (dbs sf n fs p (nI mo) kk k i a).1 x = a.1 x + cdN T (nI x) k (30 * mo + i)
  | 0, i, a, _ => by simp [dbs, cdN]
  | k + 1, i, a, h => by
    unfold dbs cdN
    rw [dbs_eq x hx hT hok k (i + 1) _ (by omega), hT i (by omega)]
    have hk : (T (30 * mo + i)).toNatClampNeg = x ↔ T (30 * mo + i) = nI x := by
      constructor
      · intro h
        rw [← h]
        rcases hok (30 * mo + i) with h | h | h | h | h | h | h | h <;> rw [h] <;> decide
      · intro h; rw [h]; exact nI_clamp (by omega)
    simp only [upd]
    rw [show 30 * mo + (i + 1) = 30 * mo + i + 1 from by omega]
    by_cases q : T (30 * mo + i) = nI x
    · rw [if_pos q, if_pos (hk.mpr q).symm, hk.mpr q, Int32.add_assoc]
    · rw [if_neg q, if_neg (fun z => q (hk.mp z.symm)), Int32.zero_add]
theorem i32_lc (a b c : Int32) : a + (b + c) = b + (a + c) := by rw [← Int32.add_assoc, Int32.add_comm a b, Int32.add_assoc]
theorem spL_eq {D : Int32 → Int32 × (Nat → Int32)} {mi : Nat} {gr : Int32} : ∀ (k d : Nat) (a : Int32), spL D mi gr k d a = a + (cdN (fun i => (D (nI i)).2 mi) 1 k d + (if gr = 0 then 0 else cdN (fun i => (D (nI i)).2 mi) 0 k d + cdN (fun i => (D (nI i)).2 mi) 7 k d))
  | 0, d, a => by simp [spL, cdN]
  | k + 1, d, a => by
    unfold spL cdN
    rw [spL_eq k (d + 1)]
    generalize (D (nI d)).2 mi = y
    generalize cdN (fun i => (D (nI i)).2 mi) 1 k (d + 1) = c1
    generalize cdN (fun i => (D (nI i)).2 mi) 0 k (d + 1) = c0
    generalize cdN (fun i => (D (nI i)).2 mi) 7 k (d + 1) = c7
    by_cases g0 : gr = 0
    · simp only [g0, not_true, false_and, or_false, if_true]
      by_cases h1 : y = 1
      · simp only [h1, if_true, Int32.add_zero, Int32.add_assoc]
      · simp only [h1, if_false, Int32.add_zero, Int32.zero_add]
    · simp only [g0, not_false_iff, true_and, if_false]
      by_cases h1 : y = 1
      · have h0 : ¬ (1 : Int32) = 0 := by decide
        have h7 : ¬ (1 : Int32) = 7 := by decide
        simp only [h1, true_or, if_true, h0, h7, if_false, Int32.zero_add, Int32.add_assoc]
      · by_cases h0 : y = 0
        · have h01 : ¬ (0 : Int32) = 1 := by decide
          have h07 : ¬ (0 : Int32) = 7 := by decide
          simp only [h0, h01, h07, true_or, false_or, if_true, if_false, Int32.zero_add]
          simp only [Int32.add_assoc]
          rw [i32_lc c1 1]
        · by_cases h7 : y = 7
          · have h01 : ¬ (7 : Int32) = 1 := by decide
            have h07 : ¬ (7 : Int32) = 0 := by decide
            simp only [h7, h01, h07, or_true, false_or, if_true, if_false, Int32.zero_add]
            simp only [Int32.add_assoc]
            rw [i32_lc c0 1, i32_lc c1 1]
          · simp only [h1, h0, h7, or_false, if_false, Int32.zero_add, Int32.add_zero]
theorem msL_eq {D : Int32 → Int32 × (Nat → Int32)} {mi : Nat} {rs : Int32} : ∀ (k d : Nat) (a : Int32), msL D mi rs k d a = a + cdN (fun i => (D (nI i)).2 mi) rs k d
  | 0, d, a => by simp [msL, cdN]
  | k + 1, d, a => by
    unfold msL cdN
    rw [msL_eq k (d + 1), Int32.add_assoc]
theorem cdN_cg {T U : Nat → Int32} {x : Int32} : ∀ (k d : Nat), (∀ i, d ≤ i → i < d + k → T i = U i) → cdN T x k d = cdN U x k d
  | 0, _, _ => rfl
  | k + 1, d, h => by
    unfold cdN
    rw [h d (Nat.le_refl _) (by omega), cdN_cg k (d + 1) (fun i h1 h2 => h i (by omega) (by omega))]
theorem mo30 {mo i : Nat} : nI mo * 30 + nI i = nI (30 * mo + i) := by
  rw [show (30 : Int32) = nI 30 from rfl, pk_mul, nI_add, Nat.mul_comm]
/-- a month of a man, class and model -/
theorem days_eq {sf lm ld ls lw sy hg fd gv : Nat → Int32} {n : Nat} {fs : List FR} (hn : n ≤ 12) (hR : FlR fs lm ld ls lw sy hg fd gv) (p mo : Nat) (kk : Int32) (t : DS) (x : Nat) (hx : x < 8) :
    (dsC sf n fs p (nI mo) kk t).1 x = cdN (fun i => (dayT sf ld ls lw sy hg fd gv (lnA fs) n fs.length (sf p) kk (nI i)).2 p) (nI x) 30 (30 * mo) := by
  unfold dsC
  rw [dbs_eq (T := fun i => (dayT sf ld ls lw sy hg fd gv (lnA fs) n fs.length (sf p) kk (nI i)).2 p) x hx (fun i hi => ?_) (fun i => ?_) 30 0 _ rfl]
  · simp
  · show _ = (dayT _ _ _ _ _ _ _ _ _ _ _ _ _ _).2 p
    rw [day_eq hn hR, mo30]
  · show okS ((dayT _ _ _ _ _ _ _ _ _ _ _ _ _ _).2 p)
    rw [day_eq hn hR]
    exact nrC_ok hn hR _ _ _ _
theorem span_eq {sf lm ld ls lw sy hg fd gv : Nat → Int32} {n : Nat} {fs : List FR} (hn : n ≤ 12) (hR : FlR fs lm ld ls lw sy hg fd gv) (p0 p1 kk gr : Int32) (t : DS) :
    (if inB p0 (nI n) = true ∧ inB p1 120 = true then (if gr = 0 then (dsC sf n fs p0.toNatClampNeg p1 kk t).1 1 else (dsC sf n fs p0.toNatClampNeg p1 kk t).1 1 + (dsC sf n fs p0.toNatClampNeg p1 kk t).1 0 + (dsC sf n fs p0.toNatClampNeg p1 kk t).1 7) else (-1)) =
    (if inB p0 (nI n) = true ∧ inB p1 120 = true then spL (dayT sf ld ls lw sy hg fd gv (lnA fs) n fs.length (sf p0.toNatClampNeg) kk) p0.toNatClampNeg gr 30 (30 * p1.toNatClampNeg) 0 else (-1)) := by
  by_cases h : inB p0 (nI n) = true ∧ inB p1 120 = true
  · rw [if_pos h, if_pos h]
    obtain ⟨mo, hmo, rfl⟩ := (inB_iff (n := 120) (by decide)).mp h.2
    rw [nI_clamp (n := mo) (by omega), spL_eq, days_eq hn hR _ _ _ _ 1 (by decide), days_eq hn hR _ _ _ _ 0 (by decide), days_eq hn hR _ _ _ _ 7 (by decide), Int32.zero_add]
    by_cases g : gr = 0
    · rw [if_pos g, if_pos g, Int32.add_zero]; rfl
    · rw [if_neg g, if_neg g, Int32.add_assoc]; rfl
  · rw [if_neg h, if_neg h]
theorem miss_eq {sf lm ld ls lw sy hg fd gv : Nat → Int32} {n : Nat} {fs : List FR} (hn : n ≤ 12) (hR : FlR fs lm ld ls lw sy hg fd gv) (p0 p1 rs kk : Int32) (t : DS) :
    (if inB p0 (nI n) = true ∧ inB p1 120 = true ∧ ¬ rs < 2 ∧ rs ≤ 6 then (dsC sf n fs p0.toNatClampNeg p1 kk t).1 rs.toNatClampNeg else (-1)) =
    (if inB p0 (nI n) = true ∧ inB p1 120 = true ∧ ¬ rs < 2 ∧ ¬ 6 < rs then msL (dayT sf ld ls lw sy hg fd gv (lnA fs) n fs.length (sf p0.toNatClampNeg) kk) p0.toNatClampNeg rs 30 (30 * p1.toNatClampNeg) 0 else (-1)) := by
  by_cases h : inB p0 (nI n) = true ∧ inB p1 120 = true ∧ ¬ rs < 2 ∧ rs ≤ 6
  · rw [if_pos h, if_pos ⟨h.1, h.2.1, h.2.2.1, Int32.not_lt.mpr h.2.2.2⟩]
    obtain ⟨mo, hmo, rfl⟩ := (inB_iff (n := 120) (by decide)).mp h.2.1
    obtain ⟨j, hj, rfl⟩ := nI_of2 (x := rs) (M := 6) (n := 6) (by decide) (fun z => h.2.2.1 (Int32.lt_trans z (by decide))) h.2.2.2
    rw [nI_clamp (n := mo) (by omega), nI_clamp (n := j) (by omega), msL_eq, days_eq hn hR _ _ _ _ j (by omega), Int32.zero_add]
  · rw [if_neg h, if_neg (fun z => h ⟨z.1, z.2.1, z.2.2.1, Int32.not_lt.mp z.2.2.2⟩)]
