theorem not60 {c : Nat} (h : c ≤ 60) : c < 60 ↔ ¬ c = 60 := by omega
theorem come_eq {n c : Nat} (hc : c ≤ 60) (m d x : Int32) : comeC n c m d x = comeM (nI n) d x c m := by
  unfold comeC comeM comeOk rg
  apply decide_eq_decide.mpr
  simp only [decide_eq_true_iff, not60 hc]
  constructor
  · rintro ⟨a, b, ⟨e, f⟩, g⟩; exact ⟨a, b, e, f, g⟩
  · rintro ⟨a, b, e, f, g⟩; exact ⟨a, b, ⟨e, f⟩, g⟩
theorem owe_eq (tf df kf : Nat → Int32) (m d : Int32) : ∀ k i a, owe tf df kf m d k i a = oweM tf df kf m d k i a
  | 0, _, _ => rfl
  | k + 1, i, a => by
    unfold owe oweM
    rw [owe_eq tf df kf m d k]
    congr 1
    split
    · rfl
    · rw [Int32.sub_zero]
theorem wix (a b : Int32) : a * 10 + b = 10 * a + b := by rw [Int32.mul_comm]
theorem wth_iff (a b x : Int32) : (inB a 5 = true ∧ inB b 10 = true ∧ rg x 0 1000 = true) ↔ wthM a b x = true := by
  unfold wthM; rw [decide_eq_true_iff]
theorem dbt_eq {n c : Nat} (hc : c ≤ 60) (a b g x d : Int32) : dbtC n c a b g x d = dbtM (nI n) a b g x d c := by
  unfold dbtC dbtM debtOk
  apply decide_eq_decide.mpr
  simp only [decide_eq_true_iff, not60 hc]
  have hg : inB g 5 = true ↔ ¬ g < 0 ∧ ¬ 5 ≤ g := by unfold inB; rw [decide_eq_true_iff]
  have hx : rg x 1 1000 = true ↔ ¬ x < 1 ∧ ¬ 1000 < x := by unfold rg; rw [decide_eq_true_iff]
  rw [hg, hx]
  constructor
  · rintro ⟨a, b, e, ⟨f, g⟩, h, ⟨i, j⟩, k⟩; exact ⟨a, b, e, f, g, i, j, h, k⟩
  · rintro ⟨a, b, e, f, g, i, j, h, k⟩; exact ⟨a, b, e, ⟨f, g⟩, h, ⟨i, j⟩, k⟩
theorem inB_and {x b : Int32} : inB x b = true ↔ ¬ x < 0 ∧ ¬ b ≤ x := by unfold inB; rw [decide_eq_true_iff]
theorem d36 {d : Int32} (h : inB d 3600 = true) : 0 ≤ d ∧ d < 3600 := by
  have := inB_and.mp h
  exact ⟨Int32.not_lt.mp this.1, Int32.not_le.mp this.2⟩
theorem pay_iff {c : Nat} {ff pf pm : Nat → Int32} (hc : c ≤ 60) (hp : pdR c pf pm) (x d : Int32) : (inB d 3600 = true ∧ payOk c ff pf x d = true) ↔ payM1 c pm ff x d = true := by
  unfold payOk payM1
  rw [decide_eq_true_iff, decide_eq_true_iff, inB_and (x := x)]
  have key : (¬ x < 0 ∧ ¬ nI c ≤ x) → (pf x.toNatClampNeg = 3600 ↔ ¬ 0 ≤ pm x.toNatClampNeg) := by
    intro h
    obtain ⟨j, hj, rfl⟩ := (inB_iff (n := c) (by omega)).mp (inB_and.mpr h)
    rw [nI_clamp (by omega)]
    rcases hp j hj with ⟨h1, h2⟩ | ⟨h1, h2, h3⟩
    · rw [h1, h2]; decide
    · constructor
      · intro z; rw [h1] at z; rw [z] at h3; exact absurd h3 (by decide)
      · intro z; exact absurd h2 z
  constructor
  · rintro ⟨a, ⟨b, e⟩, f, g⟩; exact ⟨b, e, (key ⟨b, e⟩).mp f, a, g⟩
  · rintro ⟨b, e, f, a, g⟩; exact ⟨a, ⟨b, e⟩, (key ⟨b, e⟩).mpr f, g⟩
theorem pdR_pay {c : Nat} {ff pf pm : Nat → Int32} (hc : c ≤ 60) (hp : pdR c pf pm) {x d : Int32} (h : inB d 3600 = true ∧ payOk c ff pf x d = true) : pdR c (upd pf x.toNatClampNeg d) (upd pm x.toNatClampNeg d) := by
  intro i hi
  unfold upd
  by_cases q : i = x.toNatClampNeg
  · rw [if_pos q, if_pos q]; exact Or.inr ⟨rfl, d36 h.1⟩
  · rw [if_neg q, if_neg q]; exact hp i hi
theorem pdR_add {c : Nat} {pf pm : Nat → Int32} (hp : pdR c pf pm) : pdR (c + 1) (upd pf c 3600) (upd pm c (-1)) := by
  intro i hi
  unfold upd
  by_cases q : i = c
  · rw [if_pos q, if_pos q]; exact Or.inl ⟨rfl, rfl⟩
  · rw [if_neg q, if_neg q]; exact hp i (by omega)
/-- the debts' rows: men, goods and days -/
def dbR (n c : Nat) (bf tf gf ff : Nat → Int32) : Prop := ∀ i, i < c → vp_in (bf i) n ∧ vp_in (tf i) n ∧ ¬ bf i = tf i ∧ inB (gf i) 5 = true ∧ inB (ff i) 3600 = true
theorem vp_mono {x : Int32} {n m : Nat} (h : vp_in x n) (hnm : n ≤ m) : vp_in x m := fun z => h (z.imp id (fun w => Nat.le_trans hnm w))
theorem year_vp {g f : Int32} (h1 : inB g 5 = true) (h2 : inB f 3600 = true) : vp_in (g * 10 + f / 360) 50 := by
  obtain ⟨i, hi, rfl⟩ := (inB_iff (n := 5) (by decide)).mp h1
  obtain ⟨j, hj, rfl⟩ := (inB_iff (n := 3600) (by decide)).mp h2
  have hd : nI j / 360 = nI (j / 360) := by
    apply Int32.toInt_inj.mp
    rw [Int32.toInt_div_of_ne_right _ _ (by decide), nI_toInt (by omega), nI_toInt (by omega)]
    show Int.tdiv (j : Int) 360 = _
    rw [Int.tdiv_eq_ediv_of_nonneg (by omega)]
    omega
  rw [hd, show (10 : Int32) = nI 10 from rfl, pk_mul, nI_add]
  exact vp_in_nI (by omega) (by decide)
theorem dbR_in {n c : Nat} {bf tf gf ff : Nat → Int32} (hn : n ≤ 12) (h : dbR n c bf tf gf ff) : dbtIn c bf tf gf ff := fun i hi => by
  obtain ⟨a, b, -, e, f⟩ := h i hi
  exact ⟨vp_mono a hn, vp_mono b hn, year_vp e f⟩
theorem dbR_inM {n c : Nat} {bf tf gf ff : Nat → Int32} (h : dbR n c bf tf gf ff) : dbtInM c gf ff := fun i hi => by
  obtain ⟨-, -, -, e, f⟩ := h i hi
  rw [← wix]; exact year_vp e f
theorem dbR_mono {n m c : Nat} {bf tf gf ff : Nat → Int32} (hnm : n ≤ m) (h : dbR n c bf tf gf ff) : dbR m c bf tf gf ff := fun i hi => by
  obtain ⟨a, b, d, e, f⟩ := h i hi
  exact ⟨vp_mono a hnm, vp_mono b hnm, d, e, f⟩
theorem dbR_add {n c : Nat} {bf tf gf ff : Nat → Int32} {a b g x d : Int32} (hn : n ≤ 12) (h : dbR n c bf tf gf ff) (hk : dbtC n c a b g x d = true) : dbR n (c + 1) (upd bf c a) (upd tf c b) (upd gf c g) (upd ff c d) := by
  unfold dbtC at hk
  obtain ⟨k1, k2, k3, k4, k5, -⟩ := of_decide_eq_true hk
  intro i hi
  unfold upd
  by_cases q : i = c
  · simp only [q, if_true]
    exact ⟨inB_vp n k1 (Nat.le_refl _) (by omega), inB_vp n k2 (Nat.le_refl _) (by omega), k3, k4, k5⟩
  · simp only [q, if_false]
    exact h i (by omega)
theorem bal_eqV {bf tf gf mf ff pf pm wf : Nat → Int32} {n c : Nat} (hn : n ≤ 12) (hp : pdR c pf pm) (hd : dbR n c bf tf gf ff) (p0 p1 : Int32) :
    (if inB p0 (nI n) = true ∧ inB p1 3600 = true then (bal bf tf gf mf ff pf wf p1 c 0 (fun _ => 0)) p0.toNatClampNeg else (-2000000001)) = (if inB p0 (nI n) = true ∧ inB p1 3600 = true then balO bf tf gf mf ff pm wf p0 p1 c 0 0 else (-2000000001)) := by
  by_cases h : inB p0 (nI n) = true ∧ inB p1 3600 = true
  · rw [if_pos h, if_pos h]
    obtain ⟨j, hj, rfl⟩ := (inB_iff (by omega)).mp h.1
    rw [nI_clamp (by omega)]
    exact bal_eq (by omega) hp (d36 h.2).2 (fun i hi => ⟨vp_mono (hd i hi).1 hn, vp_mono (hd i hi).2.1 hn, (hd i hi).2.2.1⟩) c 0 _ (by omega)
  · rw [if_neg h, if_neg h]
theorem about_eq {fs : List FR} {n : Nat} {lm ld ls lw sy hg fd gv : Nat → Int32} {dt rc dc tl : Int32} (hl : fs.length ≤ 40) (hR : FlR fs lm ld ls lw sy hg fd gv) (p : Int32) : abC n fs dt rc dc tl p = abtM (nI n) dt rc dc tl fs.length lm p := by
  unfold abC abtM
  by_cases h0 : p = 0
  · rw [if_pos h0, if_pos h0]
  rw [if_neg h0, if_neg h0]
  by_cases h1 : p = 1
  · rw [if_pos h1, if_pos h1]
  rw [if_neg h1, if_neg h1]
  by_cases h2 : p = 2
  · rw [if_pos h2, if_pos h2]
  rw [if_neg h2, if_neg h2]
  by_cases h3 : p = 3
  · rw [if_pos h3, if_pos h3]
  rw [if_neg h3, if_neg h3]
  by_cases h4 : p = 4
  · rw [if_pos h4, if_pos h4]
  rw [if_neg h4, if_neg h4]
  by_cases h5 : p = 5
  · rw [if_pos h5, if_pos h5]
  rw [if_neg h5, if_neg h5]
  by_cases h10 : p < 10
  · rw [if_pos h10, if_neg (fun z => z.1 h10)]
  rw [if_neg h10]
  have h10' := Int32.not_lt.mp h10
  obtain ⟨q, hq, rfl⟩ := nI_of (x := p) (fun z => h10 (Int32.lt_trans z (by decide)))
  have hq10 : 10 ≤ q := (nI_leI (a := 10) (by decide) hq).mp h10'
  have hs : nI q - 10 = nI (q - 10) := pk_sub (a := q) (b := 10) hq10
  rw [hs, nI_clamp (by omega)]
  by_cases hin : q - 10 < fs.length
  · have e1 : inB (nI (q - 10)) (nI fs.length) = true := (inB_iff (by omega)).mpr ⟨_, hin, rfl⟩
    have e2 : ¬ nI (10 + fs.length) ≤ nI q := fun z => by
      have := (nI_leI (by omega) hq).mp z
      omega
    rw [if_pos e1, if_pos ⟨h10, e2⟩]
    obtain ⟨-, -, h3, -, -⟩ := hR (q - 10) hin
    rw [h3]
    unfold lnA
    rw [List.getElem?_eq_getElem hin]
  · have e1 : ¬ inB (nI (q - 10)) (nI fs.length) = true := fun z => by
      obtain ⟨j, hj, e⟩ := (inB_iff (by omega)).mp z
      have := (nI_eq (by omega) (by omega)).mp e
      omega
    have e2 : nI (10 + fs.length) ≤ nI q := nI_le (by omega) hq
    rw [if_neg e1, if_neg (fun z => z.2 e2)]
theorem gv_iff {fs : List FR} {lm ld ls lw sy hg fd gv : Nat → Int32} (hl : fs.length ≤ 40) (hR : FlR fs lm ld ls lw sy hg fd gv) (p : Int32) : (inB p (nI fs.length) = true ∧ guA fs p.toNatClampNeg = 0) ↔ gvOk fs.length gv p = true := by
  unfold gvOk
  rw [decide_eq_true_iff, inB_and]
  have key : (¬ p < 0 ∧ ¬ nI fs.length ≤ p) → (guA fs p.toNatClampNeg = 0 ↔ ¬ 0 ≤ gv p.toNatClampNeg) := by
    intro h
    obtain ⟨j, hj, rfl⟩ := (inB_iff (n := fs.length) (by omega)).mp (inB_and.mpr h)
    rw [nI_clamp (by omega)]
    obtain ⟨-, h2, -⟩ := hR j hj
    unfold guA
    rw [List.getElem?_eq_getElem hj]
    simp only
    rcases h2 with ⟨a, b⟩ | ⟨a, b, e⟩
    · rw [a, b]; decide
    · rw [a, b]
      constructor
      · intro z; exact absurd z (by decide)
      · intro z; exact absurd e z
  constructor
  · rintro ⟨⟨a, b⟩, e⟩; exact ⟨a, b, (key ⟨a, b⟩).mp e⟩
  · rintro ⟨a, b, e⟩; exact ⟨⟨a, b⟩, (key ⟨a, b⟩).mpr e⟩
theorem gvF_get (d : Int32) : ∀ (fs : List FR) (i j : Nat) (h : j < fs.length) (h2 : j < (gvF fs i d).length), (gvF fs i d)[j] = if j = i then (fs[j].1, fs[j].2.1, fs[j].2.2.1, 1, d, fs[j].2.2.2.2.2) else fs[j]
  | r :: fs, 0, 0, _, _ => rfl
  | r :: fs, 0, j + 1, _, _ => by simp [gvF]
  | r :: fs, i + 1, 0, _, _ => by simp [gvF]
  | r :: fs, i + 1, j + 1, h, h2 => by
    have := gvF_get d fs i j (by simpa using h) (by rw [gvF_len]; simpa using h)
    simp only [gvF, List.getElem_cons_succ]
    rw [this]
    by_cases q : j = i
    · simp [q]
    · simp [q]
theorem FlR_gv {fs : List FR} {lm ld ls lw sy hg fd gv : Nat → Int32} {dt : Int32} {i : Nat} (hd : 0 ≤ dt) (hR : FlR fs lm ld ls lw sy hg fd gv) : FlR (gvF fs i dt) lm ld ls lw sy hg fd (upd gv i dt) := by
  intro j hj
  have hj2 : j < fs.length := by rw [gvF_len] at hj; exact hj
  obtain ⟨h1, h2, h3, h4, h5⟩ := hR j hj2
  rw [gvF_get dt fs i j hj2 hj]
  unfold upd
  by_cases q : j = i
  · simp only [q, if_true]
    subst q
    exact ⟨h1, Or.inr ⟨rfl, rfl, hd⟩, h3, h4, h5⟩
  · simp only [q, if_false]
    exact ⟨h1, h2, h3, h4, h5⟩
theorem side2 (x : Int32) : inB x 2 = true ↔ (¬ x < 0 ∧ ¬ 1 < x) := by
  rw [inB_and]
  have : ¬ (2 : Int32) ≤ x ↔ ¬ 1 < x := by
    apply not_congr
    rw [Int32.le_iff_toInt_le, Int32.lt_iff_toInt_lt]
    show (2 : Int) ≤ _ ↔ (1 : Int) < _
    omega
  rw [this]
theorem of_eq {nf : Nat → Int64} {sf rf : Nat → Int32} {n : Nat} (hn : n ≤ 12) (hN : ∀ i, i < n → isNm (nf i) = true) (p0 p1 : Int32) : ofV (lto (nf p0.toNatClampNeg) 8 0) n sf rf p0 p1 = ofV (nI (lfM (nf p0.toNatClampNeg) 8 0)) n sf rf p0 p1 := by
  unfold ofV
  by_cases h : inB p0 (nI n) = true
  · obtain ⟨j, hj, rfl⟩ := (inB_iff (by omega)).mp h
    rw [nI_clamp (by omega), lto_nm (hN j hj)]
  · simp [h]
theorem lc_ok {fs : List FR} {lm ld ls lw sy hg fd gv : Nat → Int32} (hR : FlR fs lm ld ls lw sy hg fd gv) : ∀ i, i < fs.length → lm i = nI (lnA fs i) ∧ lnA fs i ≤ 20 := by
  intro i hi
  obtain ⟨-, -, h3, h4, -⟩ := hR i hi
  unfold lnA
  rw [List.getElem?_eq_getElem hi]
  exact ⟨h3, h4⟩
theorem later_ok {dt p : Int32} (h : 0 ≤ dt ∧ dt ≤ 100000) (hk : ltOk dt p = true) : 0 ≤ dt + p ∧ dt + p ≤ 100000 := by
  unfold ltOk at hk
  obtain ⟨h1, h2, h3⟩ := of_decide_eq_true hk
  refine ⟨?_, Int32.not_lt.mp h3⟩
  rw [Int32.le_iff_toInt_le] at *
  have a := Int32.not_lt.mp h1
  have b := Int32.not_lt.mp h2
  rw [Int32.le_iff_toInt_le] at a b
  obtain ⟨c1, c2⟩ := h
  rw [Int32.le_iff_toInt_le] at c2
  have e : (dt + p).toInt = dt.toInt + p.toInt := by
    rw [Int32.toInt_add]
    have x1 : (0 : Int32).toInt = 0 := by decide
    have x2 : (1000 : Int32).toInt = 1000 := by decide
    have x3 : (100000 : Int32).toInt = 100000 := by decide
    rw [x1] at a c1
    rw [x2] at b
    rw [x3] at c2
    exact Int.bmod_eq_of_le (by omega) (by omega)
  have x1 : (0 : Int32).toInt = 0 := by decide
  rw [e, x1]
  rw [x1] at a c1
  omega
