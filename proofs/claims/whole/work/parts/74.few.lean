/-- the model's sums of sets -/
theorem bsm_or {v : Nat → Int32} {n s : Nat} (hs : s < 2 ^ n) : bsm v (fun x => (s ||| 2 ^ n).testBit x) (n + 1) = bsm v (fun x => s.testBit x) n + v n := by
  show bsm v (fun x => (s ||| 2 ^ n).testBit x) n + (if (s ||| 2 ^ n).testBit n = true then v n else 0) = _
  rw [if_pos (by rw [Nat.testBit_or, Nat.testBit_two_pow]; simp)]
  congr 1
  apply bsm_cg
  intro x hx
  refine ⟨?_, rfl⟩
  rw [Nat.testBit_or, Nat.testBit_two_pow]
  have : ¬ n = x := by omega
  simp [this]
theorem bsm_0 {v : Nat → Int32} : ∀ n, bsm v (fun x => (0 : Nat).testBit x) n = 0
  | 0 => rfl
  | n + 1 => by
    unfold bsm
    rw [bsm_0 n]
    simp
theorem smL_lo {v : Int32} {n : Nat} : ∀ k s f j, j < 2 ^ n → smL v n k s f j = f j
  | 0, _, _, _, _ => rfl
  | k + 1, s, f, j, h => by
    unfold smL
    rw [smL_lo k (s + 1) _ j h]
    unfold upd
    have : 2 ^ n ≤ s ||| 2 ^ n := Nat.right_le_or
    rw [if_neg (by omega)]
theorem or_inj {n a b : Nat} (ha : a < 2 ^ n) (hb : b < 2 ^ n) (h : a ||| 2 ^ n = b ||| 2 ^ n) : a = b := by
  apply Nat.eq_of_testBit_eq
  intro x
  rcases Nat.lt_or_ge x n with hx | hx
  · have := congrArg (fun y => Nat.testBit y x) h
    have e : ¬ n = x := by omega
    simpa [Nat.testBit_or, Nat.testBit_two_pow, e] using this
  · rw [Nat.testBit_lt_two_pow (Nat.lt_of_lt_of_le ha (Nat.pow_le_pow_right (by decide) hx)), Nat.testBit_lt_two_pow (Nat.lt_of_lt_of_le hb (Nat.pow_le_pow_right (by decide) hx))]
theorem smL_ne {v : Int32} {n : Nat} : ∀ k s f j, j < s → s + k ≤ 2 ^ n → smL v n k s f (j ||| 2 ^ n) = f (j ||| 2 ^ n)
  | 0, _, _, _, _, _ => rfl
  | k + 1, s, f, j, h, hk => by
    unfold smL
    rw [smL_ne k (s + 1) _ j (by omega) (by omega)]
    unfold upd
    rw [if_neg (fun z => by have := or_inj (by omega) (by omega) z; omega)]
theorem smL_at {v : Int32} {n : Nat} : ∀ k s f j, s ≤ j → j < s + k → s + k ≤ 2 ^ n → smL v n k s f (j ||| 2 ^ n) = (if j = 0 then 0 else f j) + v
  | 0, s, f, j, h1, h2, _ => by omega
  | k + 1, s, f, j, h1, h2, hk => by
    unfold smL
    rcases Nat.lt_or_ge s j with h | h
    · rw [smL_at k (s + 1) _ j (by omega) (by omega) (by omega)]
      congr 1
      unfold upd
      have : 2 ^ n ≤ s ||| 2 ^ n := Nat.right_le_or
      rw [if_neg (show ¬ j = s ||| 2 ^ n by omega)]
    · have : j = s := by omega
      subst this
      rw [smL_ne k (j + 1) _ j (by omega) (by omega)]
      unfold upd
      rw [if_pos rfl]
theorem top_bit {n j : Nat} (h1 : 2 ^ n ≤ j) (h2 : j < 2 ^ (n + 1)) : ∃ s, s < 2 ^ n ∧ j = s ||| 2 ^ n := by
  have hb : j.testBit n = true := by
    rw [Nat.testBit_eq_decide_div_mod_eq, decide_eq_true_iff]
    have : j / 2 ^ n = 1 := by
      rw [Nat.pow_succ] at h2
      have h3 : 1 ≤ j / 2 ^ n := (Nat.le_div_iff_mul_le (Nat.pow_pos (by decide))).mpr (by omega)
      have h4 : j / 2 ^ n < 2 := Nat.div_lt_of_lt_mul (by omega)
      omega
    rw [this]
  refine ⟨j ^^^ 2 ^ n, ?_, ?_⟩
  · apply Nat.lt_pow_two_of_testBit
    intro x hx
    rw [xb]
    by_cases e : x = n
    · subst e; simp [hb]
    · rw [if_neg e]
      exact Nat.testBit_lt_two_pow (Nat.lt_of_lt_of_le h2 (Nat.pow_le_pow_right (by decide) (by omega)))
  · apply Nat.eq_of_testBit_eq
    intro x
    rw [Nat.testBit_or, xb, Nat.testBit_two_pow]
    by_cases e : x = n
    · subst e; simp [hb]
    · have : ¬ n = x := fun z => e z.symm
      rw [if_neg e]; simp [this]
/-- the sums of all sets of the first n -/
def smR (v : Nat → Int32) (n : Nat) (f : Nat → Int32) : Prop := ∀ s, 1 ≤ s → s < 2 ^ n → f s = bsm v (fun x => s.testBit x) n
theorem smR_step {v f : Nat → Int32} {n : Nat} {x : Int32} (h : smR v n f) : smR (upd v n x) (n + 1) (smL x n (2 ^ n) 0 f) := by
  have hv : ∀ s : Nat, bsm (upd v n x) (fun y => s.testBit y) n = bsm v (fun y => s.testBit y) n := fun s => by
    apply bsm_cg
    intro i hi
    refine ⟨rfl, ?_⟩
    unfold upd; rw [if_neg (by omega)]
  intro s h1 h2
  rcases Nat.lt_or_ge s (2 ^ n) with hs | hs
  · rw [smL_lo _ _ _ _ hs, h s h1 hs]
    show _ = bsm (upd v n x) (fun y => s.testBit y) n + (if s.testBit n = true then upd v n x n else 0)
    rw [Nat.testBit_lt_two_pow hs, hv]
    simp
  · obtain ⟨s0, h0, rfl⟩ := top_bit hs h2
    rw [smL_at (2 ^ n) 0 f s0 (Nat.zero_le _) (by omega) (by omega), bsm_or h0, hv]
    have e1 : upd v n x n = x := by simp [upd]
    rw [e1]
    congr 1
    by_cases q : s0 = 0
    · rw [if_pos q, q, bsm_0]
    · rw [if_neg q]; exact h s0 (by omega) h0
/-- class and model take the same balances -/
theorem sm_eq {b B : Nat → Int32} : ∀ k i n (v f : Nat → Int32), (∀ j, i ≤ j → j < i + k → b j = B j) → smR v n f → (smA B k i n f).1 = (pyl b k i n v).1 ∧ smR (pyl b k i n v).2 (pyl b k i n v).1 (smA B k i n f).2
  | 0, i, n, v, f, _, h => ⟨rfl, h⟩
  | k + 1, i, n, v, f, hb, h => by
    unfold smA pyl
    rw [hb i (Nat.le_refl _) (by omega)]
    by_cases q : B i = 0
    · rw [if_pos q, if_pos q]
      exact sm_eq k (i + 1) n v f (fun j a c => hb j (by omega) (by omega)) h
    · rw [if_neg q, if_neg q]
      exact sm_eq k (i + 1) (n + 1) _ _ (fun j a c => hb j (by omega) (by omega)) (smR_step h)
theorem pyl_app {b : Nat → Int32} {k2 : Nat} : ∀ k1 i n (v : Nat → Int32), (∀ j, i + k1 ≤ j → j < i + k1 + k2 → b j = 0) → pyl b (k1 + k2) i n v = pyl b k1 i n v
  | 0, i, n, v, h => by
    rw [Nat.zero_add]
    have : ∀ k i n (v : Nat → Int32), (∀ j, i ≤ j → j < i + k → b j = 0) → pyl b k i n v = (n, v) := by
      intro k
      induction k with
      | zero => intros; rfl
      | succ k ih =>
        intro i n v h
        unfold pyl
        rw [if_pos (h i (Nat.le_refl _) (by omega))]
        exact ih (i + 1) n v (fun j a c => h j (by omega) (by omega))
    exact this k2 i n v (fun j a c => h j (by omega) (by omega))
  | k1 + 1, i, n, v, h => by
    rw [show k1 + 1 + k2 = (k1 + k2) + 1 from by omega]
    unfold pyl
    rw [pyl_app k1 (i + 1) n v (fun j a c => h j (by omega) (by omega)), pyl_app k1 (i + 1) (n + 1) _ (fun j a c => h j (by omega) (by omega))]
/-- all balances make 0 -/
def bT (b : Nat → Int32) (m : Nat) : Int32 := bsm b (fun _ => true) m
theorem bT_s (b : Nat → Int32) (m : Nat) : bT b (m + 1) = bT b m + b m := by
  show bsm b (fun _ => true) m + (if true = true then b m else 0) = _
  rw [if_pos rfl]; rfl
def bI (b : Nat → Int32) : Nat → Nat → Int32
  | 0, _ => 0
  | k + 1, i => b i + bI b k (i + 1)
theorem pyl_sum {b : Nat → Int32} : ∀ k i n (v : Nat → Int32), bT (pyl b k i n v).2 (pyl b k i n v).1 = bT v n + bI b k i
  | 0, i, n, v => by simp [pyl, bI]
  | k + 1, i, n, v => by
    unfold pyl bI
    by_cases q : b i = 0
    · rw [if_pos q, pyl_sum k (i + 1) n v, q, Int32.zero_add]
    · rw [if_neg q, pyl_sum k (i + 1) (n + 1), bT_s]
      have e1 : upd v n (b i) n = b i := by simp [upd]
      have e2 : bT (upd v n (b i)) n = bT v n := by
        apply bsm_cg
        intro j hj
        refine ⟨rfl, ?_⟩
        unfold upd; rw [if_neg (by omega)]
      rw [e1, e2, Int32.add_assoc]
theorem bI_upd {b : Nat → Int32} {j : Nat} {x : Int32} : ∀ k i, i ≤ j → j < i + k → bI (upd b j (b j + x)) k i = bI b k i + x
  | 0, i, h1, h2 => by omega
  | k + 1, i, h1, h2 => by
    unfold bI
    have hno : ∀ k i, j < i → bI (upd b j (b j + x)) k i = bI b k i := by
      intro k
      induction k with
      | zero => intros; rfl
      | succ k ih =>
        intro i hi
        unfold bI
        rw [ih (i + 1) (by omega)]
        congr 1
        unfold upd; rw [if_neg (by omega)]
    rcases Nat.lt_or_ge i j with h | h
    · rw [bI_upd k (i + 1) (by omega) (by omega)]
      have : upd b j (b j + x) i = b i := by unfold upd; rw [if_neg (by omega)]
      rw [this, Int32.add_assoc]
    · have : i = j := by omega
      subst this
      rw [hno k (i + 1) (by omega)]
      have : upd b i (b i + x) i = b i + x := by simp [upd]
      rw [this, Int32.add_assoc, Int32.add_comm x, Int32.add_assoc]
theorem vp12 {x : Int32} {n : Nat} (h : vp_in x n) : ∃ j, j < n ∧ j < 2 ^ 31 ∧ x = nI j := by
  unfold vp_in at h
  have h1 : ¬ x < 0 := fun z => h (Or.inl z)
  obtain ⟨j, hj, rfl⟩ := nI_of h1
  refine ⟨j, ?_, hj, rfl⟩
  rw [nI_clamp hj] at h
  exact Nat.not_le.mp (fun z => h (Or.inr z))
theorem bal_sum {bf tf gf mf ff pf wf : Nat → Int32} {d : Int32} {c : Nat} (hin : ∀ i, i < c → vp_in (bf i) 12 ∧ vp_in (tf i) 12 ∧ ¬ bf i = tf i) : ∀ k i (f : Nat → Int32), i + k = c → bI f 12 0 = 0 → bI (bal bf tf gf mf ff pf wf d k i f) 12 0 = 0
  | 0, i, f, _, h => h
  | k + 1, i, f, h, h0 => by
    unfold bal
    refine bal_sum hin k (i + 1) _ (by omega) ?_
    unfold balStep
    split
    · obtain ⟨h1, h2, h3⟩ := hin i (by omega)
      obtain ⟨b, hb, -, eb⟩ := vp12 h1
      obtain ⟨t, ht, -, et⟩ := vp12 h2
      rw [eb, et, nI_clamp (by omega), nI_clamp (by omega), Int32.sub_eq_add_neg, bI_upd 12 0 (Nat.zero_le _) (by omega), bI_upd 12 0 (Nat.zero_le _) (by omega), h0, Int32.zero_add]
      exact Int32.add_right_neg _
    · exact h0
theorem balO_z {byf tof gof myf dyf pdf wof : Nat → Int32} {d : Int32} {m c n : Nat} (hm : n ≤ m) (hm2 : m < 2 ^ 31) (hin : ∀ i, i < c → vp_in (byf i) n ∧ vp_in (tof i) n) : ∀ k i a, i + k = c → balO byf tof gof myf dyf pdf wof (nI m) d k i a = a
  | 0, _, _, _ => rfl
  | k + 1, i, a, h => by
    unfold balO balS
    obtain ⟨h1, h2⟩ := hin i (by omega)
    obtain ⟨b, hb, hb2, eb⟩ := vp12 h1
    obtain ⟨t, ht, ht2, et⟩ := vp12 h2
    have n1 : ¬ tof i = nI m := by rw [et, nI_eq ht2 hm2]; omega
    have n2 : ¬ byf i = nI m := by rw [eb, nI_eq hb2 hm2]; omega
    rw [if_neg n1, if_neg n2, Int32.add_zero]
    rw [show (if dyf i ≤ d ∧ (pdf i < 0 ∨ d < pdf i) then a else a) = a from by split <;> rfl]
    exact balO_z hm hm2 hin k (i + 1) a (by omega)
/-- the fewest payments, class and model -/
theorem few_eq {bf tf gf mf ff pf pm wf sm ms smf grf : Nat → Int32} {d : Int32} {c n : Nat} (hn : n ≤ 12) (hp : pdR c pf pm) (hin : ∀ i, i < c → vp_in (bf i) n ∧ vp_in (tf i) n ∧ ¬ bf i = tf i) (h0 : ms 0 = 0) (hd : d < 3600)
    {B : Nat → Int32} (hB : B = fun i => balO bf tf gf mf ff pm wf (nI i) d c 0 0) :
    payV (pyl (bal bf tf gf mf ff pf wf d c 0 (fun _ => 0)) 12 0 0 sm).1 (pyl (bal bf tf gf mf ff pf wf d c 0 (fun _ => 0)) 12 0 0 sm).2 ms =
    nI (smA B n 0 0 smf).1 - grL (smA B n 0 0 smf).2 (smA B n 0 0 smf).1 (2 ^ (smA B n 0 0 smf).1 - 1) 1 (upd grf 0 0) (2 ^ (smA B n 0 0 smf).1 - 1) := by
  have vpm : ∀ x : Int32, vp_in x n → vp_in x 12 := fun x h => by
    obtain ⟨j, hj, -, rfl⟩ := vp12 h
    exact vp_in_nI (by omega) (by decide)
  have hin12 : ∀ i, i < c → vp_in (bf i) 12 ∧ vp_in (tf i) 12 ∧ ¬ bf i = tf i := fun i hi => by
    obtain ⟨a, b, e⟩ := hin i hi
    exact ⟨vpm _ a, vpm _ b, e⟩
  have hbb : ∀ j, j < 12 → bal bf tf gf mf ff pf wf d c 0 (fun _ => 0) j = B j := fun j hj => by
    rw [hB]
    exact bal_eq hj hp hd hin12 c 0 _ (by omega)
  have hz : ∀ j, n ≤ j → j < 12 → bal bf tf gf mf ff pf wf d c 0 (fun _ => 0) j = 0 := fun j h1 h2 => by
    rw [hbb j h2, hB]
    exact balO_z h1 (by omega) (fun i hi => ⟨(hin i hi).1, (hin i hi).2.1⟩) c 0 0 (by omega)
  have hsum := bal_sum (gf := gf) (mf := mf) (ff := ff) (pf := pf) (wf := wf) (d := d) hin12 c 0 (fun _ => 0) (by omega) (by decide)
  generalize bal bf tf gf mf ff pf wf d c 0 (fun _ => 0) = bb at *
  have e12 : pyl bb 12 0 0 sm = pyl bb n 0 0 sm := by
    have := pyl_app (b := bb) (k2 := 12 - n) n 0 0 sm (fun j a e => hz j (by omega) (by omega))
    rwa [show n + (12 - n) = 12 from by omega] at this
  have ht : bT (pyl bb 12 0 0 sm).2 (pyl bb 12 0 0 sm).1 = 0 := by
    rw [pyl_sum, hsum]; rfl
  rw [e12] at ht ⊢
  obtain ⟨s1, s2⟩ := sm_eq (b := bb) (B := B) n 0 0 sm smf (fun j a e => hbb j (by omega)) (fun s a e => by simp at e; omega)
  rw [s1]
  have hle := pyl_le (b := bb) n 0 0 sm
  generalize pyl bb n 0 0 sm = pz at *
  obtain ⟨m, v⟩ := pz
  simp only at *
  generalize (smA B n 0 0 smf).2 = sF at *
  obtain ⟨G, hG, eG⟩ := grL_isG (v := v) (sm := sF) (gr := grf) (m := m) (by omega) s2
  rw [eG]
  unfold payV
  by_cases hm : m = 0
  · subst hm
    rw [if_pos rfl, show 2 ^ 0 - 1 = 0 from rfl, hG.1]
    decide
  · rw [if_neg hm]
    obtain ⟨F, hF, eF⟩ := msa_isG (sm := v) (ms := ms) (m := m - 1) (by omega) h0
    rw [eF, few (by omega) hG hF ht]
    obtain ⟨m, rfl⟩ : ∃ k, m = k + 1 := ⟨m - 1, by omega⟩
    rw [show m + 1 - 1 = m from rfl, ← nI_1, ← nI_1]
    rw [Int32.sub_eq_add_neg, Int32.sub_eq_add_neg, Int32.neg_add, Int32.sub_eq_add_neg, i32_4]
    rw [show (1 : Int32) + -1 = 0 from by decide, Int32.add_zero]
theorem payM_0 {m : Nat} {sm ms : Nat → Int32} (h0 : ms 0 = 0) : payM m sm ms 0 = 0 := by
  unfold payM
  split
  · exact h0
  · rw [msa_lo _ _ _ _ (by omega)]; exact h0
