theorem skp_cg {f g : Nat → Int32} : ∀ k j, (∀ i, i < j + k → f i = g i) → skp f k j = skp g k j
  | 0, _, _ => rfl
  | k + 1, j, h => by
    unfold skp
    rw [h j (by omega), skp_cg k (j + 1) (fun i hi => h i (by omega))]
/-- class and model: the letters of a word -/
theorem rdw_ltE {f g : Nat → Int32} : ∀ k e v, (∀ i, i < e + k → f i = g i) → rdw f k e v = (ltE g k e, nmL g (ltE g k e - e) e v)
  | 0, e, v, _ => by simp [rdw, ltE, nmL]
  | k + 1, e, v, h => by
    unfold rdw ltE
    rw [h e (by omega)]
    by_cases q : isL (g e) = true
    · rw [if_pos q, if_pos q, rdw_ltE k (e + 1) _ (fun i hi => h i (by omega))]
      have hl := (ltE_le g k (e + 1)).1
      have e1 : ltE g k (e + 1) - e = (ltE g k (e + 1) - (e + 1)) + 1 := by omega
      rw [e1]
      rfl
    · rw [if_neg q, if_neg q]
      simp [nmL]
theorem isDg_iff {c : Int32} (h : isDg c = true) : ∃ d : Nat, d < 10 ∧ c = nI (48 + d) := by
  unfold isDg at h
  have h := of_decide_eq_true h
  obtain ⟨j, hj, rfl⟩ := nI_of2 (x := c) (M := 57) (n := 57) (by decide) (fun z => h.1 (Int32.lt_trans z (by decide))) (Int32.not_lt.mp h.2)
  have h1 : 48 ≤ j := by
    have := h.1
    rw [show (48 : Int32) = nI 48 from rfl] at this
    exact Nat.not_lt.mp (fun z => this (nI_lt z (by decide)))
  exact ⟨j - 48, by omega, by congr 1; omega⟩
/-- class and model: the digits of a number -/
theorem rdn_dgL {f g : Nat → Int32} {a : Nat} : ∀ k e (x y : Nat) (w : Int64), (∀ i, i < e + k → f i = g i) → a ≤ e → (e - a ≤ 4 → w = lN x ∧ y = x ∧ x < 10 ^ (e - a)) →
    (rdn f k e w).1 = (dgL g a k e (nI y)).1 ∧ ((rdn f k e w).1 - a ≤ 4 → ∃ z : Nat, z < 10000 ∧ (rdn f k e w).2 = lN z ∧ (dgL g a k e (nI y)).2 = nI z)
  | 0, e, x, y, w, _, ha, hx => by
    refine ⟨rfl, fun h => ?_⟩
    obtain ⟨h1, h2, h3⟩ := hx h
    exact ⟨x, Nat.lt_of_lt_of_le h3 (Nat.pow_le_pow_right (by decide) h), h1, by rw [h2]; rfl⟩
  | k + 1, e, x, y, w, h, ha, hx => by
    unfold rdn dgL
    rw [h e (by omega)]
    by_cases q : isDg (g e) = true
    · rw [if_pos q, if_pos q]
      obtain ⟨d, hd, hg⟩ := isDg_iff q
      by_cases h4 : e - a < 4
      · obtain ⟨h1, h2, h3⟩ := hx (by omega)
        have hp : 10 ^ (e + 1 - a) = 10 * 10 ^ (e - a) := by rw [show e + 1 - a = (e - a) + 1 from by omega, Nat.pow_succ, Nat.mul_comm]
        have hx4 : x < 10000 := Nat.lt_of_lt_of_le h3 (show 10 ^ (e - a) ≤ 10 ^ 4 from Nat.pow_le_pow_right (by decide) (by omega))
        have hv : 10 * nI y + g e - 48 = nI (10 * x + d) := by
          rw [h2, hg, show (10 : Int32) = nI 10 from rfl, show (48 : Int32) = nI 48 from rfl, pk_mul, nI_add, pk_sub (by omega)]
          congr 1; omega
        have hw : w * 10 + Int32.toInt64 (g e - 48) = lN (10 * x + d) := by
          rw [h1, hg, show (48 : Int32) = nI 48 from rfl, pk_sub (by omega), show 48 + d - 48 = d from by omega, nI_l (by omega), show (10 : Int64) = lN 10 from rfl, lN_mul, lN_add]
          congr 1; omega
        rw [if_pos h4, hv]
        exact rdn_dgL k (e + 1) (10 * x + d) (10 * x + d) _ (fun i hi => h i (by omega)) (by omega) (fun _ => ⟨hw, rfl, by omega⟩)
      · rw [if_neg h4]
        exact rdn_dgL k (e + 1) x y _ (fun i hi => h i (by omega)) (by omega) (fun z => absurd z (by omega))
    · rw [if_neg q, if_neg q]
      refine ⟨rfl, fun h => ?_⟩
      obtain ⟨h1, h2, h3⟩ := hx h
      exact ⟨x, Nat.lt_of_lt_of_le h3 (Nat.pow_le_pow_right (by decide) h), h1, by rw [h2]⟩
/-- the token that the class has read and the model's -/
def tokR (B : Nat → Int32) (A : Nat × Int32 × Nat × Int64) (N : MS) : Prop := N.1 = A.2.2.1 ∧ N.2.1 = A.1 ∧
  ((A.2.1 = 0 ∧ N.2.2.1 = 0) ∨ (A.2.1 = 1 ∧ N.2.2.1 = 1) ∨ (A.2.1 = 2 ∧ N.2.2.2.2.1 = A.2.2.2 ∧ N.2.2.1 = if kepM A.2.2.2 = true then 3 else 2) ∨
   (A.2.1 = 3 ∧ N.2.2.1 = 4 ∧ ∃ z : Nat, z < 10000 ∧ A.2.2.2 = lN z ∧ N.2.2.2.1 = nI z) ∨ (A.2.1 = 4 ∧ N.2.2.1 = 5 ∧ A.2.2.2 = Int32.toInt64 (B N.1)))
theorem tok_nx {bf xf : Nat → Int32} {t j : Nat} (ht : t ≤ 300) (hB : ∀ i, i < t → bf i = bfM xf t i) (hj : j ≤ t) (s : MS) (hs : s.2.1 = j) :
    tokR (bfM xf t) (adv bf t j) (nxM xf t s) ∧ (nxM xf t s).2.2.2.2.2 = s.2.2.2.2.2 := by
  have hS : skp bf (t - j) j = skp (bfM xf t) (t - j) j := skp_cg _ _ (fun i hi => hB i (by omega))
  have hle := skp_le (bfM xf t) (t - j) j
  unfold adv nxM
  rw [hs, hS]
  generalize skp (bfM xf t) (t - j) j = p at hle ⊢
  by_cases hp : p < t
  · rw [if_pos hp, if_pos hp, hB p hp]
    by_cases hl : isL (bfM xf t p) = true
    · rw [if_pos hl, if_pos hl]
      have hr : rdw bf (t - p) p 0 = (ltE (bfM xf t) (t - p) p, nmL (bfM xf t) (ltE (bfM xf t) (t - p) p - p) p 0) := rdw_ltE _ _ _ (fun i hi => hB i (by omega))
      have hx : ltE (bfM xf t) (t - p) p = ltE (bfM xf t) (t - (p + 1)) (p + 1) := by
        rw [show t - p = (t - (p + 1)) + 1 from by omega]
        show (if isL (bfM xf t p) then _ else _) = _
        rw [if_pos hl]
      rw [hr, hx]
      have hge := ltE_le (bfM xf t) (t - (p + 1)) (p + 1)
      generalize ltE (bfM xf t) (t - (p + 1)) (p + 1) = e at hge ⊢
      refine ⟨⟨rfl, rfl, ?_⟩, rfl⟩
      by_cases h8 : e - p ≤ 8
      · refine Or.inr (Or.inr (Or.inl ⟨if_pos h8, ?_, ?_⟩))
        · show nmL _ (min e (p + 8) - p) p 0 = nmL _ (e - p) p 0
          rw [Nat.min_eq_left (by omega)]
        · show (if 8 < e - p then (1 : Int32) else _) = _
          rw [if_neg (by omega), Nat.min_eq_left (show e ≤ p + 8 by omega)]
      · refine Or.inr (Or.inl ⟨if_neg h8, if_pos (by omega)⟩)
    · rw [if_neg hl, if_neg hl]
      by_cases hd : isDg (bfM xf t p) = true
      · rw [if_pos hd, if_pos hd]
        have hr := rdn_dgL (f := bf) (g := bfM xf t) (a := p) (t - p) p 0 0 0 (fun i hi => hB i (by omega)) (Nat.le_refl _) (fun _ => ⟨rfl, rfl, by simp⟩)
        rw [show nI 0 = 0 from rfl] at hr
        rw [hr.1]
        have hge := dgL_le (bfM xf t) p (t - p) p 0
        have hre := hr.1
        obtain ⟨-, hz⟩ := hr
        generalize hD : dgL (bfM xf t) p (t - p) p 0 = D at hge hz hre ⊢
        obtain ⟨e, v⟩ := D
        simp only at hge hz hre
        refine ⟨⟨rfl, rfl, ?_⟩, rfl⟩
        simp only
        have htat : isL (tat bf t (nI e)) = isL (bfM xf t e) := by
          rcases Nat.lt_or_ge e t with he | he
          · rw [tat_in he ht, hB e he]
          · rw [tat_out he (by omega), bfM_out he (by omega)]; decide
        simp only [htat]
        by_cases hb : e - p ≤ 4 ∧ isL (bfM xf t e) = false
        · obtain ⟨z, h1, h2, h3⟩ := hz (by rw [hre]; exact hb.1)
          refine Or.inr (Or.inr (Or.inr (Or.inl ⟨if_pos hb, ?_, z, h1, h2, h3⟩)))
          rw [if_neg]
          rintro (h | h)
          · omega
          · rw [hb.2] at h; exact absurd h (by decide)
        · refine Or.inr (Or.inl ⟨if_neg hb, ?_⟩)
          rw [if_pos]
          by_cases h4 : 4 < e - p
          · exact Or.inl h4
          · exact Or.inr (by
              cases hq : isL (bfM xf t e) with
              | true => rfl
              | false => exact absurd ⟨by omega, hq⟩ hb)
      · rw [if_neg hd, if_neg hd]
        refine ⟨⟨rfl, rfl, ?_⟩, rfl⟩
        by_cases hq : bfM xf t p = 58 ∨ bfM xf t p = 59 ∨ bfM xf t p = 63
        · exact Or.inr (Or.inr (Or.inr (Or.inr ⟨if_pos hq, if_pos hq, rfl⟩)))
        · exact Or.inr (Or.inl ⟨if_neg hq, if_neg hq⟩)
  · rw [if_neg hp, if_neg hp]
    have : p = t := by omega
    subst this
    exact ⟨⟨rfl, rfl, Or.inl ⟨rfl, rfl⟩⟩, rfl⟩
theorem adv_lt {bf : Nat → Int32} {t j : Nat} (hj : j ≤ t) (h : ¬ (adv bf t j).2.1 = 0) : j < (adv bf t j).1 := by
  have hle := skp_le bf (t - j) j
  unfold adv at h ⊢
  generalize skp bf (t - j) j = p at hle h ⊢
  by_cases hp : p < t
  · rw [if_pos hp]
    by_cases hl : isL (bf p) = true
    · rw [if_pos hl]
      show j < (rdw bf (t - p) p 0).1
      rw [rdw_ltE (g := bf) _ _ _ (fun _ _ => rfl)]
      show j < ltE bf (t - p) p
      have hx : ltE bf (t - p) p = ltE bf (t - (p + 1)) (p + 1) := by
        rw [show t - p = (t - (p + 1)) + 1 from by omega]
        show (if isL (bf p) then _ else _) = _
        rw [if_pos hl]
      have hge := ltE_le bf (t - (p + 1)) (p + 1)
      omega
    · rw [if_neg hl]
      by_cases hd : isDg (bf p) = true
      · rw [if_pos hd]
        show j < (rdn bf (t - p) p 0).1
        have hr := (rdn_dgL (f := bf) (g := bf) (a := p) (t - p) p 0 0 0 (fun i hi => rfl) (Nat.le_refl _) (fun _ => ⟨rfl, rfl, by simp⟩)).1
        rw [hr]
        have := dgL_lt (bf := bf) (a := p) (k := t - p) (v := nI 0) hd (by omega)
        omega
      · rw [if_neg hd]
        show j < p + 1
        omega
  · rw [if_neg hp] at h
    exact absurd rfl h
theorem kep_fre (w : Int64) : kepM w = true ↔ ¬ freC w = true := by
  unfold kepM freC reaM sidC reaC
  simp only [decide_eq_true_eq]
  by_cases h1 : w = 2003792491
  · subst h1; decide
  by_cases h2 : w = 6909036
  · subst h2; decide
  by_cases h3 : w = 439787549556
  · subst h3; decide
  by_cases h4 : w = 1635213689
  · subst h4; decide
  by_cases h5 : w = 431417028203
  · subst h5; decide
  by_cases h6 : w = 6578553
  · subst h6; decide
  by_cases h7 : w = 1818584692
  · subst h7; decide
  by_cases h8 : w = 491394656372
  · subst h8; decide
  by_cases h9 : w = 512869231475
  · subst h9; decide
  simp [h1, h2, h3, h4, h5, h6, h7, h8, h9]
theorem toI64_inj {a b : Int32} : a.toInt64 = b.toInt64 ↔ a = b := by
  constructor
  · intro h
    have := congrArg Int64.toInt h
    rw [Int32.toInt_toInt64, Int32.toInt_toInt64] at this
    exact Int32.toInt_inj.mp this
  · rintro rfl; rfl
section TK
variable {xf : Nat → Int32} {t : Nat} {A : Nat × Int32 × Nat × Int64} {s : MS}
theorem tk_word (h : tokR (bfM xf t) A s) (w : Int64) (hw : kepM w = true) : (s.2.2.1 = 3 ∧ s.2.2.2.2.1 = w) ↔ (A.2.1 = 2 ∧ A.2.2.2 = w) := by
  obtain ⟨-, -, h⟩ := h
  rcases h with ⟨h1, h2⟩ | ⟨h1, h2⟩ | ⟨h1, h2, h3⟩ | ⟨h1, h2, -⟩ | ⟨h1, h2, -⟩
  · (first | (rw [h1, h2]; done) | (rw [h1, h2]; simp))
  · (first | (rw [h1, h2]; done) | (rw [h1, h2]; simp))
  · rw [h1, h2, h3]
    constructor
    · rintro ⟨-, h⟩; exact ⟨rfl, h⟩
    · rintro ⟨-, h⟩; rw [h, if_pos hw]; exact ⟨rfl, rfl⟩
  · (first | (rw [h1, h2]; done) | (rw [h1, h2]; simp))
  · (first | (rw [h1, h2]; done) | (rw [h1, h2]; simp))
theorem tk_sign (h : tokR (bfM xf t) A s) (c : Int32) : (s.2.2.1 = 5 ∧ sgn xf t (nI s.1) = c) ↔ (A.2.1 = 4 ∧ A.2.2.2 = c.toInt64) := by
  obtain ⟨-, -, h⟩ := h
  rcases h with ⟨h1, h2⟩ | ⟨h1, h2⟩ | ⟨h1, h2, h3⟩ | ⟨h1, h2, -⟩ | ⟨h1, h2, h3⟩
  · (first | (rw [h1, h2]; done) | (rw [h1, h2]; simp))
  · (first | (rw [h1, h2]; done) | (rw [h1, h2]; simp))
  · rw [h1, h3]
    split <;> simp
  · (first | (rw [h1, h2]; done) | (rw [h1, h2]; simp))
  · rw [h1, h2, h3, toI64_inj]
    simp [bfM]
theorem tk_num (h : tokR (bfM xf t) A s) : s.2.2.1 = 4 ↔ A.2.1 = 3 := by
  obtain ⟨-, -, h⟩ := h
  rcases h with ⟨h1, h2⟩ | ⟨h1, h2⟩ | ⟨h1, h2, h3⟩ | ⟨h1, h2, -⟩ | ⟨h1, h2, h3⟩
  · (first | (rw [h1, h2]; done) | (rw [h1, h2]; simp))
  · (first | (rw [h1, h2]; done) | (rw [h1, h2]; simp))
  · rw [h1, h3]; split <;> simp
  · (first | (rw [h1, h2]; done) | (rw [h1, h2]; simp))
  · (first | (rw [h1, h2]; done) | (rw [h1, h2]; simp))
theorem tk_numV (h : tokR (bfM xf t) A s) (h3 : A.2.1 = 3) : ∃ z : Nat, z < 10000 ∧ A.2.2.2 = lN z ∧ s.2.2.2.1 = nI z := by
  obtain ⟨-, -, h⟩ := h
  rcases h with ⟨h1, h2⟩ | ⟨h1, h2⟩ | ⟨h1, h2, -⟩ | ⟨h1, h2, h⟩ | ⟨h1, h2, -⟩
  · exact absurd (h1.symm.trans h3) (by decide)
  · exact absurd (h1.symm.trans h3) (by decide)
  · exact absurd (h1.symm.trans h3) (by decide)
  · exact h
  · exact absurd (h1.symm.trans h3) (by decide)
theorem tk_end (h : tokR (bfM xf t) A s) : s.2.2.1 = 0 ↔ A.2.1 = 0 := by
  obtain ⟨-, -, h⟩ := h
  rcases h with ⟨h1, h2⟩ | ⟨h1, h2⟩ | ⟨h1, h2, h3⟩ | ⟨h1, h2, -⟩ | ⟨h1, h2, h3⟩
  · (first | (rw [h1, h2]; done) | (rw [h1, h2]; simp))
  · (first | (rw [h1, h2]; done) | (rw [h1, h2]; simp))
  · rw [h1, h3]; split <;> simp
  · (first | (rw [h1, h2]; done) | (rw [h1, h2]; simp))
  · (first | (rw [h1, h2]; done) | (rw [h1, h2]; simp))
theorem tk_bad (h : tokR (bfM xf t) A s) : s.2.2.1 = 1 ↔ A.2.1 = 1 := by
  obtain ⟨-, -, h⟩ := h
  rcases h with ⟨h1, h2⟩ | ⟨h1, h2⟩ | ⟨h1, h2, h3⟩ | ⟨h1, h2, -⟩ | ⟨h1, h2, h3⟩
  · (first | (rw [h1, h2]; done) | (rw [h1, h2]; simp))
  · (first | (rw [h1, h2]; done) | (rw [h1, h2]; simp))
  · rw [h1, h3]; split <;> simp
  · (first | (rw [h1, h2]; done) | (rw [h1, h2]; simp))
  · (first | (rw [h1, h2]; done) | (rw [h1, h2]; simp))
theorem tk_name (h : tokR (bfM xf t) A s) : s.2.2.1 = 2 ↔ (A.2.1 = 2 ∧ freC A.2.2.2 = true) := by
  obtain ⟨-, -, h⟩ := h
  rcases h with ⟨h1, h2⟩ | ⟨h1, h2⟩ | ⟨h1, h2, h3⟩ | ⟨h1, h2, -⟩ | ⟨h1, h2, h3⟩
  · (first | (rw [h1, h2]; done) | (rw [h1, h2]; simp))
  · (first | (rw [h1, h2]; done) | (rw [h1, h2]; simp))
  · rw [h1, h3]
    by_cases q : kepM A.2.2.2 = true
    · rw [if_pos q]; simp [(kep_fre _).mp q]
    · rw [if_neg q]
      have : freC A.2.2.2 = true := Classical.byContradiction (fun z => q ((kep_fre _).mpr z))
      simp [this]
  · (first | (rw [h1, h2]; done) | (rw [h1, h2]; simp))
  · (first | (rw [h1, h2]; done) | (rw [h1, h2]; simp))
theorem tk_nm (h : tokR (bfM xf t) A s) (hh : A.2.1 = 2) : s.2.2.2.2.1 = A.2.2.2 ∧ (s.2.2.1 = if kepM A.2.2.2 = true then 3 else 2) := by
  obtain ⟨-, -, h⟩ := h
  rcases h with ⟨h1, -⟩ | ⟨h1, -⟩ | ⟨h1, h3⟩ | ⟨h1, h2, -⟩ | ⟨h1, h2, h3⟩
  · exact absurd (h1.symm.trans hh) (by decide)
  · exact absurd (h1.symm.trans hh) (by decide)
  · exact h3
  · exact absurd (h1.symm.trans hh) (by decide)
  · exact absurd (h1.symm.trans hh) (by decide)
end TK
def entR (e y : Int32) : Prop := (e = (-1) ∧ y = 8) ∨ (y = e ∧ (e = 0 ∨ e = 1 ∨ e = 2 ∨ e = 3 ∨ e = 4 ∨ e = 5))
/-- a line of the class and its rows in the model -/
def linR (r : LN) (l : Nat) (ld ls lw sy hg : Nat → Int32) : Prop := ld l = r.1 ∧ ls l = r.2.1 ∧ lw l = r.2.2.2.2 ∧ hg l = r.2.2.2.1 ∧ (∀ i, i < 12 → entR (r.2.2.1 i) (sy (12 * l + i))) ∧ (r.2.2.2.2 = (-1) ∨ 0 ≤ r.2.2.2.2)
def linsR (f : Nat) (ll : List LN) (ld ls lw sy hg : Nat → Int32) : Prop := ∀ i (h : i < ll.length), linR ll[i] (20 * f + i) ld ls lw sy hg
def resR (f : Nat) (R : Int32 × Int32 × Int32 × List LN) (F : FS) : Prop :=
  (R.1 = 1 ∧ R.2.1 = 0 ∧ R.2.2.1 = (-1) ∧ F.1.2.2.2.2.2 = (0, (-1)) ∧ F.2.1 = R.2.2.2.length ∧ F.2.2.1 f = nI R.2.2.2.length ∧ linsR f R.2.2.2 F.2.2.2.1 F.2.2.2.2.1 F.2.2.2.2.2.1 F.2.2.2.2.2.2.1 F.2.2.2.2.2.2.2) ∨
  (R.1 = 0 ∧ ¬ R.2.1 = 0 ∧ F.1.2.2.2.2.2 = (R.2.1, R.2.2.1))
/-- rows that agree off a line -/
def offR (l : Nat) (ld ls lw sy hg ld' ls' lw' sy' hg' : Nat → Int32) : Prop := (∀ x, ¬ x = l → ld' x = ld x ∧ ls' x = ls x ∧ lw' x = lw x ∧ hg' x = hg x) ∧ ∀ y, ¬ (12 * l ≤ y ∧ y < 12 * l + 12) → sy' y = sy y
theorem linsR_off {f : Nat} {ll : List LN} {ld ls lw sy hg ld' ls' lw' sy' hg' : Nat → Int32} (h : linsR f ll ld ls lw sy hg) (ho : offR (20 * f + ll.length) ld ls lw sy hg ld' ls' lw' sy' hg') : linsR f ll ld' ls' lw' sy' hg' := by
  intro i hi
  obtain ⟨h1, h2, h3, h4, h5, h6⟩ := h i hi
  obtain ⟨o1, o2, o3, o4⟩ := ho.1 (20 * f + i) (by omega)
  exact ⟨o1.trans h1, o2.trans h2, o3.trans h3, o4.trans h4, fun j hj => by rw [ho.2 _ (by omega)]; exact h5 j hj, h6⟩
theorem linsR_snoc {f : Nat} {ll : List LN} {r : LN} {ld ls lw sy hg : Nat → Int32} (h : linsR f ll ld ls lw sy hg) (hr : linR r (20 * f + ll.length) ld ls lw sy hg) : linsR f (ll ++ [r]) ld ls lw sy hg := by
  intro i hi
  rcases Nat.lt_or_ge i ll.length with hl | hl
  · rw [List.getElem_append_left hl]; exact h i hl
  · have : i = ll.length := by simp at hi; omega
    subst this
    rw [List.getElem_append_right (Nat.le_refl _)]
    simpa using hr
