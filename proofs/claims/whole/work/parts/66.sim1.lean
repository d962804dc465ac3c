section SM
variable {nf : Nat → Int64} {sf bf xf : Nat → Int32} {n t f : Nat}
theorem flM_0 {s : MS} {k : Int32} (h : s.2.2.2.2.2.1 = 0) : (flM k s).2.2.2.2.2 = (k, nI s.1) := by
  have : ¬ (0 : Int32) < s.2.2.2.2.2.1 := by rw [h]; decide
  simp [flM, this]
theorem wrM_0 {s : MS} (h : s.2.2.2.2.2.1 = 0) : (wrM s).2.2.2.2.2 = (if s.2.2.1 = 1 then 1 else 2, nI s.1) := flM_0 h
theorem muM_no {s : MS} {p : Prop} [Decidable p] (h : s.2.2.2.2.2.1 = 0) (hp : ¬ p) : muM xf t (zb p) s = wrM s := by
  unfold muM; rw [if_pos h, if_pos (by simp [zb, hp])]
theorem muM_yes {s : MS} {p : Prop} [Decidable p] (h : s.2.2.2.2.2.1 = 0) (hp : p) : muM xf t (zb p) s = nxM xf t s := by
  unfold muM; rw [if_pos h, if_neg (by simp [zb, hp])]
theorem muM_f {s : MS} {p : Int32} (h : ¬ s.2.2.2.2.2.1 = 0) : muM xf t p s = s := by unfold muM; rw [if_neg h]
theorem flL_f {k : Nat} {T : FS} (h : ¬ T.1.2.2.2.2.2.1 = 0) : flL nf sf xf t n f k T = T := by
  cases k with
  | zero => rfl
  | succ k => show (if _ then _ else _) = _; rw [if_neg (fun z => h z.1)]
theorem enL_f {ls sy hg : Nat → Int32} {l k : Nat} {s : MS} (h : ¬ s.2.2.2.2.2.1 = 0) : enL nf sf ls xf t n l k s sy hg = (s, sy, hg) := by
  cases k with
  | zero => rfl
  | succ k => show (if _ then _ else _) = _; rw [if_neg (fun z => h z.1)]
/-- the rest of the model's line, and all that comes behind it -/
def fin (nf : Nat → Int64) (sf xf : Nat → Int32) (t n f : Nat) (kk c : Nat) (lm ld ls lw : Nat → Int32) (x : MS × (Nat → Int32) × (Nat → Int32)) : FS :=
  flL nf sf xf t n f kk (rl8 xf t (rl7 xf t (20 * f + c) x.1 lw).1, c + 1, lm, ld, ls, (rl7 xf t (20 * f + c) x.1 lw).2, x.2.1, x.2.2)
theorem rl7_f {s : MS} {l : Nat} {lw : Nat → Int32} (h : ¬ s.2.2.2.2.2.1 = 0) : rl7 xf t l s lw = (s, lw) := by unfold rl7; rw [if_neg (fun z => h z.1)]
theorem rl8_f {s : MS} (h : ¬ s.2.2.2.2.2.1 = 0) : rl8 xf t s = s := muM_f h
theorem fin_f {kk c : Nat} {lm ld ls lw : Nat → Int32} {x : MS × (Nat → Int32) × (Nat → Int32)} (h : ¬ x.1.2.2.2.2.2.1 = 0) : (fin nf sf xf t n f kk c lm ld ls lw x).1 = x.1 := by
  unfold fin
  rw [rl7_f h, rl8_f h, flL_f h]
/-- a wrong token -/
theorem res_bad {A : Nat × Int32 × Nat × Int64} {s : MS} {R : Int32 × Int32 × Int32 × List LN} {F : FS} (hk : tokR (bfM xf t) A s) (h0 : s.2.2.2.2.2.1 = 0) {v : Int32} (hv : ¬ v = 0)
    (hR : R.1 = 0 ∧ R.2.1 = v ∧ R.2.2.1 = nI A.2.2.1) (hF : F.1.2.2.2.2.2 = (v, nI s.1)) : resR f R F := by
  refine Or.inr ⟨hR.1, by rw [hR.2.1]; exact hv, ?_⟩
  rw [hF, hR.2.1, hR.2.2, hk.1]
theorem wr_v {A : Nat × Int32 × Nat × Int64} {s : MS} (hk : tokR (bfM xf t) A s) (h0 : s.2.2.2.2.2.1 = 0) : (wrM s).2.2.2.2.2 = (if A.2.1 = 1 then 1 else 2, nI s.1) := by
  rw [wrM_0 h0]
  by_cases h : A.2.1 = 1
  · rw [if_pos h, if_pos ((tk_bad hk).mpr h)]
  · rw [if_neg h, if_neg (fun z => h ((tk_bad hk).mp z))]
theorem wr_ne {k : Int32} : ¬ (if k = 1 then (1 : Int32) else 2) = 0 := by split <;> decide
/-- the class's step with a wrong token -/
theorem st_bad {kd : Int32} {va : Int64} {ex ld nd : Int32} {ll : List LN} {cur : LN} (hx : ex = 0 ∨ ex = 1 ∨ ex = 2 ∨ ex = 3 ∨ ex = 4 ∨ ex = 5 ∨ ex = 6 ∨ ex = 7)
    (h0 : ex = 0 → ¬ ((kd = 2 ∧ va = 6578553) ∧ ll.length < 20)) (h1 : ex = 1 → ¬ kd = 3) (h2 : ex = 2 → ¬ (kd = 2 ∧ ¬ sidC va = (-1))) (h3 : ex = 3 → ¬ (kd = 4 ∧ va = 58))
    (h4 : ex = 4 → ¬ (kd = 4 ∧ va = 63) ∧ ¬ (kd = 2 ∧ va = 512869231475) ∧ ¬ (kd = 2 ∧ freC va = true) ∧ ¬ (kd = 4 ∧ va = 59))
    (h5 : ex = 5 → ¬ (kd = 4 ∧ va = 63) ∧ ¬ (kd = 2 ∧ ¬ reaC va = (-1))) (h6 : ex = 6 → ¬ (kd = 4 ∧ va = 63) ∧ ¬ kd = 3) (h7 : ex = 7 → ¬ (kd = 4 ∧ va = 59)) :
    (stC nf sf n kd va (ex, ld, nd, ll, cur)).1 = if kd = 1 then 1 else 2 := by
  by_cases k1 : kd = 1
  · rw [if_pos k1]
    subst k1
    rcases hx with rfl | rfl | rfl | rfl | rfl | rfl | rfl | rfl <;> simp [stC, ftS, ftL, ftA]
  rw [if_neg k1]
  by_cases k0 : kd = 0
  · subst k0
    rcases hx with rfl | rfl | rfl | rfl | rfl | rfl | rfl | rfl <;> simp [stC, ftS, ftL, ftA]
  rcases hx with rfl | rfl | rfl | rfl | rfl | rfl | rfl | rfl
  · have := h0 rfl; simp [stC, ftA, k1, k0, this]
  · have := h1 rfl; simp [stC, ftA, k1, k0, this]
  · have := h2 rfl
    simp only [stC]
    rw [if_neg (by decide), if_neg (fun z => this z.2)]
    simp [ftA, k1, k0]
  · have := h3 rfl; simp [stC, ftA, k1, k0, this]
  · obtain ⟨a, b, c, d⟩ := h4 rfl; simp [stC, ftS, ftL, teC, k1, k0, a, b, c, d]
  · obtain ⟨a, b⟩ := h5 rfl; simp [stC, ftS, ftL, ttC, k1, k0, a, b]
  · obtain ⟨a, b⟩ := h6 rfl; simp [stC, ftS, ftL, twC, k1, k0, a, b]
  · have := h7 rfl; simp [stC, ftA, k1, k0, this]
theorem rd_bad {k j : Nat} {s : CS} (hne : ¬ ((adv bf t j).2.1 = 0 ∧ s.1 = 0)) {v : Int32} (hv : ¬ v = 0) (h : (stC nf sf n (adv bf t j).2.1 (adv bf t j).2.2.2 s).1 = v) :
    (rdC nf sf n bf t (k + 1) j s).1 = 0 ∧ (rdC nf sf n bf t (k + 1) j s).2.1 = v ∧ (rdC nf sf n bf t (k + 1) j s).2.2.1 = nI (adv bf t j).2.2.1 := by
  rw [rdC_bad hne (by rw [h]; exact hv), h]
  exact ⟨rfl, rfl, rfl⟩
end SM
section SN
variable {nf : Nat → Int64} {sf bf xf : Nat → Int32} {n t f : Nat}
/-- what the class and the model do from an entry on -/
def EntP (nf : Nat → Int64) (sf bf xf : Nat → Int32) (n t f k : Nat) : Prop :=
  ∀ (j m kk c : Nat) (s : MS) (ld nd : Int32) (ll : List LN) (cur : LN) (lm ldA lsA lwA sy hg : Nat → Int32), t - j < k → t - j < m → j ≤ t → tokR (bfM xf t) (adv bf t j) s → s.2.2.2.2.2 = (0, (-1)) → c = ll.length → c < 20 → linsR f ll ldA lsA lwA sy hg →
    linR cur (20 * f + c) ldA lsA lwA sy hg → cur.2.2.2.2 = (-1) → lm f = nI (c + 1) → 21 ≤ kk + (c + 1) →
    resR f (rdC nf sf n bf t k j (4, ld, nd, ll, cur)) (fin nf sf xf t n f kk c lm ldA lsA lwA (enL nf sf lsA xf t n (20 * f + c) m s sy hg))
def MainP (nf : Nat → Int64) (sf bf xf : Nat → Int32) (n t f k : Nat) : Prop :=
  ∀ (j kk c : Nat) (s : MS) (ld nd : Int32) (ll : List LN) (cur : LN) (lm ldA lsA lwA sy hg : Nat → Int32), t - j < k → j ≤ t → tokR (bfM xf t) (adv bf t j) s → s.2.2.2.2.2 = (0, (-1)) → c = ll.length → c ≤ 20 → linsR f ll ldA lsA lwA sy hg → lm f = nI c → 21 ≤ kk + c →
    resR f (rdC nf sf n bf t k j (0, ld, nd, ll, cur)) (flL nf sf xf t n f kk (s, c, lm, ldA, lsA, lwA, sy, hg))
theorem f0 {s : MS} (h : s.2.2.2.2.2 = (0, (-1))) : s.2.2.2.2.2.1 = 0 := by rw [h]
/-- behind a line's last token -/
theorem semi_step {k j kk c : Nat} {s : MS} {ex ld nd : Int32} {ll : List LN} {cur : LN} {lm ldA lsA lwA sy hg : Nat → Int32} (ht : t ≤ 300) (hB : ∀ i, i < t → bf i = bfM xf t i)
    (hM : ∀ k', k' < k → MainP nf sf bf xf n t f k') (hk : t - j < k) (hj : j ≤ t) (htk : tokR (bfM xf t) (adv bf t j) s) (hs : s.2.2.2.2.2 = (0, (-1))) (hc : c = ll.length) (hc2 : c < 20)
    (hL : linsR f ll ldA lsA lwA sy hg) (hr : linR cur (20 * f + c) ldA lsA lwA sy hg) (hlm : lm f = nI (c + 1)) (hkk : 21 ≤ kk + (c + 1)) (hx : ex = 4 ∨ ex = 7)
    (hno : ex = 4 → ¬ ((adv bf t j).2.1 = 4 ∧ (adv bf t j).2.2.2 = 63) ∧ ¬ ((adv bf t j).2.1 = 2 ∧ (adv bf t j).2.2.2 = 512869231475) ∧ ¬ ((adv bf t j).2.1 = 2 ∧ freC (adv bf t j).2.2.2 = true)) :
    resR f (rdC nf sf n bf t k j (ex, ld, nd, ll, cur)) (flL nf sf xf t n f kk (rl8 xf t s, c + 1, lm, ldA, lsA, lwA, sy, hg)) := by
  obtain ⟨k, rfl⟩ : ∃ k', k = k' + 1 := ⟨k - 1, by omega⟩
  have hne : ¬ ((adv bf t j).2.1 = 0 ∧ ((ex, ld, nd, ll, cur) : CS).1 = 0) := fun z => by
    rcases hx with rfl | rfl
    · exact absurd z.2 (by show ¬ ((4 : Int32) = 0); decide)
    · exact absurd z.2 (by show ¬ ((7 : Int32) = 0); decide)
  by_cases hq : (adv bf t j).2.1 = 4 ∧ (adv bf t j).2.2.2 = 59
  · have hS : stC nf sf n (adv bf t j).2.1 (adv bf t j).2.2.2 (ex, ld, nd, ll, cur) = (0, 0, ld, nd, ll ++ [cur], cur) := by
      rw [hq.1, hq.2]
      rcases hx with rfl | rfl
      · simp [stC, ftS, ftL, teC, cuS]
      · simp [stC, ftA]
    rw [rdC_go hne (by rw [hS]), hS]
    have h8 : rl8 xf t s = nxM xf t s := muM_yes (f0 hs) ((tk_sign htk 59).mpr hq)
    rw [h8]
    have hlt := adv_lt hj (by rw [hq.1]; decide)
    have hle := adv_le bf hj
    have hn := tok_nx ht hB hle s htk.2.1
    exact hM k (by omega) (adv bf t j).1 kk (c + 1) (nxM xf t s) ld nd (ll ++ [cur]) cur lm ldA lsA lwA sy hg (by omega) hle hn.1 (hn.2.trans hs) (by simp [hc]) (by omega) (linsR_snoc hL (hc ▸ hr)) hlm hkk
  · have h8 : rl8 xf t s = wrM s := muM_no (f0 hs) (fun z => hq ((tk_sign htk 59).mp z))
    have hw := wr_v htk (f0 hs)
    rw [h8, flL_f (by show ¬ (wrM s).2.2.2.2.2.1 = 0; rw [hw]; exact wr_ne)]
    refine res_bad htk (f0 hs) wr_ne (rd_bad hne wr_ne (st_bad (by rcases hx with rfl | rfl <;> simp) ?_ ?_ ?_ ?_ ?_ ?_ ?_ ?_)) hw
    · intro z; rcases hx with rfl | rfl <;> exact absurd z (by decide)
    · intro z; rcases hx with rfl | rfl <;> exact absurd z (by decide)
    · intro z; rcases hx with rfl | rfl <;> exact absurd z (by decide)
    · intro z; rcases hx with rfl | rfl <;> exact absurd z (by decide)
    · intro z; obtain ⟨a, b, c⟩ := hno z; exact ⟨a, b, c, hq⟩
    · intro z; rcases hx with rfl | rfl <;> exact absurd z (by decide)
    · intro z; rcases hx with rfl | rfl <;> exact absurd z (by decide)
    · intro z; exact hq
/-- the wicks -/
theorem odd_l {z : Nat} (hz : z < 10000) : (lN z &&& 1 = 1) ↔ z % 2 = 1 := by
  have h1 : (lN z &&& 1).toInt = ((z % 2 : Nat) : Int) := by
    have : lN z &&& 1 = lN (z &&& 1) := by
      apply Int64.toBitVec_inj.mp
      show BitVec.ofNat 64 z &&& BitVec.ofNat 64 1 = BitVec.ofNat 64 (z &&& 1)
      rw [BitVec.ofNat_and]
    rw [this, lN_toInt (by have := @Nat.and_le_right z 1; omega), Nat.and_one_is_mod]
  constructor
  · intro h
    rw [h] at h1
    have : ((1 : Int64).toInt) = 1 := by decide
    omega
  · intro h
    apply Int64.toInt_inj.mp
    rw [h1, h]
    decide
theorem odd_i {z : Nat} (hz : z < 10000) : (nI z - nI z / 2 * 2 = 1) ↔ z % 2 = 1 := by
  have hd : nI z / 2 = nI (z / 2) := by
    apply Int32.toInt_inj.mp
    rw [Int32.toInt_div_of_ne_right _ _ (by decide), nI_toInt (by omega), nI_toInt (by omega)]
    show Int.tdiv (z : Int) 2 = _
    rw [Int.tdiv_eq_ediv_of_nonneg (by omega)]
    omega
  rw [hd, show (2 : Int32) = nI 2 from rfl, pk_mul, pk_sub (by omega), show (1 : Int32) = nI 1 from rfl, nI_eq (by omega) (by omega)]
  omega
theorem toI32_l {z : Nat} (hz : z < 10000) : (lN z).toInt32 = nI z := by
  rw [← nI_l (by omega), Int32.toInt32_toInt64]
end SN
section SO
variable {nf : Nat → Int64} {sf bf xf : Nat → Int32} {n t f : Nat}
theorem isM_iff {c : Int32} {s : MS} : isM xf t c s = true ↔ (s.2.2.1 = 5 ∧ sgn xf t (nI s.1) = c) := by unfold isM; exact decide_eq_true_iff
theorem wick_step {k j kk c : Nat} {s : MS} {ld nd : Int32} {ll : List LN} {cur : LN} {lm ldA lsA lwA sy hg : Nat → Int32} (ht : t ≤ 300) (hB : ∀ i, i < t → bf i = bfM xf t i)
    (hM : ∀ k', k' < k → MainP nf sf bf xf n t f k') (hk : t - j < k) (hj : j ≤ t) (htk : tokR (bfM xf t) (adv bf t j) (nxM xf t s)) (hs : (nxM xf t s).2.2.2.2.2 = (0, (-1))) (hc : c = ll.length) (hc2 : c < 20)
    (hL : linsR f ll ldA lsA lwA sy hg) (hr : linR cur (20 * f + c) ldA lsA lwA sy hg) (hcw : cur.2.2.2.2 = (-1)) (hlm : lm f = nI (c + 1)) (hkk : 21 ≤ kk + (c + 1)) :
    resR f (rdC nf sf n bf t k j (6, ld, nd, ll, cur)) (flL nf sf xf t n f kk (rl8 xf t (rwS xf t s), c + 1, lm, ldA, lsA, rwW xf t s (20 * f + c) lwA, sy, hg)) := by
  obtain ⟨k, rfl⟩ : ∃ k', k = k' + 1 := ⟨k - 1, by omega⟩
  have hne : ¬ ((adv bf t j).2.1 = 0 ∧ ((6, ld, nd, ll, cur) : CS).1 = 0) := fun z => absurd z.2 (by show ¬ ((6 : Int32) = 0); decide)
  unfold rwS rwW
  generalize hs1 : nxM xf t s = s1 at htk hs ⊢
  have hle := adv_le bf hj
  by_cases hq : (adv bf t j).2.1 = 4 ∧ (adv bf t j).2.2.2 = 63
  · have hS : stC nf sf n (adv bf t j).2.1 (adv bf t j).2.2.2 (6, ld, nd, ll, cur) = (0, 7, ld, nd, ll, cur) := by
      rw [hq.1, hq.2]
      simp [stC, ftS, ftL, twC, cuS]
    rw [rdC_go hne (by rw [hS]), hS]
    have h6 : isM xf t 63 s1 = true := isM_iff.mpr ((tk_sign htk 63).mpr hq)
    rw [if_pos h6, if_pos h6]
    have hlt := adv_lt hj (by rw [hq.1]; decide)
    have hn := tok_nx ht hB hle s1 htk.2.1
    exact semi_step ht hB (fun k' h => hM k' (by omega)) (by omega) hle hn.1 (hn.2.trans hs) hc hc2 hL hr hlm hkk (Or.inr rfl) (fun z => absurd z (by decide))
  · have h6 : ¬ isM xf t 63 s1 = true := fun z => hq ((tk_sign htk 63).mp (isM_iff.mp z))
    rw [if_neg h6, if_neg h6]
    by_cases h3 : (adv bf t j).2.1 = 3
    · obtain ⟨z, hz, hva, hnu⟩ := tk_numV htk h3
      have ht4 : s1.2.2.1 = 4 := (tk_num htk).mpr h3
      by_cases ho : z % 2 = 1
      · have hS : (stC nf sf n (adv bf t j).2.1 (adv bf t j).2.2.2 (6, ld, nd, ll, cur)).1 = 6 := by
          rw [h3, hva]
          simp [stC, ftS, ftL, twC, (odd_l hz).mpr ho]
        have hm : s1.2.2.1 = 4 ∧ s1.2.2.2.1 - s1.2.2.2.1 / 2 * 2 = 1 := ⟨ht4, by rw [hnu]; exact (odd_i hz).mpr ho⟩
        rw [if_pos hm]
        have hf := flM_0 (k := 6) (f0 hs)
        have hfn : ¬ (flM 6 s1).2.2.2.2.2.1 = 0 := by rw [hf]; show ¬ ((6 : Int32) = 0); decide
        rw [muM_f hfn, rl8_f hfn, flL_f hfn]
        exact res_bad htk (f0 hs) (by decide) (rd_bad hne (by decide) hS) hf
      · have hS : stC nf sf n (adv bf t j).2.1 (adv bf t j).2.2.2 (6, ld, nd, ll, cur) = (0, 7, ld, nd, ll, (cur.1, cur.2.1, cur.2.2.1, cur.2.2.2.1, nI z)) := by
          have : ¬ (lN z &&& 1 = 1) := fun q => ho ((odd_l hz).mp q)
          rw [h3, hva]
          simp [stC, ftS, ftL, twC, cuS, this, toI32_l hz]
        rw [rdC_go hne (by rw [hS]), hS]
        have hm : ¬ (s1.2.2.1 = 4 ∧ s1.2.2.2.1 - s1.2.2.2.1 / 2 * 2 = 1) := fun q => ho ((odd_i hz).mp (by rw [← hnu]; exact q.2))
        rw [if_neg hm, muM_yes (f0 hs) ht4, hnu]
        have hlt := adv_lt hj (by rw [h3]; decide)
        have hn := tok_nx ht hB hle s1 htk.2.1
        refine semi_step ht hB (fun k' h => hM k' (by omega)) (by omega) hle hn.1 (hn.2.trans hs) hc hc2 (linsR_off hL ?_) ?_ hlm hkk (Or.inr rfl) (fun z => absurd z (by decide))
        · refine ⟨fun x hx => ⟨rfl, rfl, ?_, rfl⟩, fun _ _ => rfl⟩
          simp [upd, hc, hx]
        · obtain ⟨a, b, _, d, e, _⟩ := hr
          refine ⟨a, b, ?_, d, e, Or.inr (nI_pos' (by omega))⟩
          simp [upd]
    · have h4 : ¬ s1.2.2.1 = 4 := fun z => h3 ((tk_num htk).mp z)
      rw [if_neg (fun q => h4 q.1), muM_no (f0 hs) h4]
      have hw := wr_v htk (f0 hs)
      have hfn : ¬ (wrM s1).2.2.2.2.2.1 = 0 := by rw [hw]; exact wr_ne
      rw [rl8_f hfn, flL_f hfn]
      refine res_bad htk (f0 hs) wr_ne (rd_bad hne wr_ne (st_bad (by simp) ?_ ?_ ?_ ?_ ?_ ?_ ?_ ?_)) hw
      · intro z; exact absurd z (by decide)
      · intro z; exact absurd z (by decide)
      · intro z; exact absurd z (by decide)
      · intro z; exact absurd z (by decide)
      · intro z; exact absurd z (by decide)
      · intro z; exact absurd z (by decide)
      · intro z; exact ⟨hq, h3⟩
      · intro z; exact absurd z (by decide)
theorem fnd_neg {w : Int64} (hn : n ≤ 12) : fnd nf w n 0 < 0 ↔ fnd nf w n 0 = (-1) := by
  constructor
  · intro h
    rcases fnd_in nf w n 0 with q | ⟨i, h1, h2, h3, h4⟩
    · exact q
    · rw [h4] at h
      exact absurd h (nI_pos (by omega))
  · intro h; rw [h]; decide
end SO
