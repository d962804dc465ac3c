/-- names: class and model look at the same bytes -/
theorem sh_and (a : Nat) (h : a < 8) : (Int32.toInt64 (nI (8 * a))).toUInt64 &&& Int64.toUInt64 63 = UInt64.ofNat (8 * a) := by
  rcases (show a = 0 ∨ a = 1 ∨ a = 2 ∨ a = 3 ∨ a = 4 ∨ a = 5 ∨ a = 6 ∨ a = 7 by omega) with rfl | rfl | rfl | rfl | rfl | rfl | rfl | rfl <;> decide
theorem byt_eq (v : Int64) (a : Nat) : byt v (nI (8 * a)) = bytM v a := by
  unfold byt bytM shM
  generalize (v.toUInt64 >>> ((Int32.toInt64 (nI (8 * a))).toUInt64 &&& Int64.toUInt64 63)).toInt64 = w
  apply Int32.toBitVec_inj.mp
  simp
theorem shM_0 (v : Int64) {a : Nat} (h : a < 8) : shM v a = 0 ↔ v.toBitVec.toNat / 2 ^ (8 * a) = 0 := by
  unfold shM
  rw [sh_and a h, ← Int64.toBitVec_inj]
  rw [show ((v.toUInt64 >>> UInt64.ofNat (8 * a)).toInt64).toBitVec = v.toBitVec >>> (8 * a) from ?_]
  · constructor
    · intro h
      have := congrArg BitVec.toNat h
      rw [BitVec.toNat_ushiftRight, Nat.shiftRight_eq_div_pow] at this
      exact this
    · intro h
      apply BitVec.eq_of_toNat_eq
      rw [BitVec.toNat_ushiftRight, Nat.shiftRight_eq_div_pow, h]
      rfl
  · show (v.toUInt64 >>> UInt64.ofNat (8 * a)).toBitVec = _
    apply BitVec.eq_of_toNat_eq
    show (v.toUInt64 >>> UInt64.ofNat (8 * a)).toNat = _
    rw [UInt64.toNat_shiftRight, BitVec.toNat_ushiftRight]
    congr 1
    rw [UInt64.toNat_ofNat']
    omega
theorem shM_bv (v : Int64) {a : Nat} (h : a < 8) : (shM v a).toBitVec.toNat = v.toBitVec.toNat / 2 ^ (8 * a) := by
  unfold shM
  rw [sh_and a h]
  show (v.toUInt64 >>> UInt64.ofNat (8 * a)).toNat = _
  rw [UInt64.toNat_shiftRight, Nat.shiftRight_eq_div_pow]
  congr 2
  rw [UInt64.toNat_ofNat']
  omega
theorem bytM_0 (v : Int64) {a : Nat} (h : a < 8) : bytM v a = 0 ↔ v.toBitVec.toNat / 2 ^ (8 * a) % 256 = 0 := by
  rw [← shM_bv v h]
  unfold bytM
  generalize shM v a = w
  have e : (Int64.toInt32 (w &&& 255)).toBitVec = (w.toBitVec &&& 255#64).setWidth 32 := by
    show (w.toBitVec &&& 255#64).signExtend 32 = _
    rw [BitVec.signExtend_eq_setWidth_of_le _ (by decide)]
  have e2 : (Int64.toInt32 (w &&& 255)).toBitVec.toNat = w.toBitVec.toNat % 256 := by
    rw [e, BitVec.toNat_setWidth, BitVec.toNat_and]
    rw [show (255#64).toNat = 2 ^ 8 - 1 from rfl, Nat.and_two_pow_sub_one_eq_mod]
    omega
  rw [← e2, ← Int32.toBitVec_inj]
  constructor
  · intro h; rw [h]; rfl
  · intro h
    apply BitVec.eq_of_toNat_eq
    rw [h]; rfl
theorem nmM_iff (v : Int64) : ∀ k i, nmM v k i = true ↔ ∀ j, i ≤ j → j < i + k → isL (bytM v j) = true
  | 0, i => by simp [nmM]; omega
  | k + 1, i => by
    unfold nmM
    by_cases h : isL (bytM v i) = true
    · rw [if_pos h, nmM_iff v k (i + 1)]
      constructor
      · intro q j h1 h2
        rcases Nat.lt_or_ge i j with h3 | h3
        · exact q j (by omega) (by omega)
        · rw [show j = i by omega]; exact h
      · intro q j h1 h2; exact q j (by omega) (by omega)
    · rw [if_neg h]
      constructor
      · intro q; exact absurd q (by decide)
      · intro q; exact absurd (q i (Nat.le_refl _) (by omega)) h
theorem lto_n (v : Int64) : ∀ k n, 1 ≤ n → n + k ≤ 8 → lto v k (nI n) = if nmM v k 0 = true then nI (n + k) else 0
  | 0, n, _, _ => by simp [lto, nmM]
  | k + 1, n, h1, h2 => by
    unfold lto
    rw [byt_eq]
    have hn0 : ¬ nI n = 0 := nI_ne0 (by omega) (by omega)
    rw [if_neg (fun z => hn0 z.2)]
    by_cases h : isL (bytM v k) = true
    · rw [if_pos h, nI_1, lto_n v k (n + 1) (by omega) (by omega)]
      have : nmM v (k + 1) 0 = true ↔ nmM v k 0 = true := by
        rw [nmM_iff, nmM_iff]
        constructor
        · intro q j a b; exact q j a (by omega)
        · intro q j a b
          rcases Nat.lt_or_ge j k with h3 | h3
          · exact q j a (by omega)
          · rw [show j = k by omega]; exact h
      by_cases q : nmM v k 0 = true
      · rw [if_pos q, if_pos (this.mpr q)]; congr 1; omega
      · rw [if_neg q, if_neg (fun z => q (this.mp z))]
    · rw [if_neg h, if_neg]
      intro q
      exact h ((nmM_iff v (k + 1) 0).mp q k (Nat.zero_le _) (by omega))
theorem lfM_of (v : Int64) {m : Nat} : ∀ k n, n ≤ m → m ≤ n + k → (∀ j, n ≤ j → j < m → ¬ shM v j = 0) → (m < n + k → shM v m = 0) → lfM v k n = m
  | 0, n, h1, h2, _, _ => by unfold lfM; omega
  | k + 1, n, h1, h2, h3, h4 => by
    unfold lfM
    rcases Nat.lt_or_ge n m with h | h
    · rw [if_neg (h3 n (Nat.le_refl _) h)]
      exact lfM_of v k (n + 1) (by omega) (by omega) (fun j a b => h3 j (by omega) b) (fun z => h4 (by omega))
    · have : n = m := by omega
      subst this
      rw [if_pos (h4 (by omega))]
theorem lto_0 (v : Int64) : ∀ k, k ≤ 8 → v.toBitVec.toNat / 2 ^ (8 * k) = 0 → (v = 0 ∧ lto v k 0 = 0) ∨ (¬ v = 0 ∧ 0 < lfM v 8 0 ∧ lfM v 8 0 ≤ 8 ∧ lto v k 0 = if nmM v (lfM v 8 0) 0 = true then nI (lfM v 8 0) else 0)
  | 0, _, h => by
    left
    have : v = 0 := by
      rw [← Int64.toBitVec_inj]
      apply BitVec.eq_of_toNat_eq
      rw [show v.toBitVec.toNat = 0 from by simpa using h]; rfl
    exact ⟨this, rfl⟩
  | k + 1, hk, h => by
    have hb := bytM_0 v (a := k) (by omega)
    have hlt : v.toBitVec.toNat / 2 ^ (8 * k) < 256 := by
      rw [show 8 * (k + 1) = 8 * k + 8 from by omega, Nat.pow_add, ← Nat.div_div_eq_div_mul] at h
      have := (Nat.div_eq_zero_iff).mp h
      rcases this with z | z
      · exact absurd z (by decide)
      · exact z
    by_cases q : bytM v k = 0
    · have h0 : v.toBitVec.toNat / 2 ^ (8 * k) = 0 := by
        have := hb.mp q
        rwa [Nat.mod_eq_of_lt hlt] at this
      have ih := lto_0 v k (by omega) h0
      unfold lto
      rw [byt_eq, if_pos ⟨q, rfl⟩]
      exact ih
    · right
      have hne : ¬ v.toBitVec.toNat / 2 ^ (8 * k) = 0 := fun z => q (hb.mpr (by rw [z]))
      have hv : ¬ v = 0 := by
        intro z
        rw [z] at hne
        exact hne (by simp)
      have hlf : lfM v 8 0 = k + 1 := by
        refine lfM_of v 8 0 (Nat.zero_le _) (by omega) (fun j _ hj => ?_) (fun hz => ?_)
        · rw [shM_0 v (by omega)]
          intro z
          apply hne
          rw [Nat.div_eq_zero_iff] at z ⊢
          rcases z with z | z
          · exact absurd z (by simp)
          · exact Or.inr (Nat.lt_of_lt_of_le z (Nat.pow_le_pow_right (by decide) (by omega)))
        · rw [shM_0 v (by omega)]; exact h
      refine ⟨hv, by omega, by omega, ?_⟩
      rw [hlf]
      unfold lto
      rw [byt_eq, if_neg (fun z => q z.1)]
      have : nmM v (k + 1) 0 = true ↔ isL (bytM v k) = true ∧ nmM v k 0 = true := by
        rw [nmM_iff, nmM_iff]
        constructor
        · intro q; exact ⟨q k (Nat.zero_le _) (by omega), fun j a b => q j a (by omega)⟩
        · rintro ⟨h, q⟩ j a b
          rcases Nat.lt_or_ge j k with h3 | h3
          · exact q j a (by omega)
          · rw [show j = k by omega]; exact h
      by_cases hl : isL (bytM v k) = true
      · rw [if_pos hl, show (0 : Int32) + 1 = nI 1 from rfl, lto_n v k 1 (Nat.le_refl _) (by omega)]
        by_cases q2 : nmM v k 0 = true
        · rw [if_pos q2, if_pos (this.mpr ⟨hl, q2⟩)]; congr 1; omega
        · rw [if_neg q2, if_neg (fun z => q2 (this.mp z).2)]
      · rw [if_neg hl, if_neg (fun z => hl (this.mp z).1)]
theorem lto_8 (v : Int64) : (v = 0 ∧ lto v 8 0 = 0) ∨ (¬ v = 0 ∧ 0 < lfM v 8 0 ∧ lfM v 8 0 ≤ 8 ∧ lto v 8 0 = if nmM v (lfM v 8 0) 0 = true then nI (lfM v 8 0) else 0) :=
  lto_0 v 8 (Nat.le_refl _) (Nat.div_eq_zero_iff.mpr (Or.inr v.toBitVec.isLt))
theorem nm_iff (v : Int64) : (0 < lto v 8 0 ∧ freC v = true) ↔ isNm v = true := by
  have hk := kep_fre v
  unfold isNm
  rw [decide_eq_true_iff]
  rcases lto_8 v with ⟨h1, h2⟩ | ⟨h1, h2, h3, h4⟩
  · rw [h2]
    constructor
    · rintro ⟨h, -⟩; exact absurd h (by decide)
    · rintro ⟨-, h, -⟩; exact absurd h1 h
  · rw [h4]
    by_cases q : nmM v (lfM v 8 0) 0 = true
    · rw [if_pos q]
      constructor
      · rintro ⟨-, h⟩; exact ⟨q, h1, fun z => hk.mp z h⟩
      · rintro ⟨-, -, h⟩; exact ⟨nI_lt (a := 0) h2 (by omega), Classical.byContradiction (fun z => h (hk.mpr z))⟩
    · rw [if_neg q]
      constructor
      · rintro ⟨h, -⟩; exact absurd h (by decide)
      · rintro ⟨h, -⟩; exact absurd h q
theorem lto_nm {v : Int64} (h : isNm v = true) : lto v 8 0 = nI (lfM v 8 0) := by
  unfold isNm at h
  have h := of_decide_eq_true h
  rcases lto_8 v with ⟨h1, h2⟩ | ⟨h1, h2, h3, h4⟩
  · exact absurd h1 h.2.1
  · rw [h4, if_pos h.1]
theorem man_eq (nf : Nat → Int64) {n : Nat} (hn : n ≤ 12) (w : Int64) (sd rk : Int32) : manOkC nf n w sd rk = manOkM nf n w sd rk := by
  unfold manOkC manOkM manOk
  have h1 := nm_iff w
  have h2 := fnd_neg (nf := nf) (w := w) hn
  apply decide_eq_decide.mpr
  simp only [decide_eq_true_iff, inB]
  rw [← h1]
  have hs : ¬ (2 : Int32) ≤ sd ↔ ¬ 1 < sd := by
    apply not_congr
    rw [Int32.le_iff_toInt_le, Int32.lt_iff_toInt_lt]
    show (2 : Int) ≤ _ ↔ (1 : Int) < _
    omega
  constructor
  · rintro ⟨⟨a, b⟩, ⟨c, d⟩, e, f, g, k⟩
    exact ⟨⟨e, f⟩, a, hs.mp b, c, d, fun z => absurd (h2.mpr k) (Int32.not_lt.mpr z), by omega⟩
  · rintro ⟨⟨e, f⟩, a, b, c, d, g, k⟩
    exact ⟨⟨a, hs.mpr b⟩, ⟨c, d⟩, e, f, by omega, h2.mp (Int32.not_le.mp g)⟩
