def mxN (F : Nat → Nat) (s : Nat) : Nat → Nat → Nat → Nat
  | 0, _, b => b
  | k + 1, i, b => mxN F s k (i + 1) (if s.testBit i = true ∧ b < F (s ^^^ 2 ^ i) then F (s ^^^ 2 ^ i) else b)
theorem mxN_ge (F : Nat → Nat) (s : Nat) : ∀ k i b, b ≤ mxN F s k i b
  | 0, _, b => Nat.le_refl b
  | k + 1, i, b => by
    unfold mxN
    refine Nat.le_trans ?_ (mxN_ge F s k (i + 1) _)
    split
    · omega
    · exact Nat.le_refl _
theorem mxN_all (F : Nat → Nat) (s : Nat) : ∀ k i b j, i ≤ j → j < i + k → s.testBit j = true → F (s ^^^ 2 ^ j) ≤ mxN F s k i b
  | 0, i, b, j, h1, h2, _ => by omega
  | k + 1, i, b, j, h1, h2, h3 => by
    unfold mxN
    rcases Nat.lt_or_ge i j with h | h
    · exact mxN_all F s k (i + 1) _ j (by omega) (by omega) h3
    · have : j = i := by omega
      subst this
      refine Nat.le_trans ?_ (mxN_ge F s k (j + 1) _)
      split
      · exact Nat.le_refl _
      · rename_i q
        exact Nat.not_lt.mp (fun z => q ⟨h3, z⟩)
theorem mxN_at (F : Nat → Nat) (s : Nat) : ∀ k i b, mxN F s k i b = b ∨ ∃ j, i ≤ j ∧ j < i + k ∧ s.testBit j = true ∧ mxN F s k i b = F (s ^^^ 2 ^ j)
  | 0, _, b => Or.inl rfl
  | k + 1, i, b => by
    unfold mxN
    rcases mxN_at F s k (i + 1) (if s.testBit i = true ∧ b < F (s ^^^ 2 ^ i) then F (s ^^^ 2 ^ i) else b) with h | ⟨j, h1, h2, h3, h4⟩
    · rw [h]
      by_cases q : s.testBit i = true ∧ b < F (s ^^^ 2 ^ i)
      · rw [if_pos q]; exact Or.inr ⟨i, Nat.le_refl _, by omega, q.1, rfl⟩
      · rw [if_neg q]; exact Or.inl rfl
    · exact Or.inr ⟨j, by omega, by omega, h3, h4⟩
theorem mxN_cg {F F2 : Nat → Nat} {s : Nat} (h : ∀ j, s.testBit j = true → F (s ^^^ 2 ^ j) = F2 (s ^^^ 2 ^ j)) : ∀ k i b, mxN F s k i b = mxN F2 s k i b
  | 0, _, _ => rfl
  | k + 1, i, b => by
    unfold mxN
    by_cases q : s.testBit i = true
    · rw [h i q, mxN_cg h k]
    · rw [if_neg (fun z => q z.1), if_neg (fun z => q z.1), mxN_cg h k]
theorem some_bit {s m : Nat} (h : ¬ s = 0) (hs : s < 2 ^ m) : ∃ j, j < m ∧ s.testBit j = true := by
  refine Classical.byContradiction (fun q => h ?_)
  apply Nat.eq_of_testBit_eq
  intro j
  rw [Nat.zero_testBit]
  rcases Nat.lt_or_ge j m with hj | hj
  · cases hq : s.testBit j with
    | false => rfl
    | true => exact absurd ⟨j, hj, hq⟩ q
  · exact Nat.testBit_lt_two_pow (Nat.lt_of_lt_of_le hs (Nat.pow_le_pow_right (by decide) hj))
theorem isG_of {v : Nat → Int32} {m : Nat} {F : Nat → Nat} (h0 : F 0 = 0) (h : ∀ s, s < 2 ^ m → ¬ s = 0 → F s = mxN F s m 0 0 + zS v m s) : isG v m F := by
  refine ⟨h0, fun s hs hs0 => ?_⟩
  have hall := mxN_all F s m 0 0
  rcases mxN_at F s m 0 0 with e | ⟨j, h1, h2, h3, h4⟩
  · obtain ⟨j, hj, hb⟩ := some_bit hs0 hs
    have hj0 := hall j (Nat.zero_le _) (by omega) hb
    refine ⟨j, hj, hb, ?_, fun i hi hbi => ?_⟩
    · rw [h s hs hs0, e]; omega
    · have := hall i (Nat.zero_le _) (by omega) hbi
      omega
  · refine ⟨j, by omega, h3, ?_, fun i hi hbi => ?_⟩
    · rw [h s hs hs0, h4]
    · rw [← h4]; exact hall i (Nat.zero_le _) (by omega) hbi
theorem zS_le (v : Nat → Int32) (m s : Nat) : zS v m s ≤ 1 := by unfold zS; split <;> omega
theorem arr_isG {v fe : Nat → Int32} {m : Nat} (hm : m ≤ 12) (h0 : fe 0 = 0) (h : ∀ s, s < 2 ^ m → ¬ s = 0 → ∀ F : Nat → Nat, (∀ j, j < s → fe j = nI (F j) ∧ F j ≤ j) → fe s = nI (mxN F s m 0 0 + zS v m s)) :
    ∃ F, isG v m F ∧ ∀ s, s < 2 ^ m → fe s = nI (F s) := by
  have hp : 2 ^ m ≤ 4096 := Nat.pow_le_pow_right (n := 2) (by decide) hm
  have key : ∀ s, s < 2 ^ m → (fe s = nI (fe s).toNatClampNeg ∧ (fe s).toNatClampNeg ≤ s) ∧ (¬ s = 0 → (fe s).toNatClampNeg = mxN (fun j => (fe j).toNatClampNeg) s m 0 0 + zS v m s) := by
    intro s
    induction s using Nat.strongRecOn with
    | _ s ih =>
      intro hs
      by_cases hs0 : s = 0
      · subst hs0
        rw [h0]
        exact ⟨⟨by decide, by decide⟩, fun z => absurd rfl z⟩
      · have e := h s hs hs0 (fun j => (fe j).toNatClampNeg) (fun j hj => (ih j hj (by omega)).1)
        have hz := zS_le v m s
        have hmx : mxN (fun j => (fe j).toNatClampNeg) s m 0 0 < s := by
          rcases mxN_at (fun j => (fe j).toNatClampNeg) s m 0 0 with q | ⟨j, h1, h2, h3, h4⟩
          · rw [q]; omega
          · rw [h4]
            have := x_lt h3
            have := (ih _ this (by omega)).1.2
            omega
        have hc : (fe s).toNatClampNeg = mxN (fun j => (fe j).toNatClampNeg) s m 0 0 + zS v m s := by
          rw [e]; exact nI_clamp (by omega)
        refine ⟨⟨?_, by omega⟩, fun _ => hc⟩
        rw [hc]; exact e
  refine ⟨fun s => (fe s).toNatClampNeg, isG_of (by show (fe 0).toNatClampNeg = 0; rw [h0]; decide) (fun s hs hs0 => (key s hs).2 hs0), fun s hs => (key s hs).1.1⟩
theorem clr_b {s i : Nat} (hs : s < 4096) (hi : i < 12) : clr s i = if s.testBit i = true then s ^^^ 2 ^ i else s := by
  apply Nat.eq_of_testBit_eq
  intro x
  unfold clr
  rw [Nat.testBit_and, Nat.testBit_xor, Nat.testBit_two_pow, show (4095 : Nat) = 2 ^ 12 - 1 from rfl, Nat.testBit_two_pow_sub_one]
  have hx : 12 ≤ x → s.testBit x = false := fun h => Nat.testBit_lt_two_pow (Nat.lt_of_lt_of_le hs (show 2 ^ 12 ≤ 2 ^ x from Nat.pow_le_pow_right (by decide) h))
  by_cases q : s.testBit i = true
  · rw [if_pos q, xb]
    by_cases e : x = i
    · subst e; simp [hi, q]
    · have e2 : ¬ i = x := fun z => e z.symm
      rw [if_neg e]
      rcases Nat.lt_or_ge x 12 with h12 | h12
      · simp [h12, e2]
      · simp [hx h12]
  · rw [if_neg q]
    by_cases e : x = i
    · subst e; simp at q; simp [q]
    · have e2 : ¬ i = x := fun z => e z.symm
      rcases Nat.lt_or_ge x 12 with h12 | h12
      · simp [h12, e2]
      · simp [hx h12]
theorem msw_eq {sm f : Nat → Int32} {F : Nat → Nat} {s m : Nat} (hm : m ≤ 12) (hs : s < 4096) (hF : ∀ j, j < s → f j = nI (F j) ∧ F j ≤ j) : ∀ k i b, i + k = m → b ≤ 4096 → msw sm f s k i (bsm sm (fun x => s.testBit x) i) (nI b) = nI (mxN F s k i b + zS sm m s)
  | 0, i, b, h, hb => by
    have : i = m := by omega
    subst this
    unfold msw mxN zS
    by_cases q : bsm sm (fun x => s.testBit x) i = 0
    · rw [if_pos q, if_pos q, nI_1]
    · rw [if_neg q, if_neg q]; rfl
  | k + 1, i, b, h, hb => by
    unfold msw mxN
    rw [clr_b hs (by omega)]
    by_cases q : s.testBit i = true
    · have hlt := x_lt q
      obtain ⟨e, hle⟩ := hF _ hlt
      rw [if_pos q, if_neg (by omega), e]
      have hb2 : bsm sm (fun x => s.testBit x) i + sm i = bsm sm (fun x => s.testBit x) (i + 1) := by
        show _ = bsm sm (fun x => s.testBit x) i + (if s.testBit i = true then sm i else 0)
        rw [if_pos q]
      rw [hb2]
      have hmax : (if nI b < nI (F (s ^^^ 2 ^ i)) then nI (F (s ^^^ 2 ^ i)) else nI b) = nI (if s.testBit i = true ∧ b < F (s ^^^ 2 ^ i) then F (s ^^^ 2 ^ i) else b) := by
        by_cases z : b < F (s ^^^ 2 ^ i)
        · rw [if_pos (nI_lt z (by omega)), if_pos ⟨q, z⟩]
        · rw [if_neg (nI_nlt (by omega) (by omega)), if_neg (fun w => z w.2)]
      rw [hmax]
      exact msw_eq hm hs hF k (i + 1) _ (by omega) (by split <;> omega)
    · rw [if_neg q, if_pos rfl, if_neg (fun z => q z.1)]
      have hb2 : bsm sm (fun x => s.testBit x) i = bsm sm (fun x => s.testBit x) (i + 1) := by
        show _ = bsm sm (fun x => s.testBit x) i + (if s.testBit i = true then sm i else 0)
        rw [if_neg q, Int32.add_zero]
      rw [hb2]
      exact msw_eq hm hs hF k (i + 1) b (by omega) hb
theorem msa_lo {sm : Nat → Int32} {m : Nat} : ∀ k s f j, j < s → msa sm m k s f j = f j
  | 0, _, _, _, _ => rfl
  | k + 1, s, f, j, h => by
    unfold msa
    rw [msa_lo k (s + 1) _ j (by omega)]
    unfold upd
    rw [if_neg (by omega)]
theorem msa_at {sm : Nat → Int32} {m : Nat} : ∀ k s f j, s ≤ j → j < s + k → ∃ f2 : Nat → Int32, (∀ i, i < j → f2 i = msa sm m k s f i) ∧ msa sm m k s f j = msw sm f2 j m 0 0 0
  | 0, s, f, j, h1, h2 => by omega
  | k + 1, s, f, j, h1, h2 => by
    unfold msa
    rcases Nat.lt_or_ge s j with h | h
    · exact msa_at k (s + 1) _ j (by omega) (by omega)
    · have : j = s := by omega
      subst this
      refine ⟨f, fun i hi => ?_, ?_⟩
      · rw [msa_lo k (j + 1) _ i (by omega)]
        unfold upd; rw [if_neg (by omega)]
      · rw [msa_lo k (j + 1) _ j (by omega)]
        unfold upd; rw [if_pos rfl]
theorem msa_isG {sm ms : Nat → Int32} {m : Nat} (hm : m ≤ 12) (h0 : ms 0 = 0) : ∃ F, isG sm m F ∧ msa sm m (2 ^ m - 1) 1 ms (2 ^ m - 1) = nI (F (2 ^ m - 1)) := by
  have hp : 2 ^ m ≤ 4096 := Nat.pow_le_pow_right (n := 2) (by decide) hm
  have h1 : 1 ≤ 2 ^ m := Nat.one_le_two_pow
  obtain ⟨F, hF, hv⟩ := arr_isG (v := sm) (fe := msa sm m (2 ^ m - 1) 1 ms) hm (by rw [msa_lo _ _ _ _ (by omega)]; exact h0) (fun s hs hs0 F hF => by
    obtain ⟨f2, e1, e2⟩ := msa_at (sm := sm) (m := m) (2 ^ m - 1) 1 ms s (by omega) (by omega)
    rw [e2]
    exact msw_eq (f := f2) (F := F) hm (by omega) (fun j hj => by rw [e1 j hj]; exact hF j hj) m 0 0 (by omega) (by omega))
  exact ⟨F, hF, hv _ (by omega)⟩
theorem gbL_eq {f : Nat → Int32} {F : Nat → Nat} {s : Nat} (hs : s < 4096) (hF : ∀ j, j < s → f j = nI (F j) ∧ F j ≤ j) : ∀ k i b, b ≤ 4096 → gbL f s k i (nI b) = nI (mxN F s k i b)
  | 0, _, _, _ => rfl
  | k + 1, i, b, hb => by
    unfold gbL mxN
    have hbit : s / 2 ^ i % 2 = 1 ↔ s.testBit i = true := by
      rw [Nat.testBit_eq_decide_div_mod_eq, decide_eq_true_iff]
    by_cases q : s.testBit i = true
    · have hlt := x_lt q
      obtain ⟨e, hle⟩ := hF _ hlt
      rw [e]
      have hmax : (if s / 2 ^ i % 2 = 1 ∧ nI b < nI (F (s ^^^ 2 ^ i)) then nI (F (s ^^^ 2 ^ i)) else nI b) = nI (if s.testBit i = true ∧ b < F (s ^^^ 2 ^ i) then F (s ^^^ 2 ^ i) else b) := by
        by_cases z : b < F (s ^^^ 2 ^ i)
        · rw [if_pos ⟨hbit.mpr q, nI_lt z (by omega)⟩, if_pos ⟨q, z⟩]
        · rw [if_neg (fun w => nI_nlt (Nat.not_lt.mp z) (by omega) w.2), if_neg (fun w => z w.2)]
      rw [hmax]
      exact gbL_eq hs hF k (i + 1) _ (by split <;> omega)
    · rw [if_neg (fun z => q (hbit.mp z.1)), if_neg (fun z => q z.1)]
      exact gbL_eq hs hF k (i + 1) b hb
theorem grL_lo {sm : Nat → Int32} {m : Nat} : ∀ k s f j, j < s → grL sm m k s f j = f j
  | 0, _, _, _, _ => rfl
  | k + 1, s, f, j, h => by
    unfold grL
    rw [grL_lo k (s + 1) _ j (by omega)]
    unfold upd
    rw [if_neg (by omega)]
theorem grL_at {sm : Nat → Int32} {m : Nat} : ∀ k s f j, s ≤ j → j < s + k → ∃ f2 : Nat → Int32, (∀ i, i < j → f2 i = grL sm m k s f i) ∧ grL sm m k s f j = gbL f2 j m 0 0 + (if sm j = 0 then 1 else 0)
  | 0, s, f, j, h1, h2 => by omega
  | k + 1, s, f, j, h1, h2 => by
    unfold grL
    rcases Nat.lt_or_ge s j with h | h
    · exact grL_at k (s + 1) _ j (by omega) (by omega)
    · have : j = s := by omega
      subst this
      refine ⟨f, fun i hi => ?_, ?_⟩
      · rw [grL_lo k (j + 1) _ i (by omega)]
        unfold upd; rw [if_neg (by omega)]
      · rw [grL_lo k (j + 1) _ j (by omega)]
        unfold upd; rw [if_pos rfl]
theorem grL_isG {v sm gr : Nat → Int32} {m : Nat} (hm : m ≤ 12) (hsm : ∀ s, 1 ≤ s → s < 2 ^ m → sm s = bsm v (fun x => s.testBit x) m) : ∃ F, isG v m F ∧ grL sm m (2 ^ m - 1) 1 (upd gr 0 0) (2 ^ m - 1) = nI (F (2 ^ m - 1)) := by
  have hp : 2 ^ m ≤ 4096 := Nat.pow_le_pow_right (n := 2) (by decide) hm
  have h1 : 1 ≤ 2 ^ m := Nat.one_le_two_pow
  obtain ⟨F, hF, hv⟩ := arr_isG (v := v) (fe := grL sm m (2 ^ m - 1) 1 (upd gr 0 0)) hm (by rw [grL_lo _ _ _ _ (by omega)]; simp [upd]) (fun s hs hs0 F hF => by
    obtain ⟨f2, e1, e2⟩ := grL_at (sm := sm) (m := m) (2 ^ m - 1) 1 (upd gr 0 0) s (by omega) (by omega)
    have e3 : gbL f2 s m 0 0 = nI (mxN F s m 0 0) := gbL_eq (F := F) (by omega) (fun j hj => by rw [e1 j hj]; exact hF j hj) m 0 0 (by omega)
    rw [e2, e3, hsm s (by omega) hs]
    unfold zS
    by_cases q : bsm v (fun x => s.testBit x) m = 0
    · rw [if_pos q, if_pos q, nI_1]
    · rw [if_neg q, if_neg q, Int32.add_zero]; rfl)
  exact ⟨F, hF, hv _ (by omega)⟩
