/-- a sum over the places that p picks -/
def bsm (v : Nat → Int32) (p : Nat → Bool) : Nat → Int32
  | 0 => 0
  | m + 1 => bsm v p m + (if p m = true then v m else 0)
theorem bsm_cg {v w : Nat → Int32} {p q : Nat → Bool} : ∀ m, (∀ i, i < m → p i = q i ∧ v i = w i) → bsm v p m = bsm w q m
  | 0, _ => rfl
  | m + 1, h => by
    unfold bsm
    rw [bsm_cg m (fun i hi => h i (by omega)), (h m (by omega)).1, (h m (by omega)).2]
def lsum (v : Nat → Int32) (c : Nat → Nat) (m : Nat) : Nat → Int32
  | 0 => 0
  | k + 1 => lsum v c m k + bsm v (fun x => decide (c x = k + 1)) m
theorem lsum_0 {v : Nat → Int32} {c : Nat → Nat} : ∀ k, lsum v c 0 k = 0
  | 0 => rfl
  | k + 1 => by unfold lsum; rw [lsum_0 k]; rfl
theorem i32_4 (a b c d : Int32) : a + b + (c + d) = a + c + (b + d) := by rw [Int32.add_assoc, i32_lc b c d, ← Int32.add_assoc]
theorem lsum_s {v : Nat → Int32} {c : Nat → Nat} {m : Nat} : ∀ k, lsum v c (m + 1) k = lsum v c m k + (if 1 ≤ c m ∧ c m ≤ k then v m else 0)
  | 0 => by
    unfold lsum
    rw [if_neg (by omega)]; rfl
  | k + 1 => by
    unfold lsum
    rw [lsum_s k, show bsm v (fun x => decide (c x = k + 1)) (m + 1) = bsm v (fun x => decide (c x = k + 1)) m + (if decide (c m = k + 1) = true then v m else 0) from rfl]
    rw [i32_4]
    congr 1
    by_cases h : c m = k + 1
    · rw [if_neg (show ¬ (1 ≤ c m ∧ c m ≤ k) by omega), if_pos (show 1 ≤ c m ∧ c m ≤ k + 1 by omega), if_pos (decide_eq_true h), Int32.zero_add]
    · have e : (1 ≤ c m ∧ c m ≤ k + 1) ↔ (1 ≤ c m ∧ c m ≤ k) := by omega
      simp [h, e]
theorem part {v : Nat → Int32} {p : Nat → Bool} {c : Nat → Nat} {k : Nat} : ∀ m, (∀ x, x < m → c x ≤ k ∧ (¬ c x = 0 → p x = true)) → bsm v p m = bsm v (fun x => p x && decide (c x = 0)) m + lsum v c m k
  | 0, _ => by rw [lsum_0]; rfl
  | m + 1, h => by
    unfold bsm
    rw [lsum_s, part m (fun x hx => h x (by omega)), i32_4]
    congr 1
    obtain ⟨h1, h2⟩ := h m (by omega)
    by_cases q : c m = 0
    · rw [if_neg (show ¬ (1 ≤ c m ∧ c m ≤ k) by omega)]
      simp [q]
    · rw [if_pos (show 1 ≤ c m ∧ c m ≤ k by omega)]
      simp [q, h2 q]
theorem lsum_z {v : Nat → Int32} {c : Nat → Nat} {m : Nat} : ∀ k, (∀ j, 1 ≤ j → j ≤ k → bsm v (fun i => decide (c i = j)) m = 0) → lsum v c m k = 0
  | 0, _ => rfl
  | k + 1, h => by
    unfold lsum
    rw [lsum_z k (fun j a b => h j a (by omega)), h (k + 1) (by omega) (Nat.le_refl _)]
    rfl
/-- k sets of sum 0 within s, as colours -/
def Col (v : Nat → Int32) (m s k : Nat) (c : Nat → Nat) : Prop := (∀ x, x < m → c x ≤ k ∧ (¬ c x = 0 → s.testBit x = true)) ∧ ∀ j, 1 ≤ j → j ≤ k → (∃ i, i < m ∧ c i = j) ∧ bsm v (fun i => decide (c i = j)) m = 0
def zS (v : Nat → Int32) (m s : Nat) : Nat := if bsm v (fun i => s.testBit i) m = 0 then 1 else 0
def isG (v : Nat → Int32) (m : Nat) (F : Nat → Nat) : Prop := F 0 = 0 ∧ ∀ s, s < 2 ^ m → ¬ s = 0 → ∃ i, i < m ∧ s.testBit i = true ∧ F s = F (s ^^^ 2 ^ i) + zS v m s ∧ ∀ j, j < m → s.testBit j = true → F (s ^^^ 2 ^ j) ≤ F (s ^^^ 2 ^ i)
theorem xb (s i x : Nat) : (s ^^^ 2 ^ i).testBit x = (if x = i then !(s.testBit x) else s.testBit x) := by
  rw [Nat.testBit_xor, Nat.testBit_two_pow]
  by_cases h : x = i
  · subst h; simp
  · have : ¬ i = x := fun z => h z.symm
    simp [h, this]
theorem x_lt {s i : Nat} (h : s.testBit i = true) : s ^^^ 2 ^ i < s := by
  have h1 : (s ^^^ 2 ^ i) &&& s = s ^^^ 2 ^ i := by
    apply Nat.eq_of_testBit_eq
    intro x
    rw [Nat.testBit_and, xb]
    by_cases q : x = i
    · subst q; simp [h]
    · rw [if_neg q]; simp
  have h2 : s ^^^ 2 ^ i ≤ s := by
    rw [← h1]; exact Nat.and_le_right
  have h3 : ¬ s ^^^ 2 ^ i = s := by
    intro z
    have : (s ^^^ 2 ^ i).testBit i = s.testBit i := congrArg (fun y => Nat.testBit y i) z
    rw [xb, if_pos rfl, h] at this
    exact absurd this (by decide)
  omega
theorem col_le {v : Nat → Int32} {m : Nat} {F : Nat → Nat} (hF : isG v m F) : ∀ s, s < 2 ^ m → ∀ k c, Col v m s k c → k ≤ F s := by
  intro s
  induction s using Nat.strongRecOn with
  | _ s ih =>
    intro hs k c hc
    rcases Nat.eq_zero_or_pos k with hk | hk
    · omega
    obtain ⟨⟨i, hi, hci⟩, -⟩ := hc.2 k hk (Nat.le_refl _)
    have hbi : s.testBit i = true := (hc.1 i hi).2 (by omega)
    have hs0 : ¬ s = 0 := by intro z; rw [z] at hbi; simp at hbi
    obtain ⟨i0, h0, hb0, hF0, hmx⟩ := hF.2 s hs hs0
    by_cases hall : ∃ x, x < m ∧ s.testBit x = true ∧ c x = 0
    · obtain ⟨x, hx, hbx, hcx⟩ := hall
      have := ih (s ^^^ 2 ^ x) (x_lt hbx) (Nat.lt_trans (x_lt hbx) hs) k c ⟨fun y hy => ⟨(hc.1 y hy).1, fun q => by
        rw [xb, if_neg (fun z => q (by rw [z]; exact hcx))]
        exact (hc.1 y hy).2 q⟩, hc.2⟩
      have := hmx x hx hbx
      omega
    · have hp := part (v := v) (p := fun x => s.testBit x) (c := c) (k := k) m hc.1
      rw [lsum_z k (fun j a b => (hc.2 j a b).2)] at hp
      have hz : bsm v (fun x => s.testBit x && decide (c x = 0)) m = 0 := by
        have : bsm v (fun x => s.testBit x && decide (c x = 0)) m = bsm (fun _ => 0) (fun _ => false) m := by
          have hzz : ∀ n, n ≤ m → bsm v (fun x => s.testBit x && decide (c x = 0)) n = bsm (fun _ => 0) (fun _ => false) n := by
            intro n
            induction n with
            | zero => intro _; rfl
            | succ n ihn =>
              intro hn
              unfold bsm
              rw [ihn (by omega)]
              congr 1
              by_cases q : s.testBit n = true
              · have : ¬ c n = 0 := fun z => hall ⟨n, by omega, q, z⟩
                simp [this]
              · simp [q]
          exact hzz m (Nat.le_refl _)
        rw [this]
        have : ∀ n, bsm (fun _ => 0) (fun _ => false) n = 0 := by
          intro n
          induction n with
          | zero => rfl
          | succ n ihn => unfold bsm; rw [ihn]; rfl
        exact this m
      have hsz : zS v m s = 1 := by
        unfold zS
        rw [if_pos]
        rw [hp, hz]; rfl
      have hk1 : Col v m (s ^^^ 2 ^ i) (k - 1) (fun x => if c x = k then 0 else c x) := by
        refine ⟨fun y hy => ⟨?_, fun q => ?_⟩, fun j a b => ?_⟩
        · have := (hc.1 y hy).1
          simp only
          split <;> omega
        · simp only at q
          have hyk : ¬ c y = k := fun z => by rw [if_pos z] at q; exact q rfl
          rw [if_neg hyk] at q
          rw [xb, if_neg (fun z => hyk (by rw [z]; exact hci))]
          exact (hc.1 y hy).2 q
        · obtain ⟨⟨x, hx, hcx⟩, hsum⟩ := hc.2 j a (by omega)
          refine ⟨⟨x, hx, ?_⟩, ?_⟩
          · simp only
            rw [if_neg (by omega)]; exact hcx
          · rw [← hsum]
            apply bsm_cg
            intro x hx
            refine ⟨?_, rfl⟩
            by_cases q : c x = k
            · have h1 : ¬ (0 : Nat) = j := by omega
              have h2 : ¬ k = j := by omega
              simp [q, h1, h2]
            · simp [q]
      have := ih (s ^^^ 2 ^ i) (x_lt hbi) (Nat.lt_trans (x_lt hbi) hs) (k - 1) _ hk1
      have := hmx i hi hbi
      omega
theorem ex_col {v : Nat → Int32} {m : Nat} {F : Nat → Nat} (hF : isG v m F) : ∀ s, s < 2 ^ m → ∃ c, Col v m s (F s) c := by
  intro s
  induction s using Nat.strongRecOn with
  | _ s ih =>
    intro hs
    by_cases hs0 : s = 0
    · refine ⟨fun _ => 0, fun x _ => ⟨Nat.zero_le _, fun q => absurd rfl q⟩, fun j a b => ?_⟩
      rw [hs0, hF.1] at b
      omega
    obtain ⟨i, hi, hb, hFs, -⟩ := hF.2 s hs hs0
    obtain ⟨c, hc⟩ := ih (s ^^^ 2 ^ i) (x_lt hb) (Nat.lt_trans (x_lt hb) hs)
    have hci : c i = 0 := by
      refine Classical.byContradiction (fun q => ?_)
      have := (hc.1 i hi).2 q
      rw [xb, if_pos rfl, hb] at this
      exact absurd this (by decide)
    have hsub : ∀ x, x < m → ¬ c x = 0 → s.testBit x = true := fun x hx q => by
      have := (hc.1 x hx).2 q
      rw [xb] at this
      by_cases e : x = i
      · exact absurd (by rw [e]; exact hci) q
      · rwa [if_neg e] at this
    by_cases hz : bsm v (fun i => s.testBit i) m = 0
    · have hzS : zS v m s = 1 := if_pos hz
      rw [hFs, hzS]
      generalize F (s ^^^ 2 ^ i) = k at hc
      refine ⟨fun x => if s.testBit x = true ∧ c x = 0 then k + 1 else c x, fun x hx => ⟨?_, fun q => ?_⟩, fun j a b => ?_⟩
      · have := (hc.1 x hx).1
        simp only
        split <;> omega
      · simp only at q
        by_cases e : s.testBit x = true ∧ c x = 0
        · exact e.1
        · rw [if_neg e] at q; exact hsub x hx q
      · have hp := part (v := v) (p := fun x => s.testBit x) (c := c) (k := k) m (fun x hx => ⟨(hc.1 x hx).1, hsub x hx⟩)
        rw [hz, lsum_z k (fun j a b => (hc.2 j a b).2), Int32.add_zero] at hp
        rcases Nat.lt_or_ge k j with hj | hj
        · have : j = k + 1 := by omega
          subst this
          refine ⟨⟨i, hi, by simp only; rw [if_pos ⟨hb, hci⟩]⟩, ?_⟩
          rw [hp]
          apply bsm_cg
          intro x hx
          refine ⟨?_, rfl⟩
          have hle := (hc.1 x hx).1
          by_cases e : s.testBit x = true ∧ c x = 0
          · simp [e.1, e.2]
          · have h1 : ¬ c x = k + 1 := by omega
            have h2 : (s.testBit x && decide (c x = 0)) = false := by
              cases hq : s.testBit x with
              | false => rfl
              | true => simp; exact fun z => e ⟨hq, z⟩
            simp only [e, if_false]
            rw [h2]
            simp [h1]
        · obtain ⟨⟨x, hx, hcx⟩, hsum⟩ := hc.2 j a hj
          refine ⟨⟨x, hx, by simp only; rw [if_neg (fun z => by omega)]; exact hcx⟩, ?_⟩
          rw [← hsum]
          apply bsm_cg
          intro x hx
          refine ⟨?_, rfl⟩
          by_cases e : s.testBit x = true ∧ c x = 0
          · have h1 : ¬ k + 1 = j := by omega
            have h2 : ¬ (0 : Nat) = j := by omega
            simp [e.1, e.2, h1, h2]
          · simp only [e, if_false]
    · have hzS : zS v m s = 0 := if_neg hz
      rw [hFs, hzS, Nat.add_zero]
      exact ⟨c, fun x hx => ⟨(hc.1 x hx).1, hsub x hx⟩, hc.2⟩
theorem full_bit {n x : Nat} (h : x < n) : (2 ^ n - 1).testBit x = true := by
  rw [Nat.testBit_two_pow_sub_one]; exact decide_eq_true h
/-- the last man's set is what the others leave -/
theorem exch {v : Nat → Int32} {n k i : Nat} {c : Nat → Nat} (hn : 1 ≤ n) (hi : i < n) (ht : bsm v (fun _ => true) n = 0) (hc : Col v n ((2 ^ n - 1) ^^^ 2 ^ i) k c) : ∃ c2, Col v (n - 1) (2 ^ (n - 1) - 1) k c2 := by
  obtain ⟨L, rfl⟩ : ∃ L, n = L + 1 := ⟨n - 1, by omega⟩
  rw [show L + 1 - 1 = L from rfl]
  have hci : c i = 0 := by
    refine Classical.byContradiction (fun q => ?_)
    have := (hc.1 i hi).2 q
    rw [xb, if_pos rfl, full_bit hi] at this
    exact absurd this (by decide)
  by_cases hL : c L = 0
  · refine ⟨c, fun x hx => ⟨(hc.1 x (by omega)).1, fun _ => full_bit hx⟩, fun j a b => ?_⟩
    obtain ⟨⟨x, hx, hcx⟩, hs⟩ := hc.2 j a b
    have hxL : ¬ x = L := fun z => by rw [z] at hcx; omega
    refine ⟨⟨x, by omega, hcx⟩, ?_⟩
    rw [show bsm v (fun i => decide (c i = j)) (L + 1) = bsm v (fun i => decide (c i = j)) L + (if decide (c L = j) = true then v L else 0) from rfl] at hs
    have : ¬ decide (c L = j) = true := by
      intro z
      have := of_decide_eq_true z
      omega
    rwa [if_neg this, Int32.add_zero] at hs
  · have hj0 := (hc.1 L (by omega)).1
    generalize hj : c L = j0 at hL hj0
    have hiL : ¬ i = L := fun z => by rw [z] at hci; omega
    refine ⟨fun x => if c x = j0 then 0 else if c x = 0 then j0 else c x, fun x hx => ⟨?_, fun _ => full_bit hx⟩, fun j a b => ?_⟩
    · have := (hc.1 x (by omega)).1
      simp only
      split
      · omega
      · split <;> omega
    · by_cases e : j = j0
      · subst e
        refine ⟨⟨i, by omega, by simp only; rw [if_neg (by omega), if_pos hci]⟩, ?_⟩
        have hp := part (v := v) (p := fun _ => true) (c := c) (k := k) (L + 1) (fun x hx => ⟨(hc.1 x hx).1, fun _ => rfl⟩)
        rw [ht, lsum_z k (fun j a b => (hc.2 j a b).2), Int32.add_zero] at hp
        rw [show bsm v (fun x => true && decide (c x = 0)) (L + 1) = bsm v (fun x => true && decide (c x = 0)) L + (if (true && decide (c L = 0)) = true then v L else 0) from rfl] at hp
        have : ¬ (true && decide (c L = 0)) = true := by simp; omega
        rw [if_neg this, Int32.add_zero] at hp
        rw [hp]
        apply bsm_cg
        intro x hx
        refine ⟨?_, rfl⟩
        by_cases q : c x = j
        · have h1 : ¬ (0 : Nat) = j := by omega
          simp [q, h1, hL]
        · by_cases q0 : c x = 0
          · have h1 : ¬ (0 : Nat) = j := by omega
            simp [q0, h1]
          · simp [q, q0]
      · obtain ⟨⟨x, hx, hcx⟩, hs⟩ := hc.2 j a b
        have hxL : ¬ x = L := fun z => by rw [z] at hcx; omega
        refine ⟨⟨x, by omega, by simp only; rw [if_neg (by omega), if_neg (by omega)]; exact hcx⟩, ?_⟩
        rw [show bsm v (fun i => decide (c i = j)) (L + 1) = bsm v (fun i => decide (c i = j)) L + (if decide (c L = j) = true then v L else 0) from rfl] at hs
        have : ¬ decide (c L = j) = true := by
          intro z
          have := of_decide_eq_true z
          omega
        rw [if_neg this, Int32.add_zero] at hs
        rw [← hs]
        apply bsm_cg
        intro x hx
        refine ⟨?_, rfl⟩
        by_cases q : c x = j0
        · have h1 : ¬ (0 : Nat) = j := by omega
          have h2 : ¬ j0 = j := fun z => e z.symm
          simp [q, h1, h2]
        · by_cases q0 : c x = 0
          · have h1 : ¬ (0 : Nat) = j := by omega
            have h2 : ¬ j0 = j := fun z => e z.symm
            have h3 : ¬ (0 : Nat) = j0 := by omega
            simp [q0, h1, h2, h3]
          · simp [q, q0]
theorem full_xor {n : Nat} (hn : 1 ≤ n) : (2 ^ n - 1) ^^^ 2 ^ (n - 1) = 2 ^ (n - 1) - 1 := by
  apply Nat.eq_of_testBit_eq
  intro x
  rw [xb, Nat.testBit_two_pow_sub_one, Nat.testBit_two_pow_sub_one]
  by_cases q : x = n - 1
  · subst q
    have h1 : n - 1 < n := by omega
    simp [h1]
  · rw [if_neg q]
    have : x < n ↔ x < n - 1 := by omega
    simp [this]
theorem few {v : Nat → Int32} {n : Nat} {Gn Fm : Nat → Nat} (hn : 1 ≤ n) (hG : isG v n Gn) (hF : isG v (n - 1) Fm) (ht : bsm v (fun _ => true) n = 0) : Gn (2 ^ n - 1) = Fm (2 ^ (n - 1) - 1) + 1 := by
  have h2n : 2 ≤ 2 ^ n := by
    have : 2 ^ 1 ≤ 2 ^ n := Nat.pow_le_pow_right (by decide) hn
    omega
  have h1m : 1 ≤ 2 ^ (n - 1) := Nat.one_le_two_pow
  obtain ⟨i, hi, hb, hFs, hmx⟩ := hG.2 (2 ^ n - 1) (by omega) (by omega)
  have hz : zS v n (2 ^ n - 1) = 1 := by
    unfold zS
    rw [if_pos]
    rw [← ht]
    apply bsm_cg
    intro x hx
    exact ⟨full_bit hx, rfl⟩
  have hlt : (2 ^ n - 1) ^^^ 2 ^ i < 2 ^ n := Nat.lt_of_lt_of_le (x_lt hb) (by omega)
  obtain ⟨c, hc⟩ := ex_col hG _ hlt
  obtain ⟨c2, hc2⟩ := exch hn hi ht hc
  have h1 := col_le hF _ (by omega) _ _ hc2
  obtain ⟨d, hd⟩ := ex_col hF (2 ^ (n - 1) - 1) (by omega)
  have hbL : (2 ^ n - 1).testBit (n - 1) = true := full_bit (by omega)
  have h3 := hmx (n - 1) (by omega) hbL
  rw [full_xor hn] at h3
  have hpow : 2 ^ (n - 1) ≤ 2 ^ n := Nat.pow_le_pow_right (by decide) (by omega)
  have h4 : Fm (2 ^ (n - 1) - 1) ≤ Gn (2 ^ (n - 1) - 1) := by
    refine col_le hG _ (by omega) _ (fun x => if x < n - 1 then d x else 0) ⟨fun x hx => ⟨?_, fun q => ?_⟩, fun j a b => ?_⟩
    · simp only
      split
      · exact (hd.1 x (by assumption)).1
      · exact Nat.zero_le _
    · simp only at q
      by_cases e : x < n - 1
      · rw [if_pos e] at q; exact (hd.1 x e).2 q
      · rw [if_neg e] at q; exact absurd rfl q
    · obtain ⟨⟨x, hx, hcx⟩, hs⟩ := hd.2 j a b
      refine ⟨⟨x, by omega, by simp only; rw [if_pos hx]; exact hcx⟩, ?_⟩
      obtain ⟨L, rfl⟩ : ∃ L, n = L + 1 := ⟨n - 1, by omega⟩
      rw [show bsm v (fun x => decide ((if x < L + 1 - 1 then d x else 0) = j)) (L + 1) = bsm v (fun x => decide ((if x < L + 1 - 1 then d x else 0) = j)) L + (if decide ((if L < L + 1 - 1 then d L else 0) = j) = true then v L else 0) from rfl]
      have h0 : ¬ decide ((if L < L + 1 - 1 then d L else 0) = j) = true := by
        intro z
        have z := of_decide_eq_true z
        rw [if_neg (by omega)] at z
        omega
      rw [if_neg h0, Int32.add_zero, ← hs]
      apply bsm_cg
      intro x hx
      refine ⟨?_, rfl⟩
      simp [hx]
  omega
