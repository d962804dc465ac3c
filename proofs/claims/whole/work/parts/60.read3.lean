/-- the reader: what comes, the line's day, the man named, the lines closed, the line that is open -/
abbrev CS : Type := Int32 × Int32 × Int32 × List LN × LN
def ftS (nf : Nat → Int64) (sf : Nat → Int32) (n : Nat) (kd : Int32) (va : Int64) (s : CS) : Int32 × Int32 × Int32 × (Nat → Int32) × Int32 × Int32 := ftL nf sf n kd va s.2.2.2.2.2.1 s.2.2.2.2.2.2.1 s.1 s.2.2.1 s.2.2.2.2.2.2.2.1 s.2.2.2.2.2.2.2.2
def cuS (s : CS) (t : Int32 × Int32 × Int32 × (Nat → Int32) × Int32 × Int32) : LN := (s.2.2.2.2.1, s.2.2.2.2.2.1, t.2.2.2.1, t.2.2.2.2.1, t.2.2.2.2.2)
def stC (nf : Nat → Int64) (sf : Nat → Int32) (n : Nat) (kd : Int32) (va : Int64) (s : CS) : Int32 × CS :=
  if s.1 = 4 ∨ s.1 = 5 ∨ s.1 = 6 then
    ((ftS nf sf n kd va s).1, (ftS nf sf n kd va s).2.1, s.2.1, (ftS nf sf n kd va s).2.2.1, (if (ftS nf sf n kd va s).1 = 0 ∧ (ftS nf sf n kd va s).2.1 = 0 then s.2.2.2.1 ++ [cuS s (ftS nf sf n kd va s)] else s.2.2.2.1), cuS s (ftS nf sf n kd va s))
  else if s.1 = 2 ∧ kd = 2 ∧ ¬ sidC va = (-1) then (0, 3, s.2.1, s.2.2.1, s.2.2.2.1, (s.2.1, sidC va, (fun _ => 0), 0, (-1)))
  else ((ftA kd va s.2.2.2.1.length s.1 s.2.1).1, (ftA kd va s.2.2.2.1.length s.1 s.2.1).2.1, (ftA kd va s.2.2.2.1.length s.1 s.2.1).2.2, s.2.2.1, (if (ftA kd va s.2.2.2.1.length s.1 s.2.1).1 = 0 ∧ (ftA kd va s.2.2.2.1.length s.1 s.2.1).2.1 = 0 then s.2.2.2.1 ++ [s.2.2.2.2] else s.2.2.2.1), s.2.2.2.2)
def rdC (nf : Nat → Int64) (sf : Nat → Int32) (n : Nat) (bf : Nat → Int32) (t : Nat) : Nat → Nat → CS → Int32 × Int32 × Int32 × List LN
  | 0, _, s => (0, 0, (-1), s.2.2.2.1)
  | k + 1, j, s => if (adv bf t j).2.1 = 0 ∧ s.1 = 0 then (1, 0, (-1), s.2.2.2.1)
    else if (stC nf sf n (adv bf t j).2.1 (adv bf t j).2.2.2 s).1 = 0 then rdC nf sf n bf t k (adv bf t j).1 (stC nf sf n (adv bf t j).2.1 (adv bf t j).2.2.2 s).2
    else (0, (stC nf sf n (adv bf t j).2.1 (adv bf t j).2.2.2 s).1, nI (adv bf t j).2.2.1, s.2.2.2.1)
theorem rdC_end {nf : Nat → Int64} {sf : Nat → Int32} {n : Nat} {bf : Nat → Int32} {t k j : Nat} {s : CS} (h : (adv bf t j).2.1 = 0 ∧ s.1 = 0) : rdC nf sf n bf t (k + 1) j s = (1, 0, (-1), s.2.2.2.1) := if_pos h
theorem rdC_bad {nf : Nat → Int64} {sf : Nat → Int32} {n : Nat} {bf : Nat → Int32} {t k j : Nat} {s : CS} (h : ¬ ((adv bf t j).2.1 = 0 ∧ s.1 = 0)) (h2 : ¬ (stC nf sf n (adv bf t j).2.1 (adv bf t j).2.2.2 s).1 = 0) : rdC nf sf n bf t (k + 1) j s = (0, (stC nf sf n (adv bf t j).2.1 (adv bf t j).2.2.2 s).1, nI (adv bf t j).2.2.1, s.2.2.2.1) := (if_neg h).trans (if_neg h2)
theorem rdC_go {nf : Nat → Int64} {sf : Nat → Int32} {n : Nat} {bf : Nat → Int32} {t k j : Nat} {s : CS} (h : ¬ ((adv bf t j).2.1 = 0 ∧ s.1 = 0)) (h2 : (stC nf sf n (adv bf t j).2.1 (adv bf t j).2.2.2 s).1 = 0) : rdC nf sf n bf t (k + 1) j s = rdC nf sf n bf t k (adv bf t j).1 (stC nf sf n (adv bf t j).2.1 (adv bf t j).2.2.2 s).2 := (if_neg h).trans (if_pos h2)
def lnp (ls : List LR) : List LN := ls.map (fun r => r.2.2)
def rel (s : CS) (F : List LR) (e3 : Nat) : Prop := ((s.1 = 0 ∨ s.1 = 1 ∨ s.1 = 2) ∧ lnp F = s.2.2.2.1) ∨ ((s.1 = 3 ∨ s.1 = 4 ∨ s.1 = 5 ∨ s.1 = 6 ∨ s.1 = 7) ∧ ∃ A r, F = A ++ [r] ∧ lnp A = s.2.2.2.1 ∧ r.2.2 = s.2.2.2.2 ∧ r.1 = e3)
def rinv (s : CS) (F : List LR) (e3 : Nat) : Prop := rel s F e3 ∧ (s.1 = 5 → vp_in s.2.2.1 12) ∧ F.length ≤ 20 ∧ (s.1 = 1 ∨ s.1 = 2 → F.length < 20)
theorem lnp_len (F : List LR) : (lnp F).length = F.length := by simp [lnp]
theorem lnp_app (A : List LR) (r : LR) : lnp (A ++ [r]) = lnp A ++ [r.2.2] := by simp [lnp]
section RR
variable {nf : Nat → Int64} {sf : Nat → Int32} {n : Nat} {kd : Int32} {va : Int64} {ex ld nd : Int32} {ls : List LN} {cur : LN} {F : List LR} {e3 : Nat}
theorem ftA_c (c c' : Nat) (h : ¬ ex = 0) : ftA kd va c ex ld = ftA kd va c' ex ld := by simp [ftA, h]
theorem stC_A (hL : ¬ (ex = 4 ∨ ex = 5 ∨ ex = 6)) (hG : ¬ (ex = 2 ∧ kd = 2 ∧ ¬ sidC va = (-1))) (hr : rel (ex, ld, nd, ls, cur) F e3) :
    stC nf sf n kd va (ex, ld, nd, ls, cur) = ((ftA kd va F.length ex ld).1, (ftA kd va F.length ex ld).2.1, (ftA kd va F.length ex ld).2.2, nd, (if (ftA kd va F.length ex ld).1 = 0 ∧ (ftA kd va F.length ex ld).2.1 = 0 then ls ++ [cur] else ls), cur) := by
  have e : ftA kd va ls.length ex ld = ftA kd va F.length ex ld := by
    rcases hr with ⟨-, h⟩ | ⟨h, -⟩
    · rw [← show lnp F = ls from h, lnp_len]
    · exact ftA_c _ _ (fun z => by rcases h with h | h | h | h | h <;> exact absurd (z.symm.trans h) (by decide))
  simp only [stC]
  rw [if_neg hL, if_neg hG, e]
theorem rinv_A (hL : ¬ (ex = 4 ∨ ex = 5 ∨ ex = 6)) (hG : ¬ (ex = 2 ∧ kd = 2 ∧ ¬ sidC va = (-1))) (hr : rinv (ex, ld, nd, ls, cur) F e3) (h0 : (ftA kd va F.length ex ld).1 = 0) :
    rinv ((ftA kd va F.length ex ld).2.1, (ftA kd va F.length ex ld).2.2, nd, (if (ftA kd va F.length ex ld).1 = 0 ∧ (ftA kd va F.length ex ld).2.1 = 0 then ls ++ [cur] else ls), cur) F e3 := by
  obtain ⟨hr, h5, h20, h12⟩ := hr
  by_cases k1 : kd = 1
  · simp [ftA, k1] at h0
  by_cases k0 : kd = 0
  · simp [ftA, k0] at h0
  rcases hr with ⟨hx, hl⟩ | ⟨hx, A, r, hF, hA, hc, he⟩
  · simp only at hx hl h5 h20 h12
    rcases hx with rfl | rfl | rfl
    · by_cases q : (kd = 2 ∧ va = 6578553) ∧ F.length < 20
      · have e : ftA kd va F.length 0 ld = (0, 1, ld) := by simp [ftA, k1, k0, q]
        rw [e]
        exact ⟨Or.inl ⟨Or.inr (Or.inl rfl), by simpa using hl⟩, fun z => absurd z (by simp), h20, fun _ => q.2⟩
      · have e : ftA kd va F.length 0 ld = (2, 0, ld) := by simp [ftA, k1, k0, q]
        rw [e] at h0
        exact absurd h0 (by simp)
    · by_cases q : kd = 3
      · by_cases q2 : va < 3600
        · have e : ftA kd va F.length 1 ld = (0, 2, Int64.toInt32 va) := by simp [ftA, q, q2]
          rw [e]
          exact ⟨Or.inl ⟨Or.inr (Or.inr rfl), by simpa using hl⟩, fun z => absurd z (by simp), h20, fun _ => h12 (Or.inl rfl)⟩
        · have e : ftA kd va F.length 1 ld = (3, 1, ld) := by simp [ftA, q, q2]
          rw [e] at h0
          exact absurd h0 (by simp)
      · have e : ftA kd va F.length 1 ld = (2, 1, ld) := by simp [ftA, k1, k0, q]
        rw [e] at h0
        exact absurd h0 (by simp)
    · have e : ftA kd va F.length 2 ld = (2, 2, ld) := by simp [ftA, k1, k0]
      rw [e] at h0
      exact absurd h0 (by simp)
  · simp only at hx hA hc h5 h20 h12
    rcases hx with rfl | rfl | rfl | rfl | rfl
    · by_cases q : kd = 4 ∧ va = 58
      · have e : ftA kd va F.length 3 ld = (0, 4, ld) := by simp [ftA, q]
        rw [e]
        exact ⟨Or.inr ⟨Or.inr (Or.inl rfl), A, r, hF, by simpa using hA, hc, he⟩, fun z => absurd z (by simp), h20, fun z => absurd z (by simp)⟩
      · have e : ftA kd va F.length 3 ld = (2, 3, ld) := by simp [ftA, k1, k0, q]
        rw [e] at h0
        exact absurd h0 (by simp)
    · exact absurd (Or.inl rfl) hL
    · exact absurd (Or.inr (Or.inl rfl)) hL
    · exact absurd (Or.inr (Or.inr rfl)) hL
    · by_cases q : kd = 4 ∧ va = 59
      · have e : ftA kd va F.length 7 ld = (0, 0, ld) := by simp [ftA, q]
        rw [e]
        refine ⟨Or.inl ⟨Or.inl rfl, ?_⟩, fun z => absurd z (by simp), h20, fun z => absurd z (by simp)⟩
        rw [hF, lnp_app, hA, hc]
        simp
      · have e : ftA kd va F.length 7 ld = (2, 7, ld) := by simp [ftA, k1, k0, q]
        rw [e] at h0
        exact absurd h0 (by simp)
theorem rinv_G (v v1 : Nat) (h2 : ex = 2) (hr : rinv (ex, ld, nd, ls, cur) F e3) : rinv (3, ld, nd, ls, ((ld, sidC va, (fun _ => 0), 0, (-1)) : LN)) (F ++ [(v, v1, ld, sidC va, (fun _ => 0), 0, (-1))]) v := by
  obtain ⟨hr, h5, h20, h12⟩ := hr
  subst h2
  have h12 := h12 (Or.inr rfl)
  refine ⟨Or.inr ⟨Or.inl rfl, F, _, rfl, ?_, rfl, rfl⟩, fun z => absurd z (by simp), by simp only [List.length_append, List.length_singleton]; omega, fun z => absurd z (by simp)⟩
  rcases hr with ⟨-, hl⟩ | ⟨h, -⟩
  · exact hl
  · simp at h
theorem ftL_ex (hL : ex = 4 ∨ ex = 5 ∨ ex = 6) (hn : n ≤ 12) {sd gp lw : Int32} {ef : Nat → Int32} (h0 : (ftL nf sf n kd va sd ef ex nd gp lw).1 = 0) :
    (ftL nf sf n kd va sd ef ex nd gp lw).2.1 = 0 ∨ (ftL nf sf n kd va sd ef ex nd gp lw).2.1 = 4 ∨ ((ftL nf sf n kd va sd ef ex nd gp lw).2.1 = 5 ∧ vp_in (ftL nf sf n kd va sd ef ex nd gp lw).2.2.1 12) ∨ (ftL nf sf n kd va sd ef ex nd gp lw).2.1 = 6 ∨ (ftL nf sf n kd va sd ef ex nd gp lw).2.1 = 7 := by
  by_cases k1 : kd = 1
  · simp [ftL, k1] at h0
  by_cases k0 : kd = 0
  · simp [ftL, k0] at h0
  rcases hL with rfl | rfl | rfl
  · have e : ftL nf sf n kd va sd ef 4 nd gp lw = ((teC nf sf n kd va sd ef 4 nd gp).1, (teC nf sf n kd va sd ef 4 nd gp).2.1, (teC nf sf n kd va sd ef 4 nd gp).2.2.1, ef, (teC nf sf n kd va sd ef 4 nd gp).2.2.2, lw) := by simp [ftL, k1, k0]
    rw [e] at h0 ⊢
    simp only at h0 ⊢
    unfold teC at h0 ⊢
    by_cases q1 : kd = 4 ∧ va = 63
    · rw [if_pos q1]; exact Or.inr (Or.inl rfl)
    rw [if_neg q1] at h0 ⊢
    by_cases q2 : kd = 2 ∧ va = 512869231475
    · rw [if_pos q2]; exact Or.inr (Or.inr (Or.inr (Or.inl rfl)))
    rw [if_neg q2] at h0 ⊢
    by_cases q3 : kd = 2 ∧ freC va = true
    · rw [if_pos q3] at h0 ⊢
      simp only at h0 ⊢
      by_cases q4 : fndG nf sf n va sd = (-1)
      · rw [if_pos q4] at h0; exact absurd h0 (by simp)
      · rw [if_neg q4] at h0
        by_cases q5 : ef (fndG nf sf n va sd).toNatClampNeg = 0
        · rw [if_pos ⟨q4, q5⟩]; exact Or.inr (Or.inr (Or.inl ⟨rfl, fndG_vp hn q4⟩))
        · rw [if_neg q5] at h0; exact absurd h0 (by simp)
    · rw [if_neg q3] at h0 ⊢
      by_cases q6 : kd = 4 ∧ va = 59
      · rw [if_pos q6]; exact Or.inl rfl
      · rw [if_neg q6] at h0; exact absurd h0 (by simp)
  · have e : ftL nf sf n kd va sd ef 5 nd gp lw = ((ttC kd va ef 5 nd).1, (ttC kd va ef 5 nd).2.1, nd, (ttC kd va ef 5 nd).2.2, gp, lw) := by simp [ftL, k1, k0]
    rw [e] at h0 ⊢
    simp only at h0 ⊢
    unfold ttC at h0 ⊢
    by_cases q1 : kd = 4 ∧ va = 63
    · rw [if_pos q1]; exact Or.inr (Or.inl rfl)
    rw [if_neg q1] at h0 ⊢
    by_cases q2 : kd = 2 ∧ ¬ reaC va = (-1)
    · rw [if_pos q2]; exact Or.inr (Or.inl rfl)
    · rw [if_neg q2] at h0; exact absurd h0 (by simp)
  · have e : ftL nf sf n kd va sd ef 6 nd gp lw = ((twC kd va 6 lw).1, (twC kd va 6 lw).2.1, nd, ef, gp, (twC kd va 6 lw).2.2) := by simp [ftL, k1, k0]
    rw [e] at h0 ⊢
    simp only at h0 ⊢
    unfold twC at h0 ⊢
    by_cases q1 : kd = 4 ∧ va = 63
    · rw [if_pos q1]; exact Or.inr (Or.inr (Or.inr (Or.inr rfl)))
    rw [if_neg q1] at h0 ⊢
    by_cases q2 : kd = 3
    · rw [if_neg (by simpa using q2)] at h0 ⊢
      by_cases q3 : va &&& 1 = 1
      · rw [if_pos q3] at h0; exact absurd h0 (by simp)
      · rw [if_neg q3]; exact Or.inr (Or.inr (Or.inr (Or.inr rfl)))
    · rw [if_pos q2] at h0; exact absurd h0 (by simp)
theorem rinv_L (hn : n ≤ 12) (hL : ex = 4 ∨ ex = 5 ∨ ex = 6) {A : List LR} {r : LR} (hA : lnp A = ls) (hc : r.2.2 = cur) (h20 : (A ++ [r]).length ≤ 20) (h0 : (ftS nf sf n kd va (ex, ld, nd, ls, cur)).1 = 0) :
    rinv (stC nf sf n kd va (ex, ld, nd, ls, cur)).2 (A ++ [(r.1, r.2.1, cuS (ex, ld, nd, ls, cur) (ftS nf sf n kd va (ex, ld, nd, ls, cur)))]) r.1 := by
  have e : (stC nf sf n kd va (ex, ld, nd, ls, cur)) = ((ftS nf sf n kd va (ex, ld, nd, ls, cur)).1, (ftS nf sf n kd va (ex, ld, nd, ls, cur)).2.1, ld, (ftS nf sf n kd va (ex, ld, nd, ls, cur)).2.2.1, (if (ftS nf sf n kd va (ex, ld, nd, ls, cur)).1 = 0 ∧ (ftS nf sf n kd va (ex, ld, nd, ls, cur)).2.1 = 0 then ls ++ [cuS (ex, ld, nd, ls, cur) (ftS nf sf n kd va (ex, ld, nd, ls, cur))] else ls), cuS (ex, ld, nd, ls, cur) (ftS nf sf n kd va (ex, ld, nd, ls, cur))) := by
    unfold stC
    exact if_pos hL
  rw [e]
  have hx := ftL_ex (nf := nf) (sf := sf) (kd := kd) (va := va) (nd := nd) (sd := cur.2.1) (ef := cur.2.2.1) (gp := cur.2.2.2.1) (lw := cur.2.2.2.2) hL hn h0
  have hS : ftS nf sf n kd va (ex, ld, nd, ls, cur) = ftL nf sf n kd va cur.2.1 cur.2.2.1 ex nd cur.2.2.2.1 cur.2.2.2.2 := rfl
  rw [← hS] at hx
  generalize ftS nf sf n kd va (ex, ld, nd, ls, cur) = T at h0 hx ⊢
  have hlen : (A ++ [(r.1, r.2.1, cuS (ex, ld, nd, ls, cur) T)]).length ≤ 20 := by simpa using h20
  have hin : ∀ (e' : Int32), T.2.1 = e' → ¬ e' = 0 → (e' = 3 ∨ e' = 4 ∨ e' = 5 ∨ e' = 6 ∨ e' = 7) → (e' = 5 → vp_in T.2.2.1 12) → ¬ (e' = 1 ∨ e' = 2) → rinv (T.1, T.2.1, ld, T.2.2.1, (if T.1 = 0 ∧ T.2.1 = 0 then ls ++ [cuS (ex, ld, nd, ls, cur) T] else ls), cuS (ex, ld, nd, ls, cur) T).2 (A ++ [(r.1, r.2.1, cuS (ex, ld, nd, ls, cur) T)]) r.1 := by
    intro e' h1 h2 h3 h4 h5
    refine ⟨Or.inr ⟨?_, A, _, rfl, ?_, rfl, rfl⟩, ?_, hlen, ?_⟩
    · simp only [h1]; exact h3
    · simp only [h1, h2, and_false, if_false]; exact hA
    · simp only [h1]; exact h4
    · simp only [h1]; exact fun z => absurd z h5
  rcases hx with h | h | ⟨h, hv⟩ | h | h
  · refine ⟨Or.inl ⟨Or.inl h, ?_⟩, fun z => absurd (h.symm.trans z) (by decide), hlen, fun z => by rcases z with z | z <;> exact absurd (h.symm.trans z) (by decide)⟩
    simp only [h0, h, and_self, if_true]
    rw [lnp_app, hA]
  · exact hin 4 h (by decide) (by simp) (fun z => absurd z (by simp)) (by decide)
  · exact hin 5 h (by decide) (by simp) (fun _ => hv) (by decide)
  · exact hin 6 h (by decide) (by simp) (fun z => absurd z (by simp)) (by decide)
  · exact hin 7 h (by decide) (by simp) (fun z => absurd z (by simp)) (by decide)
end RR
