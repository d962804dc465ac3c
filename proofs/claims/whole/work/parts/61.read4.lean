theorem rinv_0 {s : CS} {F : List LR} {e3 : Nat} (h : rinv s F e3) (h0 : s.1 = 0) : lnp F = s.2.2.2.1 := by
  rcases h.1 with ⟨-, h⟩ | ⟨h, -⟩
  · exact h
  · rcases h with h | h | h | h | h <;> exact absurd (h0.symm.trans h) (by decide)
theorem lad_app (A : List LR) (r : LR) : lad (A ++ [r]) = lad A ++ [r.1] := by simp [lad]
theorem rinv_in {s : CS} {F : List LR} {e3 : Nat} (h : rinv s F e3) (hL : s.1 = 4 ∨ s.1 = 5 ∨ s.1 = 6) : ∃ A r, F = A ++ [r] ∧ lnp A = s.2.2.2.1 ∧ r.2.2 = s.2.2.2.2 ∧ r.1 = e3 := by
  rcases h.1 with ⟨h, -⟩ | ⟨-, h⟩
  · exfalso
    rcases hL with q | q | q <;> rw [q] at h <;> revert h <;> decide
  · exact h
theorem nI_ngt {i k : Nat} (h : i + (k + 1) = 301) : ¬ nI i > 300 := fun z => absurd ((nI_ltI (a := 300) (b := i) (by omega) (by omega)).mp z) (by omega)
theorem adv_le (bf : Nat → Int32) {t j : Nat} (h : j ≤ t) : (adv bf t j).1 ≤ t := by
  have h1 := skp_le bf (t - j) j
  have h2 := rdw_le bf (t - skp bf (t - j) j) (skp bf (t - j) j) 0
  have h3 := rdn_le bf (t - skp bf (t - j) j) (skp bf (t - j) j) 0
  unfold adv
  split
  · split
    · simp only; omega
    · split
      · simp only; omega
      · simp only; omega
  · simp only; omega
theorem perm_opn {X A B C D : va_W} : (X ++ (B ++ ((A ++ C) ++ D))).Perm ((X ++ C) ++ (A ++ (B ++ D))) := by
  have h1 : X ++ (B ++ ((A ++ C) ++ D)) = X ++ ((B ++ A ++ C) ++ D) := by simp only [List.append_assoc]
  have h2 : (X ++ C) ++ (A ++ (B ++ D)) = X ++ ((C ++ A ++ B) ++ D) := by simp only [List.append_assoc]
  rw [h1, h2]
  refine List.Perm.append_left _ (List.Perm.append_right _ ?_)
  refine List.perm_append_comm.trans ?_
  rw [List.append_assoc]
  exact List.Perm.append_left _ List.perm_append_comm
set_option maxHeartbeats 8000000 in
set_option maxRecDepth 100000 in
theorem lp_read (l : Launch) (g : Gx) {κ : Kx} {E : Ex} {P : va_W} (q0 e1 e2 tp b1 m1 m2 m3 n t f : Nat) (fd gu on : Int32) (nf : Nat → Int64) (sf bf : Nat → Int32) (hn : n ≤ 12) (ht : t ≤ 300) (hb : ∀ i, ¬ bf i = (-1)) (C : zC κ l g ({ frames := 9, cells := 60, slots := 1540, locals := 214 }) b_Re_read 3 "TombLane$FlakeReader" "read" (some FieldType.boolean) E) : ∀ (k i j : Nat) (kd pk : Int32) (va : Int64) (ex ld nd : Int32) (ls : List LN) (cur : LN) (e3 : Nat) (F : List LR) (a : AR) (cs ss : Nat), i + k = 301 → j ≤ t → rinv (ex, ld, nd, ls, cur) F e3 → okA g a (lad F) → cs + 3 * (20 - F.length) ≤ 60 → ss + 77 * (20 - F.length) ≤ 1540 → (∀ (ex' ld' nd' nx' kd' pk' : Int32) (va' : Int64) (e3' : Nat) (b2' : Int32 × Nat × Nat × (Nat → Option Nat)) (F' : List LR), okA g (a.1, b2') (lad F') → F'.length ≤ 20 → ((rdC nf sf n bf t k j (ex, ld, nd, ls, cur)).1 = 1 → lnp F' = (rdC nf sf n bf t k j (ex, ld, nd, ls, cur)).2.2.2) → E (some (.int (rdC nf sf n bf t k j (ex, ld, nd, ls, cur)).1)) [(q0, .inr (4, [.ref e1, .ref e2, .int (rdC nf sf n bf t k j (ex, ld, nd, ls, cur)).2.1, .int (rdC nf sf n bf t k j (ex, ld, nd, ls, cur)).2.2.1, .int ex', .int ld', .ref e3', .int nd'])), (e1, .inr (11, [.ref tp, .int nx', .int kd', .int pk', .long va'])), (tp, .inr (10, [.ref b1, .int (nI t)])), (b1, .inl (g.2.1 0, 300, .inl bf)), (e2, .inr (7, [.ref m1, .ref m2, .ref m3, .int (nI n)])), (m1, .inl (g.2.1 1, 12, .inr (.inl nf))), (m2, .inl (g.2.1 0, 12, .inl sf)), (f, .inr (3, [.int fd, .ref a.1, .int gu, .int on])), (a.1, .inr (0, [.int b2'.1, .ref b2'.2.1, .int (nI F'.length)]))] (arc g (a.1, b2') F'.length ++ (lcs g F' ++ P))) → G κ 3 cs ss 24 [(0, .ref q0), (1, .ref f), (2, .int (nI i))] [] [(q0, .inr (4, [.ref e1, .ref e2, .int 0, .int (-1), .int ex, .int ld, .ref e3, .int nd])), (e1, .inr (11, [.ref tp, .int (nI j), .int kd, .int pk, .long va])), (tp, .inr (10, [.ref b1, .int (nI t)])), (b1, .inl (g.2.1 0, 300, .inl bf)), (e2, .inr (7, [.ref m1, .ref m2, .ref m3, .int (nI n)])), (m1, .inl (g.2.1 1, 12, .inr (.inl nf))), (m2, .inl (g.2.1 0, 12, .inl sf)), (f, .inr (3, [.int fd, .ref a.1, .int gu, .int on])), (a.1, .inr (0, [.int a.2.1, .ref a.2.2.1, .int (nI F.length)]))] (arc g a F.length ++ (lcs g F ++ P)) := by
  intro k
  induction k with
  | zero =>
    intro i j kd pk va ex ld nd ls cur e3 F a cs ss hi hj hr ha hcs hss hE
    have e12 : i = 301 := by omega
    subst e12
    refine g_iload_n C 2 rfl d_Re_read_24 ?_
    refine g_sipush (v := 300) C rfl d_Re_read_25 ?_
    refine g_icmp_gt C d_Re_read_28 (fun _ => ?_) (fun c_1 => absurd (nI_lt (a := 300) (by omega) (by decide)) c_1)
    refine g_iconst (v := 0) C rfl d_Re_read_92 ?_
    exact g_zret C (Or.inl rfl) rfl (hE ex ld nd _ kd pk va e3 a.2 F ha hr.2.2.1 (fun z => absurd z (by show ¬ ((0 : Int32) = 1); decide))) (by first | decide | (dsimp only; omega)) (by first | decide | (dsimp only; omega)) d_Re_read_93
  | succ k ih =>
    intro i j kd pk va ex ld nd ls cur e3 F a cs ss hi hj hr ha hcs hss hE
    have hlen := hr.2.2.1
    have hj2 : (adv bf t j).1 ≤ t := adv_le bf hj
    have hstep : ¬ ((adv bf t j).2.1 = 0 ∧ ex = 0) → G κ 3 cs ss 57 [(0, .ref q0), (1, .ref f), (2, .int (nI i))] [] [(q0, .inr (4, [.ref e1, .ref e2, .int 0, .int (-1), .int ex, .int ld, .ref e3, .int nd])), (e1, .inr (11, [.ref tp, .int (nI (adv bf t j).1), .int (adv bf t j).2.1, .int (nI (adv bf t j).2.2.1), .long (adv bf t j).2.2.2])), (tp, .inr (10, [.ref b1, .int (nI t)])), (b1, .inl (g.2.1 0, 300, .inl bf)), (e2, .inr (7, [.ref m1, .ref m2, .ref m3, .int (nI n)])), (m1, .inl (g.2.1 1, 12, .inr (.inl nf))), (m2, .inl (g.2.1 0, 12, .inl sf)), (f, .inr (3, [.int fd, .ref a.1, .int gu, .int on])), (a.1, .inr (0, [.int a.2.1, .ref a.2.2.1, .int (nI F.length)]))] (arc g a F.length ++ (lcs g F ++ P)) := by
      intro hne
      by_cases hL : ex = 4 ∨ ex = 5 ∨ ex = 6
      · obtain ⟨A, r, hF, hA, hc, he⟩ := rinv_in hr hL
        have hn5 : ex = 5 → vp_in nd 12 := hr.2.1
        have hc : r.2.2 = cur := hc
        have hA : lnp A = ls := hA
        subst he
        subst hc
        refine g_pm (X1 := [(q0, .inr (4, [.ref e1, .ref e2, .int 0, .int (-1), .int ex, .int ld, .ref r.1, .int nd])), (e1, .inr (11, [.ref tp, .int (nI (adv bf t j).1), .int (adv bf t j).2.1, .int (nI (adv bf t j).2.2.1), .long (adv bf t j).2.2.2])), (tp, .inr (10, [.ref b1, .int (nI t)])), (b1, .inl (g.2.1 0, 300, .inl bf)), (e2, .inr (7, [.ref m1, .ref m2, .ref m3, .int (nI n)])), (m1, .inl (g.2.1 1, 12, .inr (.inl nf))), (m2, .inl (g.2.1 0, 12, .inl sf)), (f, .inr (3, [.int fd, .ref a.1, .int gu, .int on])), (a.1, .inr (0, [.int a.2.1, .ref a.2.2.1, .int (nI F.length)])), (r.1, .inr (6, [.int r.2.2.1, .int r.2.2.2.1, .ref r.2.1, .int r.2.2.2.2.2.1, .int r.2.2.2.2.2.2])), (r.2.1, .inl (g.2.1 0, 12, .inl r.2.2.2.2.1))]) (P1 := lcs g A ++ (arc g a F.length ++ P)) (by rw [show lcs g F = lcs g A ++ lc1 g r from by rw [hF, lcs_snoc]]; exact perm_opn (X := [(q0, .inr (4, [.ref e1, .ref e2, .int 0, .int (-1), .int ex, .int ld, .ref r.1, .int nd])), (e1, .inr (11, [.ref tp, .int (nI (adv bf t j).1), .int (adv bf t j).2.1, .int (nI (adv bf t j).2.2.1), .long (adv bf t j).2.2.2])), (tp, .inr (10, [.ref b1, .int (nI t)])), (b1, .inl (g.2.1 0, 300, .inl bf)), (e2, .inr (7, [.ref m1, .ref m2, .ref m3, .int (nI n)])), (m1, .inl (g.2.1 1, 12, .inr (.inl nf))), (m2, .inl (g.2.1 0, 12, .inl sf)), (f, .inr (3, [.int fd, .ref a.1, .int gu, .int on])), (a.1, .inr (0, [.int a.2.1, .ref a.2.2.1, .int (nI F.length)]))])) ?_
        refine g_aload_n C 0 rfl d_Re_read_57 ?_
        refine g_aload_n C 0 rfl d_Re_read_58 ?_
        refine g_aload_n C 1 rfl d_Re_read_59 ?_
        refine g_callV0 (rest := [.ref q0]) (Xn := [(q0, .inr (4, [.ref e1, .ref e2, .int 0, .int (-1), .int (ftL nf sf n (adv bf t j).2.1 (adv bf t j).2.2.2 r.2.2.2.1 r.2.2.2.2.1 ex nd r.2.2.2.2.2.1 r.2.2.2.2.2.2).2.1, .int ld, .ref r.1, .int (ftL nf sf n (adv bf t j).2.1 (adv bf t j).2.2.2 r.2.2.2.1 r.2.2.2.2.1 ex nd r.2.2.2.2.2.1 r.2.2.2.2.2.2).2.2.1])), (e1, .inr (11, [.ref tp, .int (nI (adv bf t j).1), .int (adv bf t j).2.1, .int (nI (adv bf t j).2.2.1), .long (adv bf t j).2.2.2])), (tp, .inr (10, [.ref b1, .int (nI t)])), (b1, .inl (g.2.1 0, 300, .inl bf)), (e2, .inr (7, [.ref m1, .ref m2, .ref m3, .int (nI n)])), (m1, .inl (g.2.1 1, 12, .inr (.inl nf))), (m2, .inl (g.2.1 0, 12, .inl sf)), (f, .inr (3, [.int fd, .ref a.1, .int gu, .int on])), (a.1, .inr (0, [.int a.2.1, .ref a.2.2.1, .int (nI F.length)])), (r.1, .inr (6, [.int r.2.2.1, .int r.2.2.2.1, .ref r.2.1, .int (ftL nf sf n (adv bf t j).2.1 (adv bf t j).2.2.2 r.2.2.2.1 r.2.2.2.2.1 ex nd r.2.2.2.2.2.1 r.2.2.2.2.2.2).2.2.2.2.1, .int (ftL nf sf n (adv bf t j).2.1 (adv bf t j).2.2.2 r.2.2.2.1 r.2.2.2.2.1 ex nd r.2.2.2.2.2.1 r.2.2.2.2.2.2).2.2.2.2.2])), (r.2.1, .inl (g.2.1 0, 12, .inl (ftL nf sf n (adv bf t j).2.1 (adv bf t j).2.2.2 r.2.2.2.1 r.2.2.2.2.1 ex nd r.2.2.2.2.2.1 r.2.2.2.2.2.2).2.2.2.1))]) C (c_Re_fot_L l g q0 e1 e2 r.1 tp r.2.1 0 (-1) ex ld nd r.2.2.1 r.2.2.2.1 r.2.2.2.2.2.1 r.2.2.2.2.2.2 (nI (adv bf t j).1) (adv bf t j).2.1 (nI (adv bf t j).2.2.1) (adv bf t j).2.2.2 r.2.2.2.2.1 m1 m2 m3 n nf sf f hL hn hn5) [0, 1, 4, 5, 6, 9, 10] [2, 3, 7, 8] [4, 5, 0, 1, 6, 7, 8, 2, 3, 9, 10] rfl (by decide) (by decide) rfl mo_Re_faultOfToken mv_Re_faultOfToken kw_535 (by decide) (rcX 0 rfl rfl) rfl (Nat.le_of_ble_eq_true rfl) ⟨by dsimp only; omega, by dsimp only; omega⟩ d_Re_read_60 ?_
        refine g_put (X1 := [(q0, .inr (4, [.ref e1, .ref e2, .int (ftL nf sf n (adv bf t j).2.1 (adv bf t j).2.2.2 r.2.2.2.1 r.2.2.2.2.1 ex nd r.2.2.2.2.2.1 r.2.2.2.2.2.2).1, .int (-1), .int (ftL nf sf n (adv bf t j).2.1 (adv bf t j).2.2.2 r.2.2.2.1 r.2.2.2.2.1 ex nd r.2.2.2.2.2.1 r.2.2.2.2.2.2).2.1, .int ld, .ref r.1, .int (ftL nf sf n (adv bf t j).2.1 (adv bf t j).2.2.2 r.2.2.2.1 r.2.2.2.2.1 ex nd r.2.2.2.2.2.1 r.2.2.2.2.2.2).2.2.1])), (e1, .inr (11, [.ref tp, .int (nI (adv bf t j).1), .int (adv bf t j).2.1, .int (nI (adv bf t j).2.2.1), .long (adv bf t j).2.2.2])), (tp, .inr (10, [.ref b1, .int (nI t)])), (b1, .inl (g.2.1 0, 300, .inl bf)), (e2, .inr (7, [.ref m1, .ref m2, .ref m3, .int (nI n)])), (m1, .inl (g.2.1 1, 12, .inr (.inl nf))), (m2, .inl (g.2.1 0, 12, .inl sf)), (f, .inr (3, [.int fd, .ref a.1, .int gu, .int on])), (a.1, .inr (0, [.int a.2.1, .ref a.2.2.1, .int (nI F.length)])), (r.1, .inr (6, [.int r.2.2.1, .int r.2.2.2.1, .ref r.2.1, .int (ftL nf sf n (adv bf t j).2.1 (adv bf t j).2.2.2 r.2.2.2.1 r.2.2.2.2.1 ex nd r.2.2.2.2.2.1 r.2.2.2.2.2.2).2.2.2.2.1, .int (ftL nf sf n (adv bf t j).2.1 (adv bf t j).2.2.2 r.2.2.2.1 r.2.2.2.2.1 ex nd r.2.2.2.2.2.1 r.2.2.2.2.2.2).2.2.2.2.2])), (r.2.1, .inl (g.2.1 0, 12, .inl (ftL nf sf n (adv bf t j).2.1 (adv bf t j).2.2.2 r.2.2.2.1 r.2.2.2.2.1 ex nd r.2.2.2.2.2.1 r.2.2.2.2.2.2).2.2.2.1))]) C 0 rfl rfl in_Re 2 (by decide) ok_Re nm_Re kw_211 rfl rfl rfl (Nat.le_of_ble_eq_true rfl) rfl d_Re_read_63 ?_
        refine g_aload_n C 0 rfl d_Re_read_66 ?_
        refine g_get C 0 rfl rfl in_Re 2 (by decide) kw_211 rfl d_Re_read_67 ?_
        refine g_if_eq C d_Re_read_70 (fun c_1 => ?_) (fun c_1 => ?_)
        · skip
          refine g_iinc (v := nI (i + 1)) (lv1 := [(0, .ref q0), (1, .ref f), (2, .int (nI (i + 1)))]) C d_Re_read_86 2 rfl (nI_1 _) [1, 2, 0] (by decide) rfl ?_
          refine g_goto C d_Re_read_89 ?_
          have h0 : (ftS nf sf n (adv bf t j).2.1 (adv bf t j).2.2.2 (ex, ld, nd, ls, r.2.2)).1 = 0 := c_1
          have hlr : (A ++ [r]).length = (A ++ [(r.1, r.2.1, cuS (ex, ld, nd, ls, r.2.2) (ftS nf sf n (adv bf t j).2.1 (adv bf t j).2.2.2 (ex, ld, nd, ls, r.2.2)))]).length := by simp
          have hl2 : (A ++ [(r.1, r.2.1, cuS (ex, ld, nd, ls, r.2.2) (ftS nf sf n (adv bf t j).2.1 (adv bf t j).2.2.2 (ex, ld, nd, ls, r.2.2)))]).length = F.length := by rw [hF]; simp
          refine g_pm (X1 := [(q0, .inr (4, [.ref e1, .ref e2, .int (ftS nf sf n (adv bf t j).2.1 (adv bf t j).2.2.2 (ex, ld, nd, ls, r.2.2)).1, .int (-1), .int (ftS nf sf n (adv bf t j).2.1 (adv bf t j).2.2.2 (ex, ld, nd, ls, r.2.2)).2.1, .int ld, .ref r.1, .int (ftS nf sf n (adv bf t j).2.1 (adv bf t j).2.2.2 (ex, ld, nd, ls, r.2.2)).2.2.1])), (e1, .inr (11, [.ref tp, .int (nI (adv bf t j).1), .int (adv bf t j).2.1, .int (nI (adv bf t j).2.2.1), .long (adv bf t j).2.2.2])), (tp, .inr (10, [.ref b1, .int (nI t)])), (b1, .inl (g.2.1 0, 300, .inl bf)), (e2, .inr (7, [.ref m1, .ref m2, .ref m3, .int (nI n)])), (m1, .inl (g.2.1 1, 12, .inr (.inl nf))), (m2, .inl (g.2.1 0, 12, .inl sf)), (f, .inr (3, [.int fd, .ref a.1, .int gu, .int on])), (a.1, .inr (0, [.int a.2.1, .ref a.2.2.1, .int (nI (A ++ [(r.1, r.2.1, cuS (ex, ld, nd, ls, r.2.2) (ftS nf sf n (adv bf t j).2.1 (adv bf t j).2.2.2 (ex, ld, nd, ls, r.2.2)))]).length)]))]) (P1 := arc g a (A ++ [(r.1, r.2.1, cuS (ex, ld, nd, ls, r.2.2) (ftS nf sf n (adv bf t j).2.1 (adv bf t j).2.2.2 (ex, ld, nd, ls, r.2.2)))]).length ++ (lcs g (A ++ [(r.1, r.2.1, cuS (ex, ld, nd, ls, r.2.2) (ftS nf sf n (adv bf t j).2.1 (adv bf t j).2.2.2 (ex, ld, nd, ls, r.2.2)))]) ++ P)) (by rw [hl2, lcs_snoc]; exact (perm_opn (X := [(q0, .inr (4, [.ref e1, .ref e2, .int (ftS nf sf n (adv bf t j).2.1 (adv bf t j).2.2.2 (ex, ld, nd, ls, r.2.2)).1, .int (-1), .int (ftS nf sf n (adv bf t j).2.1 (adv bf t j).2.2.2 (ex, ld, nd, ls, r.2.2)).2.1, .int ld, .ref r.1, .int (ftS nf sf n (adv bf t j).2.1 (adv bf t j).2.2.2 (ex, ld, nd, ls, r.2.2)).2.2.1])), (e1, .inr (11, [.ref tp, .int (nI (adv bf t j).1), .int (adv bf t j).2.1, .int (nI (adv bf t j).2.2.1), .long (adv bf t j).2.2.2])), (tp, .inr (10, [.ref b1, .int (nI t)])), (b1, .inl (g.2.1 0, 300, .inl bf)), (e2, .inr (7, [.ref m1, .ref m2, .ref m3, .int (nI n)])), (m1, .inl (g.2.1 1, 12, .inr (.inl nf))), (m2, .inl (g.2.1 0, 12, .inl sf)), (f, .inr (3, [.int fd, .ref a.1, .int gu, .int on])), (a.1, .inr (0, [.int a.2.1, .ref a.2.2.1, .int (nI F.length)]))])).symm) ?_
          have hst : (stC nf sf n (adv bf t j).2.1 (adv bf t j).2.2.2 (ex, ld, nd, ls, r.2.2)).1 = (ftS nf sf n (adv bf t j).2.1 (adv bf t j).2.2.2 (ex, ld, nd, ls, r.2.2)).1 := by unfold stC; rw [if_pos hL]
          have hst2 : (stC nf sf n (adv bf t j).2.1 (adv bf t j).2.2.2 (ex, ld, nd, ls, r.2.2)).2 = ((ftS nf sf n (adv bf t j).2.1 (adv bf t j).2.2.2 (ex, ld, nd, ls, r.2.2)).2.1, ld, (ftS nf sf n (adv bf t j).2.1 (adv bf t j).2.2.2 (ex, ld, nd, ls, r.2.2)).2.2.1, (stC nf sf n (adv bf t j).2.1 (adv bf t j).2.2.2 (ex, ld, nd, ls, r.2.2)).2.2.2.2.1, cuS (ex, ld, nd, ls, r.2.2) (ftS nf sf n (adv bf t j).2.1 (adv bf t j).2.2.2 (ex, ld, nd, ls, r.2.2))) := by unfold stC; rw [if_pos hL]
          have hin := rinv_L (nf := nf) (sf := sf) (kd := (adv bf t j).2.1) (va := (adv bf t j).2.2.2) (ld := ld) (nd := nd) hn hL hA rfl (by rw [← hF]; exact hlen) h0
          rw [hst2] at hin
          rw [rdC_go hne (hst.trans h0), hst2] at hE
          have hl2 : (A ++ [(r.1, r.2.1, cuS (ex, ld, nd, ls, r.2.2) (ftS nf sf n (adv bf t j).2.1 (adv bf t j).2.2.2 (ex, ld, nd, ls, r.2.2)))]).length = F.length := by rw [hF]; simp
          refine g_eq (X1 := [(q0, .inr (4, [.ref e1, .ref e2, .int 0, .int (-1), .int (ftS nf sf n (adv bf t j).2.1 (adv bf t j).2.2.2 (ex, ld, nd, ls, r.2.2)).2.1, .int ld, .ref r.1, .int (ftS nf sf n (adv bf t j).2.1 (adv bf t j).2.2.2 (ex, ld, nd, ls, r.2.2)).2.2.1])), (e1, .inr (11, [.ref tp, .int (nI (adv bf t j).1), .int (adv bf t j).2.1, .int (nI (adv bf t j).2.2.1), .long (adv bf t j).2.2.2])), (tp, .inr (10, [.ref b1, .int (nI t)])), (b1, .inl (g.2.1 0, 300, .inl bf)), (e2, .inr (7, [.ref m1, .ref m2, .ref m3, .int (nI n)])), (m1, .inl (g.2.1 1, 12, .inr (.inl nf))), (m2, .inl (g.2.1 0, 12, .inl sf)), (f, .inr (3, [.int fd, .ref a.1, .int gu, .int on])), (a.1, .inr (0, [.int a.2.1, .ref a.2.2.1, .int (nI (A ++ [(r.1, r.2.1, cuS (ex, ld, nd, ls, r.2.2) (ftS nf sf n (adv bf t j).2.1 (adv bf t j).2.2.2 (ex, ld, nd, ls, r.2.2)))]).length)]))]) rfl (by rw [h0]) ?_
          exact ih (i + 1) _ _ _ _ _ _ _ _ _ _ _ a cs ss (by omega) hj2 hin (by rw [lad_app]; rw [hF, lad_app] at ha; exact ha) (by rw [hl2]; exact hcs) (by rw [hl2]; exact hss) hE
        · skip
          refine g_aload_n C 0 rfl d_Re_read_73 ?_
          refine g_aload_n C 0 rfl d_Re_read_74 ?_
          refine g_get C 0 rfl rfl in_Re 0 (by decide) kw_209 rfl d_Re_read_75 ?_
          refine g_getN C 1 rfl rfl in_To 3 (by decide) kw_195 rfl d_Re_read_78 ?_
          refine g_put (X1 := [(q0, .inr (4, [.ref e1, .ref e2, .int (ftL nf sf n (adv bf t j).2.1 (adv bf t j).2.2.2 r.2.2.2.1 r.2.2.2.2.1 ex nd r.2.2.2.2.2.1 r.2.2.2.2.2.2).1, .int (nI (adv bf t j).2.2.1), .int (ftL nf sf n (adv bf t j).2.1 (adv bf t j).2.2.2 r.2.2.2.1 r.2.2.2.2.1 ex nd r.2.2.2.2.2.1 r.2.2.2.2.2.2).2.1, .int ld, .ref r.1, .int (ftL nf sf n (adv bf t j).2.1 (adv bf t j).2.2.2 r.2.2.2.1 r.2.2.2.2.1 ex nd r.2.2.2.2.2.1 r.2.2.2.2.2.2).2.2.1])), (e1, .inr (11, [.ref tp, .int (nI (adv bf t j).1), .int (adv bf t j).2.1, .int (nI (adv bf t j).2.2.1), .long (adv bf t j).2.2.2])), (tp, .inr (10, [.ref b1, .int (nI t)])), (b1, .inl (g.2.1 0, 300, .inl bf)), (e2, .inr (7, [.ref m1, .ref m2, .ref m3, .int (nI n)])), (m1, .inl (g.2.1 1, 12, .inr (.inl nf))), (m2, .inl (g.2.1 0, 12, .inl sf)), (f, .inr (3, [.int fd, .ref a.1, .int gu, .int on])), (a.1, .inr (0, [.int a.2.1, .ref a.2.2.1, .int (nI F.length)])), (r.1, .inr (6, [.int r.2.2.1, .int r.2.2.2.1, .ref r.2.1, .int (ftL nf sf n (adv bf t j).2.1 (adv bf t j).2.2.2 r.2.2.2.1 r.2.2.2.2.1 ex nd r.2.2.2.2.2.1 r.2.2.2.2.2.2).2.2.2.2.1, .int (ftL nf sf n (adv bf t j).2.1 (adv bf t j).2.2.2 r.2.2.2.1 r.2.2.2.2.1 ex nd r.2.2.2.2.2.1 r.2.2.2.2.2.2).2.2.2.2.2])), (r.2.1, .inl (g.2.1 0, 12, .inl (ftL nf sf n (adv bf t j).2.1 (adv bf t j).2.2.2 r.2.2.2.1 r.2.2.2.2.1 ex nd r.2.2.2.2.2.1 r.2.2.2.2.2.2).2.2.2.1))]) C 0 rfl rfl in_Re 3 (by decide) ok_Re nm_Re kw_213 rfl rfl rfl (Nat.le_of_ble_eq_true rfl) rfl d_Re_read_81 ?_
          refine g_iconst (v := 0) C rfl d_Re_read_84 ?_
          have h0 : ¬ (ftS nf sf n (adv bf t j).2.1 (adv bf t j).2.2.2 (ex, ld, nd, ls, r.2.2)).1 = 0 := c_1
          have hlr : (A ++ [r]).length = (A ++ [(r.1, r.2.1, cuS (ex, ld, nd, ls, r.2.2) (ftS nf sf n (adv bf t j).2.1 (adv bf t j).2.2.2 (ex, ld, nd, ls, r.2.2)))]).length := by simp
          have hl2 : (A ++ [(r.1, r.2.1, cuS (ex, ld, nd, ls, r.2.2) (ftS nf sf n (adv bf t j).2.1 (adv bf t j).2.2.2 (ex, ld, nd, ls, r.2.2)))]).length = F.length := by rw [hF]; simp
          refine g_pm (X1 := [(q0, .inr (4, [.ref e1, .ref e2, .int (ftS nf sf n (adv bf t j).2.1 (adv bf t j).2.2.2 (ex, ld, nd, ls, r.2.2)).1, .int (nI (adv bf t j).2.2.1), .int (ftS nf sf n (adv bf t j).2.1 (adv bf t j).2.2.2 (ex, ld, nd, ls, r.2.2)).2.1, .int ld, .ref r.1, .int (ftS nf sf n (adv bf t j).2.1 (adv bf t j).2.2.2 (ex, ld, nd, ls, r.2.2)).2.2.1])), (e1, .inr (11, [.ref tp, .int (nI (adv bf t j).1), .int (adv bf t j).2.1, .int (nI (adv bf t j).2.2.1), .long (adv bf t j).2.2.2])), (tp, .inr (10, [.ref b1, .int (nI t)])), (b1, .inl (g.2.1 0, 300, .inl bf)), (e2, .inr (7, [.ref m1, .ref m2, .ref m3, .int (nI n)])), (m1, .inl (g.2.1 1, 12, .inr (.inl nf))), (m2, .inl (g.2.1 0, 12, .inl sf)), (f, .inr (3, [.int fd, .ref a.1, .int gu, .int on])), (a.1, .inr (0, [.int a.2.1, .ref a.2.2.1, .int (nI (A ++ [(r.1, r.2.1, cuS (ex, ld, nd, ls, r.2.2) (ftS nf sf n (adv bf t j).2.1 (adv bf t j).2.2.2 (ex, ld, nd, ls, r.2.2)))]).length)]))]) (P1 := arc g a (A ++ [(r.1, r.2.1, cuS (ex, ld, nd, ls, r.2.2) (ftS nf sf n (adv bf t j).2.1 (adv bf t j).2.2.2 (ex, ld, nd, ls, r.2.2)))]).length ++ (lcs g (A ++ [(r.1, r.2.1, cuS (ex, ld, nd, ls, r.2.2) (ftS nf sf n (adv bf t j).2.1 (adv bf t j).2.2.2 (ex, ld, nd, ls, r.2.2)))]) ++ P)) (by rw [hl2, lcs_snoc]; exact (perm_opn (X := [(q0, .inr (4, [.ref e1, .ref e2, .int (ftS nf sf n (adv bf t j).2.1 (adv bf t j).2.2.2 (ex, ld, nd, ls, r.2.2)).1, .int (nI (adv bf t j).2.2.1), .int (ftS nf sf n (adv bf t j).2.1 (adv bf t j).2.2.2 (ex, ld, nd, ls, r.2.2)).2.1, .int ld, .ref r.1, .int (ftS nf sf n (adv bf t j).2.1 (adv bf t j).2.2.2 (ex, ld, nd, ls, r.2.2)).2.2.1])), (e1, .inr (11, [.ref tp, .int (nI (adv bf t j).1), .int (adv bf t j).2.1, .int (nI (adv bf t j).2.2.1), .long (adv bf t j).2.2.2])), (tp, .inr (10, [.ref b1, .int (nI t)])), (b1, .inl (g.2.1 0, 300, .inl bf)), (e2, .inr (7, [.ref m1, .ref m2, .ref m3, .int (nI n)])), (m1, .inl (g.2.1 1, 12, .inr (.inl nf))), (m2, .inl (g.2.1 0, 12, .inl sf)), (f, .inr (3, [.int fd, .ref a.1, .int gu, .int on])), (a.1, .inr (0, [.int a.2.1, .ref a.2.2.1, .int (nI F.length)]))])).symm) ?_
          have hst : (stC nf sf n (adv bf t j).2.1 (adv bf t j).2.2.2 (ex, ld, nd, ls, r.2.2)).1 = (ftS nf sf n (adv bf t j).2.1 (adv bf t j).2.2.2 (ex, ld, nd, ls, r.2.2)).1 := by unfold stC; rw [if_pos hL]
          rw [rdC_bad hne (fun z => h0 (hst.symm.trans z)), hst] at hE
          have hl2 : (A ++ [(r.1, r.2.1, cuS (ex, ld, nd, ls, r.2.2) (ftS nf sf n (adv bf t j).2.1 (adv bf t j).2.2.2 (ex, ld, nd, ls, r.2.2)))]).length = F.length := by rw [hF]; simp
          exact g_zret C (Or.inl rfl) rfl (hE (ftS nf sf n (adv bf t j).2.1 (adv bf t j).2.2.2 (ex, ld, nd, ls, r.2.2)).2.1 ld (ftS nf sf n (adv bf t j).2.1 (adv bf t j).2.2.2 (ex, ld, nd, ls, r.2.2)).2.2.1 _ _ _ _ r.1 a.2 (A ++ [(r.1, r.2.1, cuS (ex, ld, nd, ls, r.2.2) (ftS nf sf n (adv bf t j).2.1 (adv bf t j).2.2.2 (ex, ld, nd, ls, r.2.2)))]) (by rw [lad_app]; rw [hF, lad_app] at ha; exact ha) (by rw [hl2]; exact hlen) (fun z => absurd z (by show ¬ ((0 : Int32) = 1); decide))) (by first | decide | (dsimp only; omega)) (by first | decide | (dsimp only; omega)) d_Re_read_85
      · by_cases hG : ex = 2 ∧ (adv bf t j).2.1 = 2 ∧ ¬ sidC (adv bf t j).2.2.2 = (-1)
        · have h2 : ex = 2 := hG.1
          subst h2
          have hlt : F.length < 20 := hr.2.2.2 (Or.inr rfl)
          refine g_aload_n C 0 rfl d_Re_read_57 ?_
          refine g_aload_n C 0 rfl d_Re_read_58 ?_
          refine g_aload_n C 1 rfl d_Re_read_59 ?_
          refine g_callVP (rest := [.ref q0]) C (c_Re_fot_G l g q0 e1 e2 e3 tp f 0 (-1) ld nd fd gu on (nI (adv bf t j).1) (adv bf t j).2.1 (nI (adv bf t j).2.2.1) (adv bf t j).2.2.2 a F P hG.2 ha (by omega)) [0, 1, 7, 8] [2, 3, 4, 5, 6] rfl (by decide) mo_Re_faultOfToken mv_Re_faultOfToken kw_535 (by decide) (rcX 0 rfl rfl) rfl (Nat.le_of_ble_eq_true rfl) ⟨by dsimp only; omega, by dsimp only; omega⟩ d_Re_read_60 (fun v2 X2 P2 q => ?_)
          obtain ⟨b2, v, v1, hok, rfl, rfl, rfl⟩ := q
          refine g_ord (X1 := [(q0, .inr (4, [.ref e1, .ref e2, .int 0, .int (-1), .int 3, .int ld, .ref v, .int nd])), (e1, .inr (11, [.ref tp, .int (nI (adv bf t j).1), .int (adv bf t j).2.1, .int (nI (adv bf t j).2.2.1), .long (adv bf t j).2.2.2])), (tp, .inr (10, [.ref b1, .int (nI t)])), (b1, .inl (g.2.1 0, 300, .inl bf)), (e2, .inr (7, [.ref m1, .ref m2, .ref m3, .int (nI n)])), (m1, .inl (g.2.1 1, 12, .inr (.inl nf))), (m2, .inl (g.2.1 0, 12, .inl sf)), (f, .inr (3, [.int fd, .ref a.1, .int gu, .int on])), (a.1, .inr (0, [.int b2.1, .ref b2.2.1, .int (nI (F.length + 1))]))]) [5, 6, 0, 1, 2, 3, 4, 7, 8] (by decide) rfl ?_
          refine g_put (X1 := [(q0, .inr (4, [.ref e1, .ref e2, .int 0, .int (-1), .int 3, .int ld, .ref v, .int nd])), (e1, .inr (11, [.ref tp, .int (nI (adv bf t j).1), .int (adv bf t j).2.1, .int (nI (adv bf t j).2.2.1), .long (adv bf t j).2.2.2])), (tp, .inr (10, [.ref b1, .int (nI t)])), (b1, .inl (g.2.1 0, 300, .inl bf)), (e2, .inr (7, [.ref m1, .ref m2, .ref m3, .int (nI n)])), (m1, .inl (g.2.1 1, 12, .inr (.inl nf))), (m2, .inl (g.2.1 0, 12, .inl sf)), (f, .inr (3, [.int fd, .ref a.1, .int gu, .int on])), (a.1, .inr (0, [.int b2.1, .ref b2.2.1, .int (nI (F.length + 1))]))]) C 0 rfl rfl in_Re 2 (by decide) ok_Re nm_Re kw_211 rfl rfl rfl (Nat.le_of_ble_eq_true rfl) rfl d_Re_read_63 ?_
          refine g_aload_n C 0 rfl d_Re_read_66 ?_
          refine g_get C 0 rfl rfl in_Re 2 (by decide) kw_211 rfl d_Re_read_67 ?_
          refine g_if_eq C d_Re_read_70 (fun _ => ?_) (fun c_1 => absurd c_1 (by decide))
          refine g_iinc (v := nI (i + 1)) (lv1 := [(0, .ref q0), (1, .ref f), (2, .int (nI (i + 1)))]) C d_Re_read_86 2 rfl (nI_1 _) [1, 2, 0] (by decide) rfl ?_
          refine g_goto C d_Re_read_89 ?_
          have hst : (stC nf sf n (adv bf t j).2.1 (adv bf t j).2.2.2 (2, ld, nd, ls, cur)) = (0, 3, ld, nd, ls, (ld, sidC (adv bf t j).2.2.2, (fun _ => 0), 0, (-1))) := by unfold stC; rw [if_neg hL, if_pos hG]
          rw [rdC_go hne (by rw [hst]), hst] at hE
          have hin := rinv_G (va := (adv bf t j).2.2.2) v v1 rfl hr
          have hl2 : (F ++ [(v, v1, ld, sidC (adv bf t j).2.2.2, (fun _ => 0), 0, (-1))]).length = F.length + 1 := by simp
          refine g_pm (X1 := [(q0, .inr (4, [.ref e1, .ref e2, .int 0, .int (-1), .int 3, .int ld, .ref v, .int nd])), (e1, .inr (11, [.ref tp, .int (nI (adv bf t j).1), .int (adv bf t j).2.1, .int (nI (adv bf t j).2.2.1), .long (adv bf t j).2.2.2])), (tp, .inr (10, [.ref b1, .int (nI t)])), (b1, .inl (g.2.1 0, 300, .inl bf)), (e2, .inr (7, [.ref m1, .ref m2, .ref m3, .int (nI n)])), (m1, .inl (g.2.1 1, 12, .inr (.inl nf))), (m2, .inl (g.2.1 0, 12, .inl sf)), (f, .inr (3, [.int fd, .ref a.1, .int gu, .int on])), (a.1, .inr (0, [.int b2.1, .ref b2.2.1, .int (nI (F ++ [(v, v1, ld, sidC (adv bf t j).2.2.2, (fun _ => 0), 0, (-1))]).length)]))]) (P1 := arc g (a.1, b2) (F ++ [(v, v1, ld, sidC (adv bf t j).2.2.2, (fun _ => 0), 0, (-1))]).length ++ (lcs g (F ++ [(v, v1, ld, sidC (adv bf t j).2.2.2, (fun _ => 0), 0, (-1))]) ++ P)) (by rw [hl2]) ?_
          exact ih (i + 1) _ _ _ _ _ _ _ _ _ _ _ (a.1, b2) (cs + 3) (ss + 77) (by omega) hj2 hin (by rw [lad_app]; exact hok) (by rw [hl2]; omega) (by rw [hl2]; omega) hE
        · have eS := stC_A (nf := nf) (sf := sf) (n := n) hL hG hr.1
          have hA : ¬ ex = 4 ∧ ¬ ex = 5 ∧ ¬ ex = 6 ∧ (ex = 2 → ¬ ((adv bf t j).2.1 = 2 ∧ ¬ sidC (adv bf t j).2.2.2 = (-1))) := ⟨fun z => hL (Or.inl z), fun z => hL (Or.inr (Or.inl z)), fun z => hL (Or.inr (Or.inr z)), fun z q => hG ⟨z, q⟩⟩
          refine g_aload_n C 0 rfl d_Re_read_57 ?_
          refine g_aload_n C 0 rfl d_Re_read_58 ?_
          refine g_aload_n C 1 rfl d_Re_read_59 ?_
          refine g_callV0 (rest := [.ref q0]) (Xn := [(q0, .inr (4, [.ref e1, .ref e2, .int 0, .int (-1), .int (ftA (adv bf t j).2.1 (adv bf t j).2.2.2 F.length ex ld).2.1, .int (ftA (adv bf t j).2.1 (adv bf t j).2.2.2 F.length ex ld).2.2, .ref e3, .int nd])), (e1, .inr (11, [.ref tp, .int (nI (adv bf t j).1), .int (adv bf t j).2.1, .int (nI (adv bf t j).2.2.1), .long (adv bf t j).2.2.2])), (tp, .inr (10, [.ref b1, .int (nI t)])), (b1, .inl (g.2.1 0, 300, .inl bf)), (e2, .inr (7, [.ref m1, .ref m2, .ref m3, .int (nI n)])), (m1, .inl (g.2.1 1, 12, .inr (.inl nf))), (m2, .inl (g.2.1 0, 12, .inl sf)), (f, .inr (3, [.int fd, .ref a.1, .int gu, .int on])), (a.1, .inr (0, [.int a.2.1, .ref a.2.2.1, .int (nI F.length)]))]) C (c_Re_fot_A l g q0 e1 e2 e3 tp f a.1 a.2.2.1 F.length 0 (-1) ex ld nd fd gu on a.2.1 (nI (adv bf t j).1) (adv bf t j).2.1 (nI (adv bf t j).2.2.1) (adv bf t j).2.2.2 hA (by omega)) [0, 1, 7, 8] [2, 3, 4, 5, 6] [5, 6, 0, 1, 2, 3, 4, 7, 8] rfl (by decide) (by decide) rfl mo_Re_faultOfToken mv_Re_faultOfToken kw_535 (by decide) (rcX 0 rfl rfl) rfl (Nat.le_of_ble_eq_true rfl) ⟨by dsimp only; omega, by dsimp only; omega⟩ d_Re_read_60 ?_
          refine g_put (X1 := [(q0, .inr (4, [.ref e1, .ref e2, .int (ftA (adv bf t j).2.1 (adv bf t j).2.2.2 F.length ex ld).1, .int (-1), .int (ftA (adv bf t j).2.1 (adv bf t j).2.2.2 F.length ex ld).2.1, .int (ftA (adv bf t j).2.1 (adv bf t j).2.2.2 F.length ex ld).2.2, .ref e3, .int nd])), (e1, .inr (11, [.ref tp, .int (nI (adv bf t j).1), .int (adv bf t j).2.1, .int (nI (adv bf t j).2.2.1), .long (adv bf t j).2.2.2])), (tp, .inr (10, [.ref b1, .int (nI t)])), (b1, .inl (g.2.1 0, 300, .inl bf)), (e2, .inr (7, [.ref m1, .ref m2, .ref m3, .int (nI n)])), (m1, .inl (g.2.1 1, 12, .inr (.inl nf))), (m2, .inl (g.2.1 0, 12, .inl sf)), (f, .inr (3, [.int fd, .ref a.1, .int gu, .int on])), (a.1, .inr (0, [.int a.2.1, .ref a.2.2.1, .int (nI F.length)]))]) C 0 rfl rfl in_Re 2 (by decide) ok_Re nm_Re kw_211 rfl rfl rfl (Nat.le_of_ble_eq_true rfl) rfl d_Re_read_63 ?_
          refine g_aload_n C 0 rfl d_Re_read_66 ?_
          refine g_get C 0 rfl rfl in_Re 2 (by decide) kw_211 rfl d_Re_read_67 ?_
          refine g_if_eq C d_Re_read_70 (fun c_1 => ?_) (fun c_1 => ?_)
          · skip
            refine g_iinc (v := nI (i + 1)) (lv1 := [(0, .ref q0), (1, .ref f), (2, .int (nI (i + 1)))]) C d_Re_read_86 2 rfl (nI_1 _) [1, 2, 0] (by decide) rfl ?_
            refine g_goto C d_Re_read_89 ?_
            have h0 : (ftA (adv bf t j).2.1 (adv bf t j).2.2.2 F.length ex ld).1 = 0 := c_1
            have hin := rinv_A hL hG hr h0
            rw [rdC_go hne (by rw [eS]; exact h0), eS] at hE
            refine g_eq (X1 := [(q0, .inr (4, [.ref e1, .ref e2, .int 0, .int (-1), .int (ftA (adv bf t j).2.1 (adv bf t j).2.2.2 F.length ex ld).2.1, .int (ftA (adv bf t j).2.1 (adv bf t j).2.2.2 F.length ex ld).2.2, .ref e3, .int nd])), (e1, .inr (11, [.ref tp, .int (nI (adv bf t j).1), .int (adv bf t j).2.1, .int (nI (adv bf t j).2.2.1), .long (adv bf t j).2.2.2])), (tp, .inr (10, [.ref b1, .int (nI t)])), (b1, .inl (g.2.1 0, 300, .inl bf)), (e2, .inr (7, [.ref m1, .ref m2, .ref m3, .int (nI n)])), (m1, .inl (g.2.1 1, 12, .inr (.inl nf))), (m2, .inl (g.2.1 0, 12, .inl sf)), (f, .inr (3, [.int fd, .ref a.1, .int gu, .int on])), (a.1, .inr (0, [.int a.2.1, .ref a.2.2.1, .int (nI F.length)]))]) rfl (by rw [h0]) ?_
            exact ih (i + 1) _ _ _ _ _ _ _ _ _ _ F a cs ss (by omega) hj2 hin ha hcs hss hE
          · skip
            refine g_aload_n C 0 rfl d_Re_read_73 ?_
            refine g_aload_n C 0 rfl d_Re_read_74 ?_
            refine g_get C 0 rfl rfl in_Re 0 (by decide) kw_209 rfl d_Re_read_75 ?_
            refine g_getN C 1 rfl rfl in_To 3 (by decide) kw_195 rfl d_Re_read_78 ?_
            refine g_put (X1 := [(q0, .inr (4, [.ref e1, .ref e2, .int (ftA (adv bf t j).2.1 (adv bf t j).2.2.2 F.length ex ld).1, .int (nI (adv bf t j).2.2.1), .int (ftA (adv bf t j).2.1 (adv bf t j).2.2.2 F.length ex ld).2.1, .int (ftA (adv bf t j).2.1 (adv bf t j).2.2.2 F.length ex ld).2.2, .ref e3, .int nd])), (e1, .inr (11, [.ref tp, .int (nI (adv bf t j).1), .int (adv bf t j).2.1, .int (nI (adv bf t j).2.2.1), .long (adv bf t j).2.2.2])), (tp, .inr (10, [.ref b1, .int (nI t)])), (b1, .inl (g.2.1 0, 300, .inl bf)), (e2, .inr (7, [.ref m1, .ref m2, .ref m3, .int (nI n)])), (m1, .inl (g.2.1 1, 12, .inr (.inl nf))), (m2, .inl (g.2.1 0, 12, .inl sf)), (f, .inr (3, [.int fd, .ref a.1, .int gu, .int on])), (a.1, .inr (0, [.int a.2.1, .ref a.2.2.1, .int (nI F.length)]))]) C 0 rfl rfl in_Re 3 (by decide) ok_Re nm_Re kw_213 rfl rfl rfl (Nat.le_of_ble_eq_true rfl) rfl d_Re_read_81 ?_
            refine g_iconst (v := 0) C rfl d_Re_read_84 ?_
            have h0 : ¬ (ftA (adv bf t j).2.1 (adv bf t j).2.2.2 F.length ex ld).1 = 0 := c_1
            rw [rdC_bad hne (by rw [eS]; exact h0), eS] at hE
            exact g_zret C (Or.inl rfl) rfl (hE (ftA (adv bf t j).2.1 (adv bf t j).2.2.2 F.length ex ld).2.1 (ftA (adv bf t j).2.1 (adv bf t j).2.2.2 F.length ex ld).2.2 nd _ _ _ _ e3 a.2 F ha hlen (fun z => absurd z (by show ¬ ((0 : Int32) = 1); decide))) (by first | decide | (dsimp only; omega)) (by first | decide | (dsimp only; omega)) d_Re_read_85
    refine g_iload_n C 2 rfl d_Re_read_24 ?_
    refine g_sipush (v := 300) C rfl d_Re_read_25 ?_
    refine g_icmp_gt C d_Re_read_28 (fun c_1 => absurd c_1 (nI_ngt (by omega))) (fun _ => ?_)
    refine g_aload_n C 0 rfl d_Re_read_31 ?_
    refine g_get C 0 rfl rfl in_Re 0 (by decide) kw_209 rfl d_Re_read_32 ?_
    refine g_callVN0 (rest := []) (Xn := [(q0, .inr (4, [.ref e1, .ref e2, .int 0, .int (-1), .int ex, .int ld, .ref e3, .int nd])), (e1, .inr (11, [.ref tp, .int (nI (adv bf t j).1), .int (adv bf t j).2.1, .int (nI (adv bf t j).2.2.1), .long (adv bf t j).2.2.2])), (tp, .inr (10, [.ref b1, .int (nI t)])), (b1, .inl (g.2.1 0, 300, .inl bf)), (e2, .inr (7, [.ref m1, .ref m2, .ref m3, .int (nI n)])), (m1, .inl (g.2.1 1, 12, .inr (.inl nf))), (m2, .inl (g.2.1 0, 12, .inl sf)), (f, .inr (3, [.int fd, .ref a.1, .int gu, .int on])), (a.1, .inr (0, [.int a.2.1, .ref a.2.2.1, .int (nI F.length)]))]) C (c_To_advance l g e1 tp b1 t j bf kd pk va ht hj hb) [1, 2, 3] [0, 4, 5, 6, 7, 8] [0, 6, 7, 8, 1, 2, 3, 4, 5] rfl (by decide) (by decide) rfl mo_To_advance mv_To_advance kw_505 (by decide) (rcX 1 rfl rfl) rfl (Nat.le_of_ble_eq_true rfl) ⟨by dsimp only; omega, by dsimp only; omega⟩ d_Re_read_35 ?_
    refine g_aload_n C 0 rfl d_Re_read_38 ?_
    refine g_get C 0 rfl rfl in_Re 0 (by decide) kw_209 rfl d_Re_read_39 ?_
    refine g_getN C 1 rfl rfl in_To 2 (by decide) kw_193 rfl d_Re_read_42 ?_
    refine g_if_ne C d_Re_read_45 (fun c_2 => ?_) (fun c_2 => ?_)
    · skip
      exact hstep (by clear C hE ih hstep; simp_all)
    · skip
      refine g_aload_n C 0 rfl d_Re_read_48 ?_
      refine g_get C 0 rfl rfl in_Re 4 (by decide) kw_215 rfl d_Re_read_49 ?_
      refine g_if_ne C d_Re_read_52 (fun c_3 => ?_) (fun c_3 => ?_)
      · skip
        exact hstep (by clear C hE ih hstep; simp_all)
      · skip
        refine g_iconst (v := 1) C rfl d_Re_read_55 ?_
        have he : (adv bf t j).2.1 = 0 ∧ ex = 0 := by clear C hE ih hstep; simp_all
        rw [rdC_end he] at hE
        exact g_zret C (Or.inr rfl) rfl (hE ex ld nd _ _ _ _ e3 a.2 F ha hlen (fun _ => rinv_0 hr he.2)) (by first | decide | (dsimp only; omega)) (by first | decide | (dsimp only; omega)) d_Re_read_56

