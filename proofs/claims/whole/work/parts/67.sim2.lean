section SP
variable {nf : Nat → Int64} {sf bf xf : Nat → Int32} {n t f : Nat}
theorem rea_iff (w : Int64) : (0 < reaM w ↔ ¬ reaC w = (-1)) ∧ (¬ reaC w = (-1) → reaM w = reaC w ∧ kepM w = true ∧ (reaC w = 0 ∨ reaC w = 1 ∨ reaC w = 2 ∨ reaC w = 3 ∨ reaC w = 4 ∨ reaC w = 5)) := by
  have hk : 0 < reaM w → kepM w = true := fun h => by unfold kepM; simp [h]
  unfold reaM reaC at *
  by_cases h1 : w = 2003792491
  · subst h1; exact ⟨by decide, fun _ => ⟨by decide, hk (by decide), by decide⟩⟩
  by_cases h2 : w = 6909036
  · subst h2; exact ⟨by decide, fun _ => ⟨by decide, hk (by decide), by decide⟩⟩
  by_cases h3 : w = 439787549556
  · subst h3; exact ⟨by decide, fun _ => ⟨by decide, hk (by decide), by decide⟩⟩
  by_cases h4 : w = 1635213689
  · subst h4; exact ⟨by decide, fun _ => ⟨by decide, hk (by decide), by decide⟩⟩
  by_cases h5 : w = 431417028203
  · subst h5; exact ⟨by decide, fun _ => ⟨by decide, hk (by decide), by decide⟩⟩
  simp only [h1, h2, h3, h4, h5, if_false]
  exact ⟨by decide, fun h => absurd trivial h⟩
theorem ent_ok {hn : n ≤ 12} {k : Nat} (ht : t ≤ 300) (hB : ∀ i, i < t → bf i = bfM xf t i) (hM : ∀ k', k' < k → MainP nf sf bf xf n t f k') (hE : ∀ k', k' < k → EntP nf sf bf xf n t f k') : EntP nf sf bf xf n t f k := by
  intro j m kk c s ld nd ll cur lm ldA lsA lwA sy hg hk hm hj htk hs hc hc2 hL hr hcw hlm hkk
  obtain ⟨k, rfl⟩ : ∃ k', k = k' + 1 := ⟨k - 1, by omega⟩
  obtain ⟨m, rfl⟩ : ∃ m', m = m' + 1 := ⟨m - 1, by omega⟩
  have hne : ¬ ((adv bf t j).2.1 = 0 ∧ ((4, ld, nd, ll, cur) : CS).1 = 0) := fun z => absurd z.2 (by show ¬ ((4 : Int32) = 0); decide)
  have hle := adv_le bf hj
  have hn1 := tok_nx ht hB hle s htk.2.1
  obtain ⟨r1, r2, r3, r4, r5, r6⟩ := hr
  by_cases hq : (adv bf t j).2.1 = 4 ∧ (adv bf t j).2.2.2 = 63
  · -- a gap
    have hS : stC nf sf n (adv bf t j).2.1 (adv bf t j).2.2.2 (4, ld, nd, ll, cur) = (0, 4, ld, nd, ll, (cur.1, cur.2.1, cur.2.2.1, 1, cur.2.2.2.2)) := by
      rw [hq.1, hq.2]; simp [stC, ftS, ftL, teC, cuS]
    rw [rdC_go hne (by rw [hS]), hS]
    have hsg := (tk_sign htk 63).mpr hq
    have h6 : isM xf t 63 s = true := isM_iff.mpr hsg
    have e1 : enL nf sf lsA xf t n (20 * f + c) (m + 1) s sy hg = enL nf sf lsA xf t n (20 * f + c) m (nxM xf t s) sy (upd hg (20 * f + c) (vp_nar .boolean 1)) := by
      show (if _ then _ else _) = _
      rw [if_pos ⟨f0 hs, Or.inr hsg⟩]
      unfold reS reY reG
      rw [if_pos h6, if_pos h6, if_pos h6]
    rw [e1]
    have hlt := adv_lt hj (by rw [hq.1]; decide)
    refine hE k (by omega) _ m kk c _ ld nd ll _ lm ldA lsA lwA sy _ (by omega) (by omega) hle hn1.1 (hn1.2.trans hs) hc hc2 (linsR_off hL ?_) ?_ hcw hlm hkk
    · exact ⟨fun x hx => ⟨rfl, rfl, rfl, by simp [upd, hc, hx]⟩, fun _ _ => rfl⟩
    · exact ⟨r1, r2, r3, by simp [upd]; rfl, r5, r6⟩
  have hns : ¬ (s.2.2.1 = 5 ∧ sgn xf t (nI s.1) = 63) := fun z => hq ((tk_sign htk 63).mp z)
  have h6 : ¬ isM xf t 63 s = true := fun z => hns (isM_iff.mp z)
  by_cases hw : (adv bf t j).2.1 = 2 ∧ freC (adv bf t j).2.2.2 = true
  · -- a name
    have htok : s.2.2.1 = 2 := (tk_name htk).mpr hw
    have hnm : s.2.2.2.2.1 = (adv bf t j).2.2.2 := (tk_nm htk hw.1).1
    have hnw : ¬ (adv bf t j).2.2.2 = 512869231475 := by
      intro z
      have h2 := hw.2
      rw [z] at h2
      exact absurd h2 (by decide)
    have hlt := adv_lt hj (by rw [hw.1]; decide)
    have e1 : enL nf sf lsA xf t n (20 * f + c) (m + 1) s sy hg = enL nf sf lsA xf t n (20 * f + c) m (reS nf sf lsA sy xf t n (20 * f + c) s) (reY nf sf lsA sy xf t n (20 * f + c) s) hg := by
      show (if _ then _ else _) = _
      rw [if_pos ⟨f0 hs, Or.inl htok⟩]
      unfold reG
      rw [if_neg h6]
    rw [e1]
    unfold reS reY
    rw [if_neg h6, if_neg h6]
    unfold reM
    rw [hnm]
    generalize hva : (adv bf t j).2.2.2 = va at *
    by_cases hf : fnd nf va n 0 = (-1) ∨ ¬ sf (fnd nf va n 0).toNatClampNeg = cur.2.1
    · have hG : fndG nf sf n va cur.2.1 = (-1) := by
        unfold fndG
        by_cases q : fnd nf va n 0 = (-1)
        · rw [if_neg (fun z => z.1 q)]
        · rw [if_neg (fun z => (hf.resolve_left q) z.2)]
      have hm4 : fnd nf va n 0 < 0 ∨ ¬ sf (fnd nf va n 0).toNatClampNeg = lsA (20 * f + c) := by
        rw [r2]
        exact hf.imp (fnd_neg hn).mpr id
      rw [if_pos hm4]
      have hfl := flM_0 (k := 4) (f0 hs)
      have hfn : ¬ (flM 4 s).2.2.2.2.2.1 = 0 := by rw [hfl]; show ¬ ((4 : Int32) = 0); decide
      rw [if_pos hfn, if_pos hfn, enL_f hfn]
      refine res_bad (v := 4) htk (f0 hs) (by decide) (rd_bad hne (by decide) ?_) (by rw [fin_f hfn]; exact hfl)
      rw [hw.1, hva]
      simp [stC, ftS, ftL, teC, hnw, hw.2, hG]
    · have hf1 : ¬ fnd nf va n 0 = (-1) := fun z => hf (Or.inl z)
      have hf2 : sf (fnd nf va n 0).toNatClampNeg = cur.2.1 := Classical.byContradiction (fun z => hf (Or.inr z))
      have hG : fndG nf sf n va cur.2.1 = fnd nf va n 0 := by unfold fndG; rw [if_pos ⟨hf1, hf2⟩]
      have hm4 : ¬ (fnd nf va n 0 < 0 ∨ ¬ sf (fnd nf va n 0).toNatClampNeg = lsA (20 * f + c)) := by
        rw [r2]
        rintro (z | z)
        · exact hf1 ((fnd_neg hn).mp z)
        · exact z hf2
      rw [if_neg hm4]
      obtain ⟨i, hi, hfi⟩ : ∃ i, i < 12 ∧ fnd nf va n 0 = nI i := by
        rcases fnd_in nf va n 0 with q | ⟨i, h1, h2, h3, h4⟩
        · exact absurd q hf1
        · exact ⟨i, by omega, h4⟩
      have hcl : (fnd nf va n 0).toNatClampNeg = i := by rw [hfi]; exact nI_clamp (by omega)
      rw [hcl]
      have hent := r5 i hi
      by_cases he : cur.2.2.1 i = 0
      · have hy0 : sy (12 * (20 * f + c) + i) = 0 := by
          rcases hent with ⟨a, -⟩ | ⟨a, -⟩
          · rw [he] at a; exact absurd a (by decide)
          · rw [a, he]
        rw [show (if ¬ sy (12 * (20 * f + c) + i) = 0 then flM 5 s else s) = s from if_neg (fun z => z hy0), if_neg (fun z => z (f0 hs)), if_neg (fun z => z (f0 hs))]
        have hS : stC nf sf n (adv bf t j).2.1 va (4, ld, nd, ll, cur) = (0, 5, ld, fnd nf va n 0, ll, cur) := by
          rw [hw.1]
          simp [stC, ftS, ftL, teC, cuS, hnw, hw.2, hG, hf1, hcl, he]
        rw [rdC_go hne (by rw [hva, hS]), hva, hS]
        -- the token behind the name
        obtain ⟨k, rfl⟩ : ∃ k', k = k' + 1 := ⟨k - 1, by omega⟩
        generalize hj1 : (adv bf t j).1 = j1 at *
        generalize hs1 : nxM xf t s = s1 at *
        have hs1f : s1.2.2.2.2.2 = (0, (-1)) := hn1.2.trans hs
        have htk1 := hn1.1
        have hne1 : ¬ ((adv bf t j1).2.1 = 0 ∧ ((5, ld, fnd nf va n 0, ll, cur) : CS).1 = 0) := fun z => absurd z.2 (by show ¬ ((5 : Int32) = 0); decide)
        have hle1 := adv_le bf hle
        have hn2 := tok_nx ht hB hle1 s1 htk1.2.1
        have upR : ∀ (e y : Int32), entR e y → linsR f ll ldA lsA lwA (upd sy (12 * (20 * f + c) + i) y) hg ∧ linR (cur.1, cur.2.1, upd cur.2.2.1 i e, cur.2.2.2.1, cur.2.2.2.2) (20 * f + c) ldA lsA lwA (upd sy (12 * (20 * f + c) + i) y) hg := by
          intro e y hey
          refine ⟨linsR_off hL ⟨fun _ _ => ⟨rfl, rfl, rfl, rfl⟩, fun x hx => ?_⟩, r1, r2, r3, r4, fun i2 h2 => ?_, r6⟩
          · have : ¬ x = 12 * (20 * f + c) + i := by rw [← hc] at hx; omega
            simp [upd, this]
          · by_cases q : i2 = i
            · subst q; simp [upd]; exact hey
            · have : ¬ 12 * (20 * f + c) + i2 = 12 * (20 * f + c) + i := by omega
              simp only [upd]
              rw [if_neg q, if_neg this]
              exact r5 i2 h2
        by_cases hq1 : (adv bf t j1).2.1 = 4 ∧ (adv bf t j1).2.2.2 = 63
        · have hS1 : stC nf sf n (adv bf t j1).2.1 (adv bf t j1).2.2.2 (5, ld, fnd nf va n 0, ll, cur) = (0, 4, ld, fnd nf va n 0, ll, (cur.1, cur.2.1, upd cur.2.2.1 i (-1), cur.2.2.2.1, cur.2.2.2.2)) := by
            rw [hq1.1, hq1.2]
            simp [stC, ftS, ftL, ttC, cuS, hcl]
          rw [rdC_go hne1 (by rw [hS1]), hS1]
          have h61 : isM xf t 63 s1 = true := isM_iff.mpr ((tk_sign htk1 63).mpr hq1)
          rw [muM_yes (f0 hs1f) (Or.inl h61), if_pos h61]
          have hlt1 := adv_lt hle (by rw [hq1.1]; decide)
          obtain ⟨u1, u2⟩ := upR (-1) 8 (Or.inl ⟨rfl, rfl⟩)
          exact hE k (by omega) _ m kk c _ ld _ ll _ lm ldA lsA lwA _ hg (by omega) (by omega) hle1 hn2.1 (hn2.2.trans hs1f) hc hc2 u1 u2 hcw hlm hkk
        · have h61 : ¬ isM xf t 63 s1 = true := fun z => hq1 ((tk_sign htk1 63).mp (isM_iff.mp z))
          by_cases hrs : (adv bf t j1).2.1 = 2 ∧ ¬ reaC (adv bf t j1).2.2.2 = (-1)
          · obtain ⟨q1, q2, q3⟩ := (rea_iff (adv bf t j1).2.2.2).2 hrs.2
            obtain ⟨p1, p2⟩ := tk_nm htk1 hrs.1
            rw [if_pos q2] at p2
            have hR : reR s1 = reaC (adv bf t j1).2.2.2 := by unfold reR; rw [if_pos p2, p1, q1]
            have hRp : 0 < reR s1 := by rw [hR, ← q1]; exact (rea_iff _).1.mpr hrs.2
            have hS1 : stC nf sf n (adv bf t j1).2.1 (adv bf t j1).2.2.2 (5, ld, fnd nf va n 0, ll, cur) = (0, 4, ld, fnd nf va n 0, ll, (cur.1, cur.2.1, upd cur.2.2.1 i (reaC (adv bf t j1).2.2.2), cur.2.2.2.1, cur.2.2.2.2)) := by
              rw [hrs.1]
              simp [stC, ftS, ftL, ttC, cuS, hcl, hrs.2]
            rw [rdC_go hne1 (by rw [hS1]), hS1]
            rw [muM_yes (f0 hs1f) (Or.inr hRp), if_neg h61, hR]
            have hlt1 := adv_lt hle (by rw [hrs.1]; decide)
            obtain ⟨u1, u2⟩ := upR (reaC (adv bf t j1).2.2.2) _ (Or.inr ⟨rfl, q3⟩)
            exact hE k (by omega) _ m kk c _ ld _ ll _ lm ldA lsA lwA _ hg (by omega) (by omega) hle1 hn2.1 (hn2.2.trans hs1f) hc hc2 u1 u2 hcw hlm hkk
          · have hRn : ¬ 0 < reR s1 := by
              unfold reR
              by_cases q : s1.2.2.1 = 3
              · rw [if_pos q]
                intro z
                have k2 : (adv bf t j1).2.1 = 2 := by
                  rcases htk1.2.2 with ⟨h1, h2⟩ | ⟨h1, h2⟩ | ⟨h1, h2, h3⟩ | ⟨h1, h2, -⟩ | ⟨h1, h2, h3⟩
                  · rw [h2] at q; exact absurd q (by decide)
                  · rw [h2] at q; exact absurd q (by decide)
                  · exact h1
                  · rw [h2] at q; exact absurd q (by decide)
                  · rw [h2] at q; exact absurd q (by decide)
                rw [(tk_nm htk1 k2).1] at z
                exact hrs ⟨k2, (rea_iff _).1.mp z⟩
              · rw [if_neg q]; decide
            have hw1 := wr_v htk1 (f0 hs1f)
            have hfn : ¬ (wrM s1).2.2.2.2.2.1 = 0 := by rw [hw1]; exact wr_ne
            rw [muM_no (f0 hs1f) (fun z => z.elim h61 hRn), enL_f hfn]
            refine res_bad htk1 (f0 hs1f) wr_ne (rd_bad hne1 wr_ne (st_bad (by simp) ?_ ?_ ?_ ?_ ?_ ?_ ?_ ?_)) (by rw [fin_f hfn]; exact hw1)
            · intro z; exact absurd z (by decide)
            · intro z; exact absurd z (by decide)
            · intro z; exact absurd z (by decide)
            · intro z; exact absurd z (by decide)
            · intro z; exact absurd z (by decide)
            · intro z; exact ⟨hq1, hrs⟩
            · intro z; exact absurd z (by decide)
            · intro z; exact absurd z (by decide)
      · have hy0 : ¬ sy (12 * (20 * f + c) + i) = 0 := by
          rcases hent with ⟨a, b⟩ | ⟨a, -⟩
          · rw [b]; decide
          · rw [a]; exact he
        rw [show (if ¬ sy (12 * (20 * f + c) + i) = 0 then flM 5 s else s) = flM 5 s from if_pos hy0]
        have hfl := flM_0 (k := 5) (f0 hs)
        have hfn : ¬ (flM 5 s).2.2.2.2.2.1 = 0 := by rw [hfl]; show ¬ ((5 : Int32) = 0); decide
        rw [if_pos hfn, if_pos hfn, enL_f hfn]
        refine res_bad (v := 5) htk (f0 hs) (by decide) (rd_bad hne (by decide) ?_) (by rw [fin_f hfn]; exact hfl)
        rw [hw.1, hva]
        simp [stC, ftS, ftL, teC, hnw, hw.2, hG, hf1, hcl, he]
  have hnn : ¬ s.2.2.1 = 2 := fun z => hw ((tk_name htk).mp z)
  have e1 : enL nf sf lsA xf t n (20 * f + c) (m + 1) s sy hg = (s, sy, hg) := by
    show (if _ then _ else _) = _
    rw [if_neg (fun z => z.2.elim hnn hns)]
  rw [e1]
  unfold fin
  by_cases hk6 : (adv bf t j).2.1 = 2 ∧ (adv bf t j).2.2.2 = 512869231475
  · have hwk := (tk_word htk 512869231475 (by decide)).mpr hk6
    have e7 : rl7 xf t (20 * f + c) s lwA = (rwS xf t s, rwW xf t s (20 * f + c) lwA) := by unfold rl7; rw [if_pos ⟨f0 hs, hwk⟩]
    rw [e7]
    have hS : stC nf sf n (adv bf t j).2.1 (adv bf t j).2.2.2 (4, ld, nd, ll, cur) = (0, 6, ld, nd, ll, cur) := by
      rw [hk6.1, hk6.2]; simp [stC, ftS, ftL, teC, cuS]
    rw [rdC_go hne (by rw [hS]), hS]
    have hlt := adv_lt hj (by rw [hk6.1]; decide)
    exact wick_step ht hB (fun k' h => hM k' (by omega)) (by omega) hle hn1.1 (hn1.2.trans hs) hc hc2 hL ⟨r1, r2, r3, r4, r5, r6⟩ hcw hlm hkk
  · have e7 : rl7 xf t (20 * f + c) s lwA = (s, lwA) := by unfold rl7; rw [if_neg (fun z => hk6 ((tk_word htk 512869231475 (by decide)).mp z.2))]
    rw [e7]
    exact semi_step ht hB hM hk hj htk hs hc hc2 hL ⟨r1, r2, r3, r4, r5, r6⟩ hlm hkk (Or.inl rfl) (fun _ => ⟨hq, hk6, hw⟩)
end SP
section SQ
variable {nf : Nat → Int64} {sf bf xf : Nat → Int32} {n t f : Nat}
theorem ex_absurd {p : Prop} {a b : Int32} (h : ¬ a = b) (z : a = b) : p := absurd z h
theorem rl4_f {s : MS} (h : ¬ s.2.2.2.2.2.1 = 0) : rl4 xf t s = s := muM_f h
theorem rl5_f {s : MS} (h : ¬ s.2.2.2.2.2.1 = 0) : rl5 xf t s = s := muM_f h
theorem rlF_fin {kk c : Nat} {s : MS} {lm ldA lsA lwA sy hg : Nat → Int32} (hok : rlOk c s = true) : flL nf sf xf t n f kk (rlF nf sf xf t n f (s, c, lm, ldA, lsA, lwA, sy, hg)) = fin nf sf xf t n f kk c (upd lm f (nI (c + 1))) (upd ldA (20 * f + c) (nxM xf t s).2.2.2.1) (rlLs lsA (20 * f + c) (rl3 xf t (nxM xf t s))) (upd lwA (20 * f + c) (-1))
        (enL nf sf (rlLs lsA (20 * f + c) (rl3 xf t (nxM xf t s))) xf t n (20 * f + c) (t + 1) (rl5 xf t (rl4 xf t (rl3 xf t (nxM xf t s)))) (zf sy (12 * (20 * f + c)) 12) (upd hg (20 * f + c) (vp_nar .boolean 0))) := by
  unfold fin rlF rl7E rlE
  simp only [hok, if_true]
theorem main_ok {hn : n ≤ 12} {k : Nat} (ht : t ≤ 300) (hB : ∀ i, i < t → bf i = bfM xf t i) (hE : ∀ k', k' < k → EntP nf sf bf xf n t f k') : MainP nf sf bf xf n t f k := by
  intro j kk c s ld nd ll cur lm ldA lsA lwA sy hg hk hj htk hs hc hc2 hL hlm hkk
  obtain ⟨k, rfl⟩ : ∃ k', k = k' + 1 := ⟨k - 1, by omega⟩
  obtain ⟨kk, rfl⟩ : ∃ m', kk = m' + 1 := ⟨kk - 1, by omega⟩
  by_cases h0 : (adv bf t j).2.1 = 0
  · rw [rdC_end ⟨h0, rfl⟩]
    have e : flL nf sf xf t n f (kk + 1) (s, c, lm, ldA, lsA, lwA, sy, hg) = (s, c, lm, ldA, lsA, lwA, sy, hg) := by
      show (if _ then _ else _) = _
      rw [if_neg (fun z => z.2 ((tk_end htk).mpr h0))]
    rw [e]
    exact Or.inl ⟨rfl, rfl, rfl, hs, hc, by rw [← hc]; exact hlm, hL⟩
  have hne : ¬ ((adv bf t j).2.1 = 0 ∧ ((0, ld, nd, ll, cur) : CS).1 = 0) := fun z => h0 z.1
  have e : flL nf sf xf t n f (kk + 1) (s, c, lm, ldA, lsA, lwA, sy, hg) = flL nf sf xf t n f kk (rlF nf sf xf t n f (s, c, lm, ldA, lsA, lwA, sy, hg)) := by
    show (if _ then _ else _) = _
    rw [if_pos ⟨f0 hs, fun z => h0 ((tk_end htk).mp z)⟩]
  rw [e]
  have hle := adv_le bf hj
  have hlt := adv_lt hj h0
  by_cases hd : ((adv bf t j).2.1 = 2 ∧ (adv bf t j).2.2.2 = 6578553) ∧ ll.length < 20
  · have hS : stC nf sf n (adv bf t j).2.1 (adv bf t j).2.2.2 (0, ld, nd, ll, cur) = (0, 1, ld, nd, ll, cur) := by
      rw [hd.1.1, hd.1.2]; simp [stC, ftA, hd.2]
    rw [rdC_go hne (by rw [hS]), hS]
    have hok : rlOk c s = true := by
      unfold rlOk
      exact decide_eq_true ⟨(tk_word htk 6578553 (by decide)).mpr hd.1, by omega⟩
    have hF : flL nf sf xf t n f kk (rlF nf sf xf t n f (s, c, lm, ldA, lsA, lwA, sy, hg)) = fin nf sf xf t n f kk c (upd lm f (nI (c + 1))) (upd ldA (20 * f + c) (nxM xf t s).2.2.2.1) (rlLs lsA (20 * f + c) (rl3 xf t (nxM xf t s))) (upd lwA (20 * f + c) (-1))
        (enL nf sf (rlLs lsA (20 * f + c) (rl3 xf t (nxM xf t s))) xf t n (20 * f + c) (t + 1) (rl5 xf t (rl4 xf t (rl3 xf t (nxM xf t s)))) (zf sy (12 * (20 * f + c)) 12) (upd hg (20 * f + c) (vp_nar .boolean 0))) := by
      exact rlF_fin hok
    rw [hF]
    have hn1 := tok_nx ht hB hle s htk.2.1
    generalize hj1 : (adv bf t j).1 = j1 at *
    generalize hs1 : nxM xf t s = s1 at *
    have hs1f : s1.2.2.2.2.2 = (0, (-1)) := hn1.2.trans hs
    have htk1 := hn1.1
    obtain ⟨k, rfl⟩ : ∃ k', k = k' + 1 := ⟨k - 1, by omega⟩
    have hne1 : ¬ ((adv bf t j1).2.1 = 0 ∧ ((1, ld, nd, ll, cur) : CS).1 = 0) := fun z => absurd z.2 (by show ¬ ((1 : Int32) = 0); decide)
    have hle1 := adv_le bf hle
    by_cases h3 : (adv bf t j1).2.1 = 3
    · obtain ⟨z, hz, hva, hnu⟩ := tk_numV htk1 h3
      have ht4 : s1.2.2.1 = 4 := (tk_num htk1).mpr h3
      have hlt1 := adv_lt hle (by rw [h3]; decide)
      by_cases h36 : z < 3600
      · have hva36 : (lN z) < 3600 := by
          rw [Int64.lt_iff_toInt_lt, lN_toInt (by omega)]
          show (z : Int) < 3600
          omega
        have hS1 : stC nf sf n (adv bf t j1).2.1 (adv bf t j1).2.2.2 (1, ld, nd, ll, cur) = (0, 2, nI z, nd, ll, cur) := by
          rw [h3, hva]; simp [stC, ftA, hva36, toI32_l hz]
        rw [rdC_go hne1 (by rw [hS1]), hS1]
        have hnu36 : s1.2.2.2.1 < 3600 := by rw [hnu]; exact nI_lt (b := 3600) h36 (by decide)
        have e3 : rl3 xf t s1 = nxM xf t s1 := by
          unfold rl3
          rw [if_neg (fun z => z.2 hnu36), muM_yes (f0 hs1f) ht4]
        rw [e3]
        have hn2 := tok_nx ht hB hle1 s1 htk1.2.1
        generalize hj2 : (adv bf t j1).1 = j2 at *
        generalize hs2 : nxM xf t s1 = s2 at *
        have hs2f : s2.2.2.2.2.2 = (0, (-1)) := hn2.2.trans hs1f
        have htk2 := hn2.1
        obtain ⟨k, rfl⟩ : ∃ k', k = k' + 1 := ⟨k - 1, by omega⟩
        have hne2 : ¬ ((adv bf t j2).2.1 = 0 ∧ ((2, nI z, nd, ll, cur) : CS).1 = 0) := fun z => absurd z.2 (by show ¬ ((2 : Int32) = 0); decide)
        have hle2 := adv_le bf hle1
        have hsides : ((s2.2.2.1 = 3 ∧ s2.2.2.2.2.1 = 1818584692) ∨ (s2.2.2.1 = 3 ∧ s2.2.2.2.2.1 = 491394656372)) ↔ ((adv bf t j2).2.1 = 2 ∧ ¬ sidC (adv bf t j2).2.2.2 = (-1)) := by
          rw [tk_word htk2 1818584692 (by decide), tk_word htk2 491394656372 (by decide)]
          unfold sidC
          by_cases q1 : (adv bf t j2).2.2.2 = 1818584692
          · rw [q1]; simp
          · by_cases q2 : (adv bf t j2).2.2.2 = 491394656372
            · rw [q2]; simp
            · simp [q1, q2]
        by_cases hg2 : (adv bf t j2).2.1 = 2 ∧ ¬ sidC (adv bf t j2).2.2.2 = (-1)
        · have hlt2 := adv_lt hle1 (by rw [hg2.1]; decide)
          have hS2 : stC nf sf n (adv bf t j2).2.1 (adv bf t j2).2.2.2 (2, nI z, nd, ll, cur) = (0, 3, nI z, nd, ll, (nI z, sidC (adv bf t j2).2.2.2, (fun _ => 0), 0, (-1))) := by
            unfold stC
            rw [if_neg (by show ¬ ((2 : Int32) = 4 ∨ (2 : Int32) = 5 ∨ (2 : Int32) = 6); decide), if_pos ⟨rfl, hg2⟩]
          rw [rdC_go hne2 (by rw [hS2]), hS2]
          have e4 : rl4 xf t s2 = nxM xf t s2 := muM_yes (f0 hs2f) (hsides.mpr hg2)
          rw [e4]
          have hls : rlLs lsA (20 * f + c) s2 = upd lsA (20 * f + c) (sidC (adv bf t j2).2.2.2) := by
            unfold rlLs
            congr 1
            have hx := tk_word htk2 1818584692 (by decide)
            by_cases q1 : (adv bf t j2).2.2.2 = 1818584692
            · rw [if_pos (hx.mpr ⟨hg2.1, q1⟩), q1]; rfl
            · rw [if_neg (fun z => q1 (hx.mp z).2)]
              have := hg2.2
              unfold sidC at this ⊢
              rw [if_neg q1] at this ⊢
              by_cases q2 : (adv bf t j2).2.2.2 = 491394656372
              · rw [if_pos q2]
              · rw [if_neg q2] at this; exact absurd rfl this
          rw [hls]
          have hn3 := tok_nx ht hB hle2 s2 htk2.2.1
          generalize hsd : sidC (adv bf t j2).2.2.2 = sd at *
          generalize hj3 : (adv bf t j2).1 = j3 at *
          generalize hs3 : nxM xf t s2 = s3 at *
          have hs3f : s3.2.2.2.2.2 = (0, (-1)) := hn3.2.trans hs2f
          have htk3 := hn3.1
          obtain ⟨k, rfl⟩ : ∃ k', k = k' + 1 := ⟨k - 1, by omega⟩
          have hne3 : ¬ ((adv bf t j3).2.1 = 0 ∧ ((3, nI z, nd, ll, (nI z, sd, (fun _ => 0), 0, (-1))) : CS).1 = 0) := fun z => absurd z.2 (by show ¬ ((3 : Int32) = 0); decide)
          have hle3 := adv_le bf hle2
          by_cases hc3 : (adv bf t j3).2.1 = 4 ∧ (adv bf t j3).2.2.2 = 58
          · have hlt3 := adv_lt hle2 (by rw [hc3.1]; decide)
            have hS3 : stC nf sf n (adv bf t j3).2.1 (adv bf t j3).2.2.2 (3, nI z, nd, ll, (nI z, sd, (fun _ => 0), 0, (-1))) = (0, 4, nI z, nd, ll, (nI z, sd, (fun _ => 0), 0, (-1))) := by
              rw [hc3.1, hc3.2]; simp [stC, ftA]
            rw [rdC_go hne3 (by rw [hS3]), hS3]
            have e5 : rl5 xf t s3 = nxM xf t s3 := muM_yes (f0 hs3f) ((tk_sign htk3 58).mpr hc3)
            rw [e5]
            have hn4 := tok_nx ht hB hle3 s3 htk3.2.1
            refine hE k (by omega) _ (t + 1) kk c _ _ nd ll _ _ _ _ _ _ _ (by omega) (by omega) hle3 hn4.1 (hn4.2.trans hs3f) hc (by omega) (linsR_off hL ?_) ?_ rfl (by simp [upd]) (by omega)
            · refine ⟨fun x hx => ?_, fun y hy => ?_⟩
              · rw [← hc] at hx
                simp [upd, hx]
              · rw [← hc] at hy
                unfold zf
                rw [if_neg hy]
            · refine ⟨by simp [upd, hnu], by simp [upd], by simp [upd], by simp [upd]; rfl, fun i hi => Or.inr ⟨?_, Or.inl rfl⟩, Or.inl rfl⟩
              unfold zf
              rw [if_pos (by omega)]
          · have hw := wr_v htk3 (f0 hs3f)
            have hfn : ¬ (wrM s3).2.2.2.2.2.1 = 0 := by rw [hw]; exact wr_ne
            rw [show rl5 xf t s3 = wrM s3 from muM_no (f0 hs3f) (fun z => hc3 ((tk_sign htk3 58).mp z)), enL_f hfn]
            refine res_bad htk3 (f0 hs3f) wr_ne (rd_bad hne3 wr_ne (st_bad (by simp) ?_ ?_ ?_ ?_ ?_ ?_ ?_ ?_)) (by rw [fin_f hfn]; exact hw) <;> first | exact ex_absurd (by decide) | exact fun _ => hc3
        · have hw := wr_v htk2 (f0 hs2f)
          have hfn : ¬ (wrM s2).2.2.2.2.2.1 = 0 := by rw [hw]; exact wr_ne
          rw [show rl4 xf t s2 = wrM s2 from muM_no (f0 hs2f) (fun z => hg2 (hsides.mp z)), rl5_f hfn, enL_f hfn]
          refine res_bad htk2 (f0 hs2f) wr_ne (rd_bad hne2 wr_ne (st_bad (by simp) ?_ ?_ ?_ ?_ ?_ ?_ ?_ ?_)) (by rw [fin_f hfn]; exact hw) <;> first | exact ex_absurd (by decide) | exact fun _ => hg2
      · have hva36 : ¬ (lN z) < 3600 := by
          rw [Int64.lt_iff_toInt_lt, lN_toInt (by omega)]
          show ¬ (z : Int) < 3600
          omega
        have hS1 : (stC nf sf n (adv bf t j1).2.1 (adv bf t j1).2.2.2 (1, ld, nd, ll, cur)).1 = 3 := by
          rw [h3, hva]; simp [stC, ftA, hva36]
        have hnu36 : ¬ s1.2.2.2.1 < 3600 := by rw [hnu]; exact nI_nlt (b := 3600) (by omega) (by omega)
        have hfl := flM_0 (k := 3) (f0 hs1f)
        have hfn : ¬ (flM 3 s1).2.2.2.2.2.1 = 0 := by rw [hfl]; show ¬ ((3 : Int32) = 0); decide
        have e3 : rl3 xf t s1 = flM 3 s1 := by
          unfold rl3
          rw [if_pos ⟨ht4, hnu36⟩, muM_f hfn]
        rw [e3, rl4_f hfn, rl5_f hfn, enL_f hfn]
        exact res_bad (v := 3) htk1 (f0 hs1f) (by decide) (rd_bad hne1 (by decide) hS1) (by rw [fin_f hfn]; exact hfl)
    · have h4 : ¬ s1.2.2.1 = 4 := fun z => h3 ((tk_num htk1).mp z)
      have hw := wr_v htk1 (f0 hs1f)
      have hfn : ¬ (wrM s1).2.2.2.2.2.1 = 0 := by rw [hw]; exact wr_ne
      have e3 : rl3 xf t s1 = wrM s1 := by
        unfold rl3
        rw [if_neg (fun z => h4 z.1), muM_no (f0 hs1f) h4]
      rw [e3, rl4_f hfn, rl5_f hfn, enL_f hfn]
      refine res_bad htk1 (f0 hs1f) wr_ne (rd_bad hne1 wr_ne (st_bad (by simp) ?_ ?_ ?_ ?_ ?_ ?_ ?_ ?_)) (by rw [fin_f hfn]; exact hw) <;> first | exact ex_absurd (by decide) | exact fun _ => h3
  · have hok : ¬ rlOk c s = true := by
      unfold rlOk
      intro z
      have z := of_decide_eq_true z
      exact hd ⟨(tk_word htk 6578553 (by decide)).mp z.1, by omega⟩
    have hw := wr_v htk (f0 hs)
    have hfn : ¬ (wrM s).2.2.2.2.2.1 = 0 := by rw [hw]; exact wr_ne
    have hF : (rlF nf sf xf t n f (s, c, lm, ldA, lsA, lwA, sy, hg)).1 = wrM s := by
      unfold rlF
      exact if_neg hok
    rw [flL_f (by rw [hF]; exact hfn)]
    refine res_bad htk (f0 hs) wr_ne (rd_bad hne wr_ne (st_bad (by simp) ?_ ?_ ?_ ?_ ?_ ?_ ?_ ?_)) (by rw [hF]; exact hw) <;> first | exact ex_absurd (by decide) | exact fun _ => hd
theorem sim {hn : n ≤ 12} (ht : t ≤ 300) (hB : ∀ i, i < t → bf i = bfM xf t i) : ∀ k, MainP nf sf bf xf n t f k ∧ EntP nf sf bf xf n t f k := by
  intro k
  induction k using Nat.strongRecOn with
  | _ k ih =>
    exact ⟨main_ok (hn := hn) ht hB (fun k' h => (ih k' h).2), ent_ok (hn := hn) ht hB (fun k' h => (ih k' h).1) (fun k' h => (ih k' h).2)⟩
/-- the class's reader and the model's -/
theorem sim_all (hn : n ≤ 12) (ht : t ≤ 300) (hB : ∀ i, i < t → bf i = bfM xf t i) (a0 : Nat) (tk nu ld nd : Int32) (nm : Int64) (lm ldA lsA lwA sy hg : Nat → Int32) :
    resR f (rdR nf sf n bf t ld nd) (flL nf sf xf t n f 21 (nxM xf t (a0, 0, tk, nu, nm, 0, (-1)), 0, upd lm f 0, ldA, lsA, lwA, sy, hg)) := by
  have hn1 := tok_nx ht hB (Nat.zero_le t) (a0, 0, tk, nu, nm, 0, (-1)) rfl
  exact (sim (nf := nf) (sf := sf) (f := f) (hn := hn) ht hB 301).1 0 21 0 _ ld nd [] LN0 _ _ _ _ _ _ (by omega) (Nat.zero_le _) hn1.1 hn1.2 rfl (by omega) (fun i h => absurd h (by simp)) (by simp [upd]; rfl) (by omega)
end SQ
