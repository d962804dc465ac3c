section FM
variable {nf : Nat → Int64} {sf xf : Nat → Int32} {n t f : Nat}
theorem fnd_c12 (hn : n ≤ 12) (w : Int64) : (fnd nf w n 0).toNatClampNeg < 12 := by
  rcases fnd_in nf w n 0 with q | ⟨i, h1, h2, h3, h4⟩
  · rw [q]; decide
  · rw [h4, nI_clamp (by omega)]; omega
theorem reY_off {ls sy : Nat → Int32} {l : Nat} {s : MS} (hn : n ≤ 12) (y : Nat) (hy : ¬ (12 * l ≤ y ∧ y < 12 * l + 12)) : reY nf sf ls sy xf t n l s y = sy y := by
  unfold reY
  split
  · rfl
  · split
    · rfl
    · have := fnd_c12 (nf := nf) hn s.2.2.2.2.1
      have h : ¬ y = 12 * l + (fnd nf s.2.2.2.2.1 n 0).toNatClampNeg := by omega
      unfold upd
      rw [if_neg h]
theorem reG_off {hg : Nat → Int32} {l : Nat} {s : MS} (x : Nat) (hx : ¬ x = l) : reG xf hg t l s x = hg x := by
  unfold reG
  split
  · unfold upd; rw [if_neg hx]
  · rfl
theorem enL_off {ls : Nat → Int32} {l : Nat} (hn : n ≤ 12) : ∀ (k : Nat) (s : MS) (sy hg : Nat → Int32), (∀ y, ¬ (12 * l ≤ y ∧ y < 12 * l + 12) → (enL nf sf ls xf t n l k s sy hg).2.1 y = sy y) ∧ (∀ x, ¬ x = l → (enL nf sf ls xf t n l k s sy hg).2.2 x = hg x)
  | 0, _, _, _ => ⟨fun _ _ => rfl, fun _ _ => rfl⟩
  | k + 1, s, sy, hg => by
    unfold enL
    split
    · obtain ⟨h1, h2⟩ := enL_off hn k (reS nf sf ls sy xf t n l s) (reY nf sf ls sy xf t n l s) (reG xf hg t l s)
      exact ⟨fun y hy => (h1 y hy).trans (reY_off hn y hy), fun x hx => (h2 x hx).trans (reG_off x hx)⟩
    · exact ⟨fun _ _ => rfl, fun _ _ => rfl⟩
theorem rl7_off {l : Nat} {s : MS} {lw : Nat → Int32} (x : Nat) (hx : ¬ x = l) : (rl7 xf t l s lw).2 x = lw x := by
  unfold rl7
  split
  · show rwW xf t s l lw x = lw x
    unfold rwW
    split
    · rfl
    · unfold upd; rw [if_neg hx]
  · rfl
/-- rows below a flake's stay -/
def frm (f : Nat) (T T2 : FS) : Prop := (∀ x, ¬ x = f → T2.2.2.1 x = T.2.2.1 x) ∧ (∀ x, x < 20 * f → T2.2.2.2.1 x = T.2.2.2.1 x ∧ T2.2.2.2.2.1 x = T.2.2.2.2.1 x ∧ T2.2.2.2.2.2.1 x = T.2.2.2.2.2.1 x ∧ T2.2.2.2.2.2.2.2 x = T.2.2.2.2.2.2.2 x) ∧ ∀ y, y < 240 * f → T2.2.2.2.2.2.2.1 y = T.2.2.2.2.2.2.1 y
theorem frm_refl (T : FS) : frm f T T := ⟨fun _ _ => rfl, fun _ _ => ⟨rfl, rfl, rfl, rfl⟩, fun _ _ => rfl⟩
theorem frm_trans {T T2 T3 : FS} (h : frm f T T2) (h2 : frm f T2 T3) : frm f T T3 :=
  ⟨fun x hx => (h2.1 x hx).trans (h.1 x hx), fun x hx => ⟨(h2.2.1 x hx).1.trans (h.2.1 x hx).1, (h2.2.1 x hx).2.1.trans (h.2.1 x hx).2.1, (h2.2.1 x hx).2.2.1.trans (h.2.1 x hx).2.2.1, (h2.2.1 x hx).2.2.2.trans (h.2.1 x hx).2.2.2⟩, fun y hy => (h2.2.2 y hy).trans (h.2.2 y hy)⟩
theorem rlF_frm (hn : n ≤ 12) (T : FS) : frm f T (rlF nf sf xf t n f T) := by
  obtain ⟨s, c, lm, ld, ls, lw, sy, hg⟩ := T
  by_cases hok : rlOk c s = true
  · unfold rlF
    simp only [hok, if_true]
    refine ⟨fun x hx => ?_, fun x hx => ⟨?_, ?_, ?_, ?_⟩, fun y hy => ?_⟩
    · simp only [upd]; rw [if_neg hx]
    · simp only [upd]; rw [if_neg (by omega)]
    · simp only [rlLs, upd]; rw [if_neg (by omega)]
    · simp only [rl7E]
      rw [rl7_off x (by omega)]
      simp only [upd]; rw [if_neg (by omega)]
    · simp only [rlE]
      rw [(enL_off hn _ _ _ _).2 x (by omega)]
      simp only [upd]; rw [if_neg (by omega)]
    · simp only [rlE]
      rw [(enL_off hn _ _ _ _).1 y (by omega)]
      simp only [zf]; rw [if_neg (by omega)]
  · unfold rlF
    simp only [hok, if_false]
    exact ⟨fun _ _ => rfl, fun _ _ => ⟨rfl, rfl, rfl, rfl⟩, fun _ _ => rfl⟩
theorem flL_frm (hn : n ≤ 12) : ∀ (k : Nat) (T : FS), frm f T (flL nf sf xf t n f k T)
  | 0, T => frm_refl T
  | k + 1, T => by
    unfold flL
    split
    · exact frm_trans (rlF_frm hn T) (flL_frm hn k _)
    · exact frm_refl T
end FM
/-- a flake given up or not, by class and model -/
def gvR (gu on gv : Int32) : Prop := (gu = 0 ∧ gv = (-1)) ∨ (gu = 1 ∧ gv = on ∧ 0 ≤ on)
/-- the flakes of the class and the model's rows -/
def FlR (fs : List FR) (lm ld ls lw sy hg fd gv : Nat → Int32) : Prop := ∀ i (h : i < fs.length), fd i = fs[i].2.2.1 ∧ gvR fs[i].2.2.2.1 fs[i].2.2.2.2.1 (gv i) ∧ lm i = nI fs[i].2.2.2.2.2.length ∧ fs[i].2.2.2.2.2.length ≤ 20 ∧ linsR i (lnp fs[i].2.2.2.2.2) ld ls lw sy hg
theorem linsR_frm {f i : Nat} {T T2 : FS} (h : frm f T T2) (hi : i < f) {ll : List LN} (hl : ll.length ≤ 20) (hL : linsR i ll T.2.2.2.1 T.2.2.2.2.1 T.2.2.2.2.2.1 T.2.2.2.2.2.2.1 T.2.2.2.2.2.2.2) : linsR i ll T2.2.2.2.1 T2.2.2.2.2.1 T2.2.2.2.2.2.1 T2.2.2.2.2.2.2.1 T2.2.2.2.2.2.2.2 := by
  intro j hj
  obtain ⟨h1, h2, h3, h4, h5, h6⟩ := hL j hj
  obtain ⟨o1, o2, o3, o4⟩ := h.2.1 (20 * i + j) (by omega)
  exact ⟨o1.trans h1, o2.trans h2, o3.trans h3, o4.trans h4, fun k hk => by rw [h.2.2 _ (by omega)]; exact h5 k hk, h6⟩
theorem FlR_frm {fs : List FR} {T T2 : FS} {fd gv : Nat → Int32} (h : frm fs.length T T2) (hR : FlR fs T.2.2.1 T.2.2.2.1 T.2.2.2.2.1 T.2.2.2.2.2.1 T.2.2.2.2.2.2.1 T.2.2.2.2.2.2.2 fd gv) : FlR fs T2.2.2.1 T2.2.2.2.1 T2.2.2.2.2.1 T2.2.2.2.2.2.1 T2.2.2.2.2.2.2.1 T2.2.2.2.2.2.2.2 fd gv := by
  intro i hi
  obtain ⟨h1, h2, h3, h4, h5⟩ := hR i hi
  exact ⟨h1, h2, by rw [h.1 i (by omega)]; exact h3, h4, linsR_frm h hi (by rw [lnp_len]; exact h4) h5⟩
/-- flake(), class and model -/
theorem flake_eq {nf : Nat → Int64} {sf bf tf xf lm ld ls lw sy hg fd gv : Nat → Int32} {n u a0 : Nat} {fs fs1 : List FR} {dt tk nu fa pl v u1 fa1 pl1 rl rn : Int32} {nm : Int64} (hn : n ≤ 12) (hu : u ≤ 300) (hB : ∀ i, i < u → bf i = bfM (cpT tf xf u) u i) (hl : fs.length < 40)
    (hR : FlR fs lm ld ls lw sy hg fd gv) (hk : flk fs dt (rdR nf sf n bf u rl rn) (nI u) fa pl v fs1 u1 fa1 pl1) {T : FS} (hT : T = flkT nf sf tf xf a0 u n fs.length tk nu nm lm ld ls lw sy hg) :
    u1 = 0 ∧ fa1 = T.1.2.2.2.2.2.1 ∧ pl1 = T.1.2.2.2.2.2.2 ∧ (v = if T.1.2.2.2.2.2.1 = 0 then nI fs.length else (-1)) ∧ (fs1.length = if T.1.2.2.2.2.2.1 = 0 then fs.length + 1 else fs.length) ∧
    FlR fs1 T.2.2.1 T.2.2.2.1 T.2.2.2.2.1 T.2.2.2.2.2.1 T.2.2.2.2.2.2.1 T.2.2.2.2.2.2.2 (if T.1.2.2.2.2.2.1 = 0 then upd fd fs.length dt else fd) (if T.1.2.2.2.2.2.1 = 0 then upd gv fs.length (-1) else gv) := by
  have hsim := sim_all (nf := nf) (sf := sf) (bf := bf) (xf := cpT tf xf u) (f := fs.length) hn hu hB a0 tk nu rl rn nm lm ld ls lw sy hg
  have hfr := flL_frm (nf := nf) (sf := sf) (xf := cpT tf xf u) (t := u) (f := fs.length) hn 21 (nxM (cpT tf xf u) u (a0, 0, tk, nu, nm, 0, (-1)), 0, upd lm fs.length 0, ld, ls, lw, sy, hg)
  have hT' : flL nf sf (cpT tf xf u) u n fs.length 21 (nxM (cpT tf xf u) u (a0, 0, tk, nu, nm, 0, (-1)), 0, upd lm fs.length 0, ld, ls, lw, sy, hg) = T := hT.symm
  rw [hT'] at hsim hfr
  have hR0 : FlR fs (upd lm fs.length 0) ld ls lw sy hg fd gv := fun i hi => by
    obtain ⟨h1, h2, h3, h4, h5⟩ := hR i hi
    refine ⟨h1, h2, ?_, h4, h5⟩
    unfold upd
    rw [if_neg (by omega)]
    exact h3
  have hR1 := FlR_frm (T := (nxM (cpT tf xf u) u (a0, 0, tk, nu, nm, 0, (-1)), 0, upd lm fs.length 0, ld, ls, lw, sy, hg)) hfr hR0
  rcases hk with ⟨h40, -⟩ | ⟨-, hu1, hf1, hp1, hc⟩
  · omega
  rcases hsim with ⟨s1, s2, s3, s4, s5, s6, s7⟩ | ⟨s1, s2, s3⟩
  · have hft : T.1.2.2.2.2.2.1 = 0 := by rw [s4]
    rcases hc with ⟨h0, -⟩ | ⟨-, hv, r, he, r1, r2, r3, r4, r5⟩
    · exact absurd (h0.symm.trans s1) (by decide)
    simp only [hft, if_true]
    refine ⟨hu1, by rw [hf1, s2], by rw [hp1, s3, s4], hv, by rw [he]; simp, ?_⟩
    rw [he]
    intro i hi
    rcases Nat.lt_or_ge i fs.length with hlt | hge
    · rw [List.getElem_append_left hlt]
      obtain ⟨h1, h2, h3, h4, h5⟩ := hR1 i hlt
      refine ⟨?_, ?_, h3, h4, h5⟩
      · unfold upd; rw [if_neg (by omega)]; exact h1
      · unfold upd; rw [if_neg (by omega)]; exact h2
    · have hii : i = fs.length := by simp at hi; omega
      subst hii
      rw [List.getElem_append_right (Nat.le_refl _)]
      simp only [Nat.sub_self, List.getElem_cons_zero]
      refine ⟨by simp [upd, r1], Or.inl ⟨r2, by simp [upd]⟩, ?_, r4, ?_⟩
      · rw [s6, ← r5, lnp_len]
      · rw [r5]; exact s7
  · have hft : ¬ T.1.2.2.2.2.2.1 = 0 := by rw [s3]; exact s2
    rcases hc with ⟨-, he, hv⟩ | ⟨h0, -⟩
    · simp only [hft, if_false]
      exact ⟨hu1, by rw [hf1, s3], by rw [hp1, s3], hv, by rw [he], by rw [he]; exact hR1⟩
    · exact absurd (h0.symm.trans s1) (by decide)
theorem cnt_eq {fd gu on gv k : Int32} (h : gvR gu on gv) : cntC fd gu on k = cntM fd gv k := by
  unfold cntC cntM
  rcases h with ⟨h1, h2⟩ | ⟨h1, h2, h3⟩
  · rw [h1, h2]; simp
  · rw [h1, h2]
    have : ¬ on < 0 := Int32.not_lt.mpr h3
    simp [this]
theorem say_eq {e y gp : Int32} (h : entR e y) : sayM y gp = telC e gp := by
  unfold sayM telC
  rcases h with ⟨h1, h2⟩ | ⟨h1, h2⟩
  · rw [h1, h2]; simp
  · rw [h1]
    rcases h2 with h | h | h | h | h | h <;> rw [h] <;> simp
theorem hrM_cg {sf : Nat → Int32} {sd : Int32} {f g : Nat → Int32} : ∀ (k m : Nat) (d : Nat → Int32), (∀ i, i < m + k → f i = g i) → hrM sf sd f k m d = hrM sf sd g k m d
  | 0, _, _, _ => rfl
  | k + 1, m, d, h => by
    unfold hrM
    rw [h m (by omega), hrM_cg k (m + 1) _ (fun i hi => h i (by omega))]
/-- the wicks told and whether they quarrel -/
def wkO (t : DS) : Prop := (t.2.1 = (-1) ∨ 0 ≤ t.2.1) ∧ (t.2.2 = 0 ∨ t.2.2 = 1)
theorem zb_ne {x : Int32} (h : x = 0 ∨ x = 1) : zb (¬ x = 0) = x := by
  rcases h with h | h <;> rw [h] <;> decide
theorem not_ge {x : Int32} (h : x = (-1) ∨ 0 ≤ x) : 0 ≤ x ↔ ¬ x = (-1) := by
  constructor
  · intro h1 h2; rw [h2] at h1; exact absurd h1 (by decide)
  · intro h1; exact h.resolve_left h1
theorem zb_or2 {p : Prop} [Decidable p] : zb p = 0 ∨ zb p = 1 := by
  by_cases h : p <;> simp [zb, h]
theorem zb_cg {p q : Prop} [Decidable p] [Decidable q] (h : p ↔ q) : zb p = zb q := by simp [zb, h]
theorem ln_eq {sf ld ls lw sy hg : Nat → Int32} {n l : Nat} {sd dy : Int32} {r : LN} {t : DS} (hn : n ≤ 12) (hr : linR r l ld ls lw sy hg) (hw : wkO t) :
    lnM sf n sd dy (ld l) (ls l) (lw l) (fun m => sayM (sy (12 * l + m)) (hg l)) t = (if r.2.1 = sd ∧ r.1 = dy then lnC sf n r.2.1 r.2.2.2.2 r.2.2.2.1 r.2.2.1 t else t) ∧
    wkO (if r.2.1 = sd ∧ r.1 = dy then lnC sf n r.2.1 r.2.2.2.2 r.2.2.2.1 r.2.2.1 t else t) := by
  obtain ⟨h1, h2, h3, h4, h5, h6⟩ := hr
  unfold lnM
  rw [h1, h2, h3, h4]
  by_cases q : r.2.1 = sd ∧ r.1 = dy
  · rw [if_pos q, if_pos ⟨q.2, q.1⟩]
    unfold lnC
    have e1 : hrM sf sd (fun m => sayM (sy (12 * l + m)) r.2.2.2.1) n 0 t.1 = hrM sf r.2.1 (fun m => telC (r.2.2.1 m) r.2.2.2.1) n 0 t.1 := by
      rw [q.1]
      exact hrM_cg n 0 _ (fun i hi => say_eq (h5 i (by omega)))
    rw [e1]
    by_cases hl : r.2.2.2.2 = (-1)
    · have hng : ¬ (0 : Int32) ≤ r.2.2.2.2 := by rw [hl]; decide
      rw [if_neg hng, if_pos hl, if_pos hl]
      have : zb (¬ t.2.2 = 0 ∨ (0 ≤ t.2.1 ∧ 0 ≤ r.2.2.2.2 ∧ ¬ r.2.2.2.2 = t.2.1)) = t.2.2 := by
        rw [← zb_ne hw.2]
        apply zb_cg
        rw [zb_ne hw.2]
        constructor
        · rintro (h | h)
          · exact h
          · exact absurd h.2.1 hng
        · exact Or.inl
      rw [this]
      exact ⟨rfl, hw⟩
    · have hg0 : (0 : Int32) ≤ r.2.2.2.2 := h6.resolve_left hl
      rw [if_pos hg0, if_neg hl, if_neg hl]
      have : zb (¬ t.2.2 = 0 ∨ (0 ≤ t.2.1 ∧ 0 ≤ r.2.2.2.2 ∧ ¬ r.2.2.2.2 = t.2.1)) = zb (¬ t.2.2 = 0 ∨ (¬ t.2.1 = (-1) ∧ ¬ t.2.1 = r.2.2.2.2)) := by
        apply zb_cg
        rw [not_ge hw.1]
        constructor
        · rintro (h | h)
          · exact Or.inl h
          · exact Or.inr ⟨h.1, fun z => h.2.2 z.symm⟩
        · rintro (h | h)
          · exact Or.inl h
          · exact Or.inr ⟨h.1, hg0, fun z => h.2 z.symm⟩
      rw [this]
      exact ⟨rfl, Or.inr hg0, zb_or2⟩
  · rw [if_neg q, if_neg (fun z => q ⟨z.2, z.1⟩)]
    exact ⟨rfl, hw⟩
theorem ls_eq {sf ld ls lw sy hg : Nat → Int32} {n : Nat} {sd dy : Int32} (hn : n ≤ 12) : ∀ (rs : List LR) (l : Nat) (t : DS), (∀ i (h : i < rs.length), linR (rs[i]).2.2 (l + i) ld ls lw sy hg) → wkO t →
    lsM sf ld ls lw sy hg n sd dy true rs.length l t = hfC sf n sd dy rs t ∧ wkO (hfC sf n sd dy rs t)
  | [], l, t, _, hw => ⟨rfl, hw⟩
  | r :: rs, l, t, h, hw => by
    have h0 := h 0 (by simp)
    obtain ⟨e, w⟩ := ln_eq (sf := sf) (sd := sd) (dy := dy) hn h0 hw
    simp only [List.getElem_cons_zero, Nat.add_zero] at e w
    have ih := ls_eq (sf := sf) (sd := sd) (dy := dy) hn rs (l + 1) _ (fun i hi => by
      have := h (i + 1) (by simp; omega)
      simp only [List.getElem_cons_succ] at this
      rw [show l + 1 + i = l + (i + 1) from by omega]
      exact this) w
    show (if true = true then lsM sf ld ls lw sy hg n sd dy true rs.length (l + 1) _ else t) = _ ∧ wkO (hfC sf n sd dy rs _)
    rw [if_pos rfl, e]
    exact ih
theorem lsM_f {sf ld ls lw sy hg : Nat → Int32} {n : Nat} {sd dy : Int32} {k l : Nat} {t : DS} : lsM sf ld ls lw sy hg n sd dy false k l t = t := by
  cases k <;> rfl
theorem fs_eq {sf lm ld ls lw sy hg fd gv : Nat → Int32} {n : Nat} {sd dy kk : Int32} {fs : List FR} (hn : n ≤ 12) (hR : FlR fs lm ld ls lw sy hg fd gv) : ∀ (b a : List FR) (t : DS), fs = a ++ b → wkO t →
    fsM sf ld ls lw sy hg fd gv (lnA fs) n sd dy kk b.length a.length t = rkF sf n sd dy kk b t ∧ wkO (rkF sf n sd dy kk b t)
  | [], a, t, _, hw => ⟨rfl, hw⟩
  | r :: b, a, t, he, hw => by
    have hi : a.length < fs.length := by rw [he]; simp
    have hr : fs[a.length] = r := by simp [he]
    obtain ⟨h1, h2, h3, h4, h5⟩ := hR a.length hi
    rw [hr] at h1 h2 h3 h4 h5
    have hln : lnA fs a.length = r.2.2.2.2.2.length := by rw [he]; exact lnA_mid a r b
    have key : lsM sf ld ls lw sy hg n sd dy (cntM (fd a.length) (gv a.length) kk) (lnA fs a.length) (20 * a.length) t = (if cntC r.2.2.1 r.2.2.2.1 r.2.2.2.2.1 kk = true then hfC sf n sd dy r.2.2.2.2.2 t else t) ∧ wkO (if cntC r.2.2.1 r.2.2.2.1 r.2.2.2.2.1 kk = true then hfC sf n sd dy r.2.2.2.2.2 t else t) := by
      rw [h1, ← cnt_eq (fd := r.2.2.1) (k := kk) h2, hln]
      cases cntC r.2.2.1 r.2.2.2.1 r.2.2.2.2.1 kk with
      | false => rw [lsM_f]; exact ⟨rfl, hw⟩
      | true =>
        refine ls_eq hn _ _ _ (fun i hi => ?_) hw
        have := h5 i (by rw [lnp_len]; exact hi)
        simpa [lnp] using this
    have ih := fs_eq (sf := sf) (sd := sd) (dy := dy) (kk := kk) hn hR b (a ++ [r]) _ (by rw [he]; simp) key.2
    rw [List.length_append, List.length_singleton] at ih
    show fsM sf ld ls lw sy hg fd gv (lnA fs) n sd dy kk b.length (a.length + 1) _ = _ ∧ wkO (rkF sf n sd dy kk b _)
    rw [key.1]
    exact ih
theorem rk_eq {sf lm ld ls lw sy hg fd gv : Nat → Int32} {n : Nat} {sd dy kk : Int32} {fs : List FR} (hn : n ≤ 12) (hR : FlR fs lm ld ls lw sy hg fd gv) :
    fsM sf ld ls lw sy hg fd gv (lnA fs) n sd dy kk fs.length 0 (fun _ => 0, (-1), 0) = rkC sf n sd dy kk fs ∧ wkO (rkC sf n sd dy kk fs) :=
  fs_eq hn hR fs [] _ rfl ⟨Or.inl rfl, Or.inl rfl⟩
/-- counts -/
def mtN (sf st : Nat → Int32) (x sd : Int32) : Nat → Nat → Nat
  | 0, _ => 0
  | k + 1, i => mtN sf st x sd k (i + 1) + (if sf i = sd ∧ st i = x then 1 else 0)
theorem mtN_le (sf st : Nat → Int32) (x sd : Int32) : ∀ k i, mtN sf st x sd k i ≤ k
  | 0, _ => Nat.le_refl _
  | k + 1, i => by
    have := mtN_le sf st x sd k (i + 1)
    unfold mtN
    split <;> omega
theorem mta_N (sf st : Nat → Int32) (x sd : Int32) : ∀ k i (a : Nat), mta sf st x sd k i (nI a) = nI (a + mtN sf st x sd k i)
  | 0, _, _ => rfl
  | k + 1, i, a => by
    unfold mta mtN
    by_cases h : sf i = sd ∧ st i = x
    · rw [if_pos h, if_pos h, nI_1, mta_N sf st x sd k (i + 1) (a + 1)]
      congr 1; omega
    · rw [if_neg h, if_neg h, mta_N sf st x sd k (i + 1) a]
      rfl
theorem mta_0 (sf st : Nat → Int32) (x sd : Int32) (n : Nat) : mta sf st x sd n 0 0 = nI (mtN sf st x sd n 0) := by
  have := mta_N sf st x sd n 0 0
  rw [Nat.zero_add] at this
  exact this
theorem mtN_0 {sf st : Nat → Int32} {x sd : Int32} : ∀ k i, mtN sf st x sd k i = 0 → ∀ j, i ≤ j → j < i + k → ¬ (sf j = sd ∧ st j = x)
  | 0, _, _, _, _, _ => by omega
  | k + 1, i, h, j, h1, h2 => by
    unfold mtN at h
    by_cases q : sf i = sd ∧ st i = x
    · rw [if_pos q] at h; omega
    · rw [if_neg q] at h
      rcases Nat.lt_or_ge i j with hlt | hge
      · exact mtN_0 k (i + 1) (by omega) j (by omega) (by omega)
      · have : j = i := by omega
        rw [this]; exact q
/-- the model's count of a gang's men -/
theorem brL_eq {sf dd : Nat → Int32} {sd : Int32} : ∀ k i (o : Nat) (w : Int32), brL sf dd sd k i (nI o) w = if mtN sf dd 7 sd k i = 0 then some (nI (o + mtN sf dd 0 sd k i), w - nI (mtN sf dd 1 sd k i)) else none
  | 0, i, o, w => by simp [brL, mtN, show nI 0 = 0 from rfl]
  | k + 1, i, o, w => by
    unfold brL mtN
    by_cases hs : sf i = sd
    · rw [if_pos hs]
      by_cases h7 : dd i = 7
      · rw [if_pos h7]; simp [hs, h7]
      · rw [if_neg h7]
        by_cases h0 : dd i = 0
        · have h1 : ¬ dd i = 1 := by rw [h0]; decide
          rw [if_pos h0, if_neg h1, nI_1, Int32.sub_zero, brL_eq k (i + 1) (o + 1) w]
          rw [show o + 1 + mtN sf dd 0 sd k (i + 1) = o + (mtN sf dd 0 sd k (i + 1) + 1) from by omega]
          simp [hs, h0]
        · rw [if_neg h0]
          by_cases h1 : dd i = 1
          · rw [if_pos h1, Int32.add_zero, brL_eq k (i + 1) o (w - 1)]
            simp [hs, h7, h0, h1]
            congr 2
            rw [← nI_1, Int32.sub_sub, Int32.add_comm]
          · rw [if_neg h1, Int32.add_zero, Int32.sub_zero, brL_eq k (i + 1) o w]
            simp [hs, h7, h0, h1]
    · rw [if_neg hs, brL_eq k (i + 1) o w]
      simp [hs]
theorem brS_eq {sf : Nat → Int32} {sd o w v : Int32} (h : w = o ∨ w = 0) (hv : v = if w = 0 then 6 else 1) : ∀ k i d, brS sf sd o w k i d = cop sf sd v k i d
  | 0, _, _ => rfl
  | k + 1, i, d => by
    unfold brS cop
    rw [← hv]
    by_cases q : sf i = sd ∧ d i = 0
    · rw [if_pos ⟨q.1, q.2, h⟩, if_pos q, brS_eq h hv k]
    · rw [if_neg (fun z => q ⟨z.1, z.2.1⟩), if_neg q, brS_eq h hv k]
theorem brS_id {sf : Nat → Int32} {sd o w : Int32} (h : ¬ (w = o ∨ w = 0)) : ∀ k i d, brS sf sd o w k i d = d
  | 0, _, _ => rfl
  | k + 1, i, d => by
    unfold brS
    rw [if_neg (fun z => h z.2.2), brS_id h k]
theorem cop_id {sf : Nat → Int32} {sd v : Int32} : ∀ k i d, (∀ j, i ≤ j → j < i + k → ¬ (sf j = sd ∧ d j = 0)) → cop sf sd v k i d = d
  | 0, _, _, _ => rfl
  | k + 1, i, d, h => by
    unfold cop
    rw [if_neg (h i (Nat.le_refl _) (by omega)), cop_id k (i + 1) d (fun j h1 h2 => h j (by omega) (by omega))]
theorem nr_eq {sf : Nat → Int32} {n : Nat} {sd : Int32} {t : DS} (hn : n ≤ 12) (hw : wkO t) : tdM sf n sd t = nrw sf t.1 t.2.1 t.2.2 sd n := by
  unfold tdM nrw
  rw [mta_0, mta_0, mta_0]
  have l7 := mtN_le sf t.1 7 sd n 0
  have l1 := mtN_le sf t.1 1 sd n 0
  have l0 := mtN_le sf t.1 0 sd n 0
  by_cases hq : t.2.1 = (-1)
  · rw [if_pos hq, if_pos (by rw [hq]; decide)]
  · have hg : 0 ≤ t.2.1 := hw.1.resolve_left hq
    rw [if_neg hq, if_neg (Int32.not_lt.mpr hg)]
    by_cases hu : t.2.2 = 0
    · rw [if_neg (fun z => z hu)]
      unfold brn
      have hb := brL_eq (sf := sf) (dd := t.1) (sd := sd) n 0 0 (t.2.1 / 2)
      rw [Nat.zero_add] at hb
      rw [show brL sf t.1 sd n 0 0 (t.2.1 / 2) = _ from hb]
      by_cases h7 : mtN sf t.1 7 sd n 0 = 0
      · rw [if_pos h7]
        have h70 : ¬ (0 : Int32) < nI (mtN sf t.1 7 sd n 0) := by rw [h7]; decide
        simp only
        by_cases hb : t.2.1 / 2 - nI (mtN sf t.1 1 sd n 0) < 0 ∨ nI (mtN sf t.1 0 sd n 0) < t.2.1 / 2 - nI (mtN sf t.1 1 sd n 0)
        · rw [if_pos hb, if_pos (Or.inr (Or.inr hb))]
        · rw [if_neg hb, if_neg]
          · generalize t.2.1 / 2 - nI (mtN sf t.1 1 sd n 0) = w at *
            by_cases ho : w = nI (mtN sf t.1 0 sd n 0)
            · rw [if_pos ho]
              by_cases hw0 : w = 0
              · have hz : mtN sf t.1 0 sd n 0 = 0 := by
                  rw [hw0] at ho
                  exact ((nI_eq (a := 0) (by omega) (by omega)).mp ho).symm
                have hid := mtN_0 n 0 hz
                rw [brS_eq (v := if w = 0 then 6 else 1) (Or.inl ho) rfl, cop_id n 0 _ hid, cop_id n 0 _ hid]
              · rw [brS_eq (v := 1) (Or.inl ho) (by rw [if_neg hw0])]
            · rw [if_neg ho]
              by_cases hw0 : w = 0
              · rw [if_pos hw0, brS_eq (v := 6) (Or.inr hw0) (by rw [if_pos hw0])]
              · rw [if_neg hw0, brS_id (fun z => z.elim ho hw0)]
          · rintro (z | z | z)
            · exact z hu
            · exact h70 z
            · exact hb z
      · rw [if_neg h7]
        have h70 : (0 : Int32) < nI (mtN sf t.1 7 sd n 0) := nI_lt (a := 0) (by omega) (by omega)
        rw [if_pos (Or.inr (Or.inl h70))]
    · rw [if_pos hu, if_pos (Or.inl hu)]
/-- what a day is, class and model -/
theorem day_eq {sf lm ld ls lw sy hg fd gv : Nat → Int32} {n : Nat} {fs : List FR} (hn : n ≤ 12) (hR : FlR fs lm ld ls lw sy hg fd gv) (sd dy kk : Int32) : dayT sf ld ls lw sy hg fd gv (lnA fs) n fs.length sd kk dy = nrC sf n sd dy kk fs := by
  unfold dayT nrC
  obtain ⟨h1, h2⟩ := rk_eq (sf := sf) (sd := sd) (dy := dy) (kk := kk) hn hR
  rw [h1, nr_eq hn h2]
