section GX
variable {κ : Kx} {l : Launch} {g : Gx} {R : Room} {cc : ByteArray} {nL : Nat} {own name : String} {ret : Option FieldType} {E : Ex} {cs ss pc q : Nat} {lv : List (Nat × Value)} {st : List Value} {X P : va_W}
/-- the script, read alone -/
def scX (κ : Kx) (b L : Nat) (xs : Nat → Int32) : Prop := va_X b L xs κ.2.1.1 κ.2.1.1.heap ∧ b < κ.2.1.1.heap.size ∧ ¬ κ.2.2.1.2 b
theorem g_xlen (C : zC κ l g R cc nL own name ret E) {b L : Nat} {xs : Nat → Int32} (hx : scX κ b L xs) (hd : dz cc pc (.arraylength) 1 q) (k : G κ nL cs ss q lv (.int (nI L) :: st) X P) : G κ nL cs ss pc lv (.ref b :: st) X P := by
  obtain ⟨hd, rfl⟩ := hd
  intro H locs ls hl hP hD hS
  exact va_slen C.2.2.2.1 C.2.2.2.2.1 hx.1 hx.2.1 hx.2.2 hS hd (k H locs ls hl hP hD hS)
theorem g_xld (C : zC κ l g R cc nL own name ret E) {b L : Nat} {xs : Nat → Int32} {x : Int32} (hx : scX κ b L xs) (hin : vp_in x L) (hd : dz cc pc (.iaload) 1 q) (k : G κ nL cs ss q lv (.int (xs x.toNatClampNeg) :: st) X P) : G κ nL cs ss pc lv (.int x :: .ref b :: st) X P := by
  obtain ⟨hd, rfl⟩ := hd
  intro H locs ls hl hP hD hS
  exact va_sld C.2.2.2.1 C.2.2.2.2.1 hx.1 hx.2.1 hx.2.2 hS hin hd (k H locs ls hl hP hD hS)
end GX
theorem lw_go {i L : Nat} (hL : L ≤ 3072) (h : i + 6 ≤ L) : ¬ nI i > nI L - 6 := by
  rw [show nI L - 6 = nI (L - 6) from pk_sub (a := L) (b := 6) (by omega)]
  exact nI_nlt (by omega) (by omega)
theorem lw_end {i L : Nat} (hL : L ≤ 3072) (hi : i ≤ 4000) (h : L < i + 6) : nI i > nI L - 6 := by
  show nI L - 6 < nI i
  rw [Int32.lt_iff_toInt_lt, nI_toInt (by omega), Int32.toInt_sub, nI_toInt (by omega)]
  have x6 : (6 : Int32).toInt = 6 := by decide
  rw [x6, Int.bmod_eq_of_le (by omega) (by omega)]
  omega
/-- class and model, as the law goes -/
def Rl (g : Gx) (K : AR) (fs : List FR) (n u c dc : Nat) (nf : Nat → Int64) (dt : Int32) (rf bf tf lmf ldf lsf lwf syf hgf fdf gvf bB bT bG bF bP pdf ms : Nat → Int32) : Prop :=
  n ≤ 12 ∧ u ≤ 300 ∧ c ≤ 60 ∧ dc ≤ 60 ∧ fs.length ≤ 40 ∧ okA g K (fad fs) ∧ (∀ r ∈ fs, fok g r) ∧ (∀ i, i < n → isNm (nf i) = true) ∧ (∀ i, i < n → vp_in (rf i) 4) ∧ (0 ≤ dt ∧ dt ≤ 100000) ∧ tpR bf tf ∧ FlR fs lmf ldf lsf lwf syf hgf fdf gvf ∧ dbR n dc bB bT bG bF ∧ pdR dc bP pdf ∧ ms 0 = 0
theorem man_nm {nf : Nat → Int64} {n : Nat} {w : Int64} {sd rk : Int32} (h : ∀ i, i < n → isNm (nf i) = true) : ∀ i, i < (if manOkM nf n w sd rk then n + 1 else n) → isNm ((if manOkM nf n w sd rk then vp_updL nf n w else nf) i) = true := by
  intro i hi
  by_cases q : manOkM nf n w sd rk = true
  · rw [if_pos q] at hi ⊢
    unfold vp_updL
    by_cases e : i = n
    · rw [if_pos e]
      unfold manOkM at q
      exact (of_decide_eq_true q).1
    · rw [if_neg e]; exact h i (by omega)
  · rw [if_neg q] at hi ⊢; exact h i hi
theorem man_rf {nf : Nat → Int64} {n : Nat} {w : Int64} {sd rk : Int32} {rf : Nat → Int32} (h : ∀ i, i < n → vp_in (rf i) 4) : ∀ i, i < (if manOkM nf n w sd rk then n + 1 else n) → vp_in ((if manOkM nf n w sd rk then upd rf n rk else rf) i) 4 := by
  intro i hi
  by_cases q : manOkM nf n w sd rk = true
  · rw [if_pos q] at hi ⊢
    unfold upd
    by_cases e : i = n
    · rw [if_pos e]
      unfold manOkM at q
      obtain ⟨-, -, -, h1, h2, -⟩ := of_decide_eq_true q
      exact inB_vp (n := 4) 4 (inB_and.mpr ⟨h1, h2⟩) (Nat.le_refl _) (by decide)
    · rw [if_neg e]; exact h i (by omega)
  · rw [if_neg q] at hi ⊢; exact h i hi
theorem man_n {nf : Nat → Int64} {n : Nat} {w : Int64} {sd rk : Int32} (h : n ≤ 12) : (if manOkM nf n w sd rk then n + 1 else n) ≤ 12 ∧ n ≤ (if manOkM nf n w sd rk then n + 1 else n) := by
  by_cases q : manOkM nf n w sd rk = true
  · rw [if_pos q]
    unfold manOkM at q
    obtain ⟨-, -, -, -, -, -, h2⟩ := of_decide_eq_true q
    omega
  · rw [if_neg q]; omega
theorem feed_u {u : Nat} (h : u ≤ 300) : (if u + 20 ≤ 300 then u + 20 else u) ≤ 300 := by split <;> omega
theorem feed_t {u : Nat} {bf tf : Nat → Int32} {a b c d e : Int32} (h : tpR bf tf) : tpR (if u + 20 ≤ 300 then app4 (app4 (app4 (app4 (app4 bf u a) (u + 4) b) (u + 8) c) (u + 12) d) (u + 16) e else bf) (if u + 20 ≤ 300 then fd20 tf u a b c d e else tf) := by
  split
  · exact tpR_20 h u a b c d e
  · exact h
theorem cut_u {u : Nat} {p : Int32} (h : u ≤ 300) : cutT u p ≤ 300 := by
  unfold cutT
  by_cases q : cutOk u p = true
  · rw [if_pos q]
    unfold cutOk at q
    obtain ⟨h1, h2⟩ := of_decide_eq_true q
    obtain ⟨j, hj, rfl⟩ := nI_of h1
    rw [nI_clamp hj]
    have := (nI_leI hj (by omega)).mp h2
    omega
  · rw [if_neg q]; exact h
theorem come_c {mn d x p : Int32} {c : Nat} (h : c ≤ 60) : (if comeM mn d x c p then c + 1 else c) ≤ 60 := by
  by_cases q : comeM mn d x c p = true
  · rw [if_pos q]
    unfold comeM at q
    obtain ⟨-, -, -, -, h2⟩ := of_decide_eq_true q
    omega
  · rw [if_neg q]; exact h
theorem debt_c {mn a b g x d : Int32} {c : Nat} (h : c ≤ 60) : (if dbtM mn a b g x d c then c + 1 else c) ≤ 60 := by
  by_cases q : dbtM mn a b g x d c = true
  · rw [if_pos q]
    unfold dbtM at q
    obtain ⟨-, -, -, -, -, -, -, -, h2⟩ := of_decide_eq_true q
    omega
  · rw [if_neg q]; exact h
theorem debt_R {n c : Nat} {bB bT bG bF : Nat → Int32} {a b g x d : Int32} (hn : n ≤ 12) (hc : c ≤ 60) (h : dbR n c bB bT bG bF) : dbR n (if dbtM (nI n) a b g x d c then c + 1 else c) (if dbtM (nI n) a b g x d c then upd bB c a else bB) (if dbtM (nI n) a b g x d c then upd bT c b else bT) (if dbtM (nI n) a b g x d c then upd bG c g else bG) (if dbtM (nI n) a b g x d c then upd bF c d else bF) := by
  by_cases q : dbtM (nI n) a b g x d c = true
  · simp only [q, if_true]
    exact dbR_add hn h (by rw [dbt_eq hc]; exact q)
  · simp only [q, if_false]
    exact h
theorem debt_P {c : Nat} {bP pdf : Nat → Int32} {k : Bool} (h : pdR c bP pdf) : pdR (if k then c + 1 else c) (if k then upd bP c 3600 else bP) (if k then upd pdf c (-1) else pdf) := by
  cases k with
  | true => exact pdR_add h
  | false => exact h
theorem pay_P {c : Nat} {bF bP pdf : Nat → Int32} {x d : Int32} (hc : c ≤ 60) (h : pdR c bP pdf) : pdR c (if inB d 3600 = true ∧ payOk c bF bP x d = true then upd bP x.toNatClampNeg d else bP) (if payM1 c pdf bF x d then upd pdf x.toNatClampNeg d else pdf) := by
  by_cases q : inB d 3600 = true ∧ payOk c bF bP x d = true
  · rw [if_pos q, if_pos ((pay_iff hc h x d).mp q)]; exact pdR_pay hc h q
  · rw [if_neg q, if_neg (fun z => q ((pay_iff hc h x d).mpr z))]; exact h
theorem worth_f (wf : Nat → Int32) (a b x : Int32) : (if inB a 5 = true ∧ inB b 10 = true ∧ rg x 0 1000 = true then upd wf (a * 10 + b).toNatClampNeg x else wf) = (if wthM a b x then upd wf (10 * a + b).toNatClampNeg x else wf) := by
  rw [wix]
  by_cases q : inB a 5 = true ∧ inB b 10 = true ∧ rg x 0 1000 = true
  · rw [if_pos q, if_pos ((wth_iff a b x).mp q)]
  · rw [if_neg q, if_neg (fun z => q ((wth_iff a b x).mpr z))]
theorem later_d {dt p : Int32} (h : 0 ≤ dt ∧ dt ≤ 100000) : 0 ≤ (if ltOk dt p then dt + p else dt) ∧ (if ltOk dt p then dt + p else dt) ≤ 100000 := by
  by_cases q : ltOk dt p = true
  · rw [if_pos q]; exact later_ok h q
  · rw [if_neg q]; exact h
theorem gv_all {g : Gx} {K : AR} {fs : List FR} {lm ld ls lw sy hg fd gv : Nat → Int32} {dt p : Int32} (hl : fs.length ≤ 40) (hK : okA g K (fad fs)) (hf : ∀ r ∈ fs, fok g r) (hd : 0 ≤ dt) (hR : FlR fs lm ld ls lw sy hg fd gv) {fs2 : List FR} (he : fs2 = if inB p (nI fs.length) = true ∧ guA fs p.toNatClampNeg = 0 then gvF fs p.toNatClampNeg dt else fs) :
    fs2.length = fs.length ∧ okA g K (fad fs2) ∧ (∀ r ∈ fs2, fok g r) ∧ FlR fs2 lm ld ls lw sy hg fd (if gvOk fs.length gv p then upd gv p.toNatClampNeg dt else gv) := by
  by_cases q : inB p (nI fs.length) = true ∧ guA fs p.toNatClampNeg = 0
  · rw [if_pos q] at he
    rw [if_pos ((gv_iff hl hR p).mp q), he]
    exact ⟨gvF_len _ _ _, by rw [gvF_fad]; exact hK, gvF_fok _ _ _ hf, FlR_gv hd hR⟩
  · rw [if_neg q] at he
    rw [if_neg (fun z => q ((gv_iff hl hR p).mpr z)), he]
    exact ⟨rfl, hK, hf, hR⟩
theorem few_if {bf tf gf mf ff pf pm wf sm ms smf grf : Nat → Int32} {d : Int32} {c n : Nat} (hn : n ≤ 12) (hp : pdR c pf pm) (hd : dbR n c bf tf gf ff) (h0 : ms 0 = 0) :
    (if inB d 3600 = true then payV (pyl (bal bf tf gf mf ff pf wf d c 0 (fun _ => 0)) 12 0 0 sm).1 (pyl (bal bf tf gf mf ff pf wf d c 0 (fun _ => 0)) 12 0 0 sm).2 ms else (-1)) =
    (if inB d 3600 = true then nI (smA (fun i => balO bf tf gf mf ff pm wf (nI i) d c 0 0) n 0 0 smf).1 - grL (smA (fun i => balO bf tf gf mf ff pm wf (nI i) d c 0 0) n 0 0 smf).2 (smA (fun i => balO bf tf gf mf ff pm wf (nI i) d c 0 0) n 0 0 smf).1 (2 ^ (smA (fun i => balO bf tf gf mf ff pm wf (nI i) d c 0 0) n 0 0 smf).1 - 1) 1 (upd grf 0 0) (2 ^ (smA (fun i => balO bf tf gf mf ff pm wf (nI i) d c 0 0) n 0 0 smf).1 - 1) else (-1)) := by
  by_cases q : inB d 3600 = true
  · rw [if_pos q, if_pos q]
    exact few_eq hn hp (fun i hi => ⟨(hd i hi).1, (hd i hi).2.1, (hd i hi).2.2.1⟩) h0 (d36 q).2 rfl
  · rw [if_neg q, if_neg q]
