/-- the tape: class and model -/
theorem nar_b (x : Int32) : vp_nar .byte x = Int8.toInt32 (Int32.toInt8 x) := rfl
theorem b255 (i : Nat) : (255#32).getLsbD i = decide (i < 8) := by
  show Nat.testBit 255 i = _
  rw [show 255 = 2 ^ 8 - 1 from rfl, Nat.testBit_two_pow_sub_one]
theorem and255_ext {a b : BitVec 32} (h : ∀ i, i < 8 → a.getLsbD i = b.getLsbD i) : a &&& 255#32 = b &&& 255#32 := by
  apply BitVec.eq_of_getLsbD_eq
  intro i hi
  rw [BitVec.getLsbD_and, BitVec.getLsbD_and, b255]
  by_cases q : i < 8
  · rw [h i q]
  · simp [q]
theorem byte_and (x : Int32) : Int8.toInt32 (Int32.toInt8 x) &&& 255 = x &&& 255 := by
  apply Int32.toBitVec_inj.mp
  show (x.toBitVec.signExtend 8).signExtend 32 &&& 255#32 = x.toBitVec &&& 255#32
  apply and255_ext
  intro i hi
  rw [BitVec.getLsbD_signExtend, BitVec.getLsbD_signExtend]
  simp [hi, show i < 32 by omega]
theorem bb_and (x : Int32) (s : Int32) : bbM x s &&& 255 = (x >>> (s &&& 31)) &&& 255 := by
  unfold bbM
  rw [nar_b, byte_and, byte_and]
theorem sh_ext (y : BitVec 32) {k : Nat} (hk : k ≤ 24) : (y >>> k) &&& 255#32 = (y.sshiftRight k) &&& 255#32 := by
  apply and255_ext
  intro i hi
  rw [BitVec.getLsbD_ushiftRight, BitVec.getLsbD_sshiftRight]
  simp [show i < 32 by omega, show k + i < 32 by omega]
theorem ib_eq (x : Int32) {s : Int32} (hs : s = 24 ∨ s = 16 ∨ s = 8 ∨ s = 0) : ibyt x s = bbM x s &&& 255 := by
  rw [bb_and]
  unfold ibyt
  apply Int32.toBitVec_inj.mp
  rcases hs with rfl | rfl | rfl | rfl
  · exact sh_ext x.toBitVec (k := 24) (by decide)
  · exact sh_ext x.toBitVec (k := 16) (by decide)
  · exact sh_ext x.toBitVec (k := 8) (by decide)
  · exact sh_ext x.toBitVec (k := 0) (by decide)
/-- the class's bytes are the model's, without sign -/
def tpR (bf tf : Nat → Int32) : Prop := ∀ j, bf j = tf j &&& 255
theorem tpR_upd {bf tf : Nat → Int32} (h : tpR bf tf) (j : Nat) {x y : Int32} (hxy : x = y &&& 255) : tpR (upd bf j x) (upd tf j y) := by
  intro i
  unfold upd
  by_cases q : i = j
  · rw [if_pos q, if_pos q]; exact hxy
  · rw [if_neg q, if_neg q]; exact h i
theorem tpR_4 {bf tf : Nat → Int32} (h : tpR bf tf) (t : Nat) (x : Int32) : tpR (app4 bf t x) (fd4 tf t x) :=
  tpR_upd (tpR_upd (tpR_upd (tpR_upd h t (ib_eq x (by simp))) (t + 1) (ib_eq x (by simp))) (t + 2) (ib_eq x (by simp))) (t + 3) (ib_eq x (by simp))
theorem tpR_20 {bf tf : Nat → Int32} (h : tpR bf tf) (t : Nat) (a b c d e : Int32) : tpR (app4 (app4 (app4 (app4 (app4 bf t a) (t + 4) b) (t + 8) c) (t + 12) d) (t + 16) e) (fd20 tf t a b c d e) :=
  tpR_4 (tpR_4 (tpR_4 (tpR_4 (tpR_4 h t a) (t + 4) b) (t + 8) c) (t + 12) d) (t + 16) e
theorem tpR_ne {bf tf : Nat → Int32} (h : tpR bf tf) (i : Nat) : ¬ bf i = (-1) := by
  rw [h i]
  intro z
  have z := Int32.toBitVec_inj.mpr z
  have z2 : (tf i).toBitVec &&& 255#32 = 4294967295#32 := z
  have := congrArg (fun b : BitVec 32 => b.getLsbD 31) z2
  simp [BitVec.getLsbD_and] at this
theorem tpR_bfM {bf tf xf : Nat → Int32} {u : Nat} (h : tpR bf tf) (hu : u ≤ 300) : ∀ i, i < u → bf i = bfM (cpT tf xf u) u i := by
  intro i hi
  rw [bfM_in hi hu, h i]
  unfold cpT
  rw [if_pos hi, nar_b, byte_and]
/-- debts, class and model -/
def pdR (c : Nat) (pc pm : Nat → Int32) : Prop := ∀ i, i < c → (pc i = 3600 ∧ pm i = (-1)) ∨ (pc i = pm i ∧ 0 ≤ pm i ∧ pm i < 3600)
theorem bal_step {bf tf gf mf ff pf pm wf f : Nat → Int32} {d : Int32} {i m : Nat} (hm : m < 12) (hp : (pf i = 3600 ∧ pm i = (-1)) ∨ (pf i = pm i ∧ 0 ≤ pm i ∧ pm i < 3600)) (hd : d < 3600) (hin : vp_in (bf i) 12 ∧ vp_in (tf i) 12) (hne : ¬ bf i = tf i) :
    balStep bf tf gf mf ff pf wf d i f m = balS bf tf gf mf ff pm wf (nI m) d i (f m) := by
  have hx : ∀ x : Int32, vp_in x 12 → ∃ j, j < 12 ∧ x = nI j := fun x h => by
    unfold vp_in at h
    have h1 : ¬ x < 0 := fun z => h (Or.inl z)
    obtain ⟨j, hj, rfl⟩ := nI_of h1
    refine ⟨j, ?_, rfl⟩
    rw [nI_clamp hj] at h
    exact Nat.not_le.mp (fun z => h (Or.inr z))
  obtain ⟨b, hb, eb⟩ := hx _ hin.1
  obtain ⟨t, ht, et⟩ := hx _ hin.2
  have hbt : ¬ b = t := fun z => hne (by rw [eb, et, z])
  have hds : dsM gf mf ff wf i = dsum gf mf ff wf i := by
    unfold dsM dsum
    rw [Int32.mul_comm 10]
  unfold balStep balS
  rw [hds, eb, et, nI_clamp (by omega), nI_clamp (by omega)]
  have hc : (¬ d < ff i ∧ d < pf i) ↔ (ff i ≤ d ∧ (pm i < 0 ∨ d < pm i)) := by
    rw [Int32.not_lt]
    rcases hp with ⟨p1, p2⟩ | ⟨p1, p2, p3⟩
    · rw [p1, p2]
      simp [hd]
    · rw [p1]
      have : ¬ pm i < 0 := Int32.not_lt.mpr p2
      simp [this]
  by_cases q : ¬ d < ff i ∧ d < pf i
  · rw [if_pos q, if_pos (hc.mp q)]
    have e1 : (nI t = nI m) ↔ t = m := nI_eq (by omega) (by omega)
    have e2 : (nI b = nI m) ↔ b = m := nI_eq (by omega) (by omega)
    simp only [e1, e2, upd]
    by_cases h1 : t = m
    · subst h1
      have h2 : ¬ t = b := fun z => hbt z.symm
      simp [h2]
    · have h1' : ¬ m = t := fun z => h1 z.symm
      by_cases h2 : b = m
      · subst h2
        simp [h1, h1', Int32.sub_eq_add_neg]
      · have h2' : ¬ m = b := fun z => h2 z.symm
        simp [h1, h2, h1', h2']
  · rw [if_neg q, if_neg (fun z => q (hc.mpr z))]
theorem bal_eq {bf tf gf mf ff pf pm wf : Nat → Int32} {d : Int32} {c m : Nat} (hm : m < 12) (hp : pdR c pf pm) (hd : d < 3600) (hin : ∀ i, i < c → vp_in (bf i) 12 ∧ vp_in (tf i) 12 ∧ ¬ bf i = tf i) : ∀ k i (f : Nat → Int32), i + k = c → bal bf tf gf mf ff pf wf d k i f m = balO bf tf gf mf ff pm wf (nI m) d k i (f m)
  | 0, i, f, _ => rfl
  | k + 1, i, f, h => by
    unfold bal balO
    obtain ⟨h1, h2, h3⟩ := hin i (by omega)
    rw [bal_eq hm hp hd hin k (i + 1) _ (by omega), bal_step hm (hp i (by omega)) hd ⟨h1, h2⟩ h3]
