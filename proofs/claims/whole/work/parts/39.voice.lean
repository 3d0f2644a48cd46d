/-! A BIRD TAKEN INTO THE VOICE; A NUMBER LAID AS A PIE -/
def Vc (h : Nat) (c : fkS) (kd hN : Nat) (a mo : Int32) : Prop := gI c 120 h = nI kd ∧ gI c 121 h = a ∧ gI c 122 h = mo ∧ gI c 123 h = nI hN
def Bv (c m : fkS) (b kd hN : Nat) (a mo : Int32) : Prop := b < 7 ∧ kd < 7 ∧ hN < 10 ∧ rg a 10 ∧ rg mo 20 ∧ (gA c 22 b = nI kd ∧ gA c 25 b = a ∧ gA c 28 b = mo ∧ gI c 5 19 = nI hN) ∧ gA m 1 b = nI kd ∧ gA m 2 b = a ∧ gA m 3 b = mo ∧ gA m 4 0 = nI hN
theorem RelN.bv {c m : fkS} {nb b : Nat} (h : RelN c m nb) (hb : b < nb) : ∃ kd hN a mo, Bv c m b kd hN a mo := by
  obtain ⟨⟨hnb, a2, a3, a4, a5, a6⟩, ⟨b1, b2, b3, b4⟩, -⟩ := h
  have hb7 : b < 7 := by omega
  obtain ⟨kd, hkd, ek⟩ := (a4 b hb7).2
  obtain ⟨hN, hhN, eh⟩ := b2.2
  exact ⟨kd, hN, gA c 25 b, gA c 28 b, hb7, hkd, hhN, (a5 b hb7).2, (a6 b hb7).2, ⟨ek, rfl, rfl, eh⟩, by rw [← (a4 b hb7).1]; exact ek, ((a5 b hb7).1).symm, ((a6 b hb7).1).symm, by rw [← b2.1]; exact eh⟩
theorem Bv.hb {c m m' : fkS} {b kd hN : Nat} {a mo : Int32} (h : Bv c m b kd hN a mo) (q : EqM m m') : HB m' b kd a mo (nI hN) (gA m' 14) := by
  obtain ⟨-, -, -, -, -, -, h1, h2, h3, h4⟩ := h
  exact ⟨by rw [q.2.1 1 rfl]; exact h1, by rw [q.2.1 2 rfl]; exact h2, by rw [q.2.1 3 rfl]; exact h3, by rw [q.2.1 4 rfl]; exact h4, rfl⟩
theorem take_ok {c m c1 : fkS} {nb b kd hN h : Nat} {a mo : Int32} (hh : h = 40 ∨ h = 41) (hR : RelN c m nb) (hb : b < nb) (hB : Bv c m b kd hN a mo) (q : EqC c c1) : ∃ c', F6_take h 19 (nI b) c1 = some ((), c') ∧ KeC h c1 c' ∧ Vc h c' kd hN a mo := by
  obtain ⟨hb7, -, -, -, -, ⟨h1, h2, h3, h4⟩, -⟩ := hB
  refine ⟨sI (sI (sI (sI c1 120 h (gA c1 22 b)) 121 h (gA c1 25 b)) 122 h (gA c1 28 b)) 123 h (gI c1 5 19), ?_, ((((KeC.rf.sI).sI).sI).sI), ?_, ?_, ?_, ?_⟩
  · unfold F6_take
    rw [lacks_in hR.1.1 (show gI c1 0 19 = nI nb by rw [q.1 0 19 rfl]; exact hR.1.2.1) (rg_nI hb), fk_bind_some, if_pos rfl]
    simp (disch := omega) only [fk_chk_in, fk_let_e, nI_clamp]
    rfl
  · rw [gI_nf (by decide), gI_nf (by decide), gI_nf (by decide), gI_same, q.2.1 22 rfl, h1]
  · rw [gI_nf (by decide), gI_nf (by decide), gI_same, q.2.1 25 rfl, h2]
  · rw [gI_nf (by decide), gI_same, q.2.1 28 rfl, h3]
  · rw [gI_same, q.1 5 19 rfl, h4]
theorem speakV {c : fkS} {kd hN n h : Nat} {a mo : Int32} {p : Nat → Int32} (hh : h = 40 ∨ h = 41) (hV : Vc h c kd hN a mo) (hn : n ≤ 8) (hhN : hN < 10) (hkd : kd < 7) (p1 : gI c 61 38 = nI n) (p2 : ∀ i, i < n → gA c 39 i = p i) :
    ∃ c', F6_speak h c = some ((), c') ∧ KeC h c c' ∧ Vc h c' kd hN a mo ∧ gI c' 124 h = nI (sayN kd (min n hN)) ∧ ∀ i, i < sayN kd (min n hN) → gA c' (h + 2) i = sayF kd (min n hN) a (sg (nI hN) mo p) i := by
  obtain ⟨arr, e1, e2⟩ := speak_ok (st := c) hh hn hhN hkd p1 hV.2.2.2 hV.1
  refine ⟨_, e1, KeC.rf.sI.sA, ⟨?_, ?_, ?_, ?_⟩, ?_, ?_⟩
  · rw [gI_sAF, gI_nf (by decide)]; exact hV.1
  · rw [gI_sAF, gI_nf (by decide)]; exact hV.2.1
  · rw [gI_sAF, gI_nf (by decide)]; exact hV.2.2.1
  · rw [gI_sAF, gI_nf (by decide)]; exact hV.2.2.2
  · rw [gI_sAF, gI_same]
  · intro i hi
    rw [gA_same, e2 i hi, hV.2.1, hV.2.2.1]
    refine sayF_eq (fun i hi => ?_) i hi
    unfold sg
    rw [p2 i (by omega)]
/-- what a bird brings of a pie: the state, the ills -/
def endV (m : fkS) (kd hN n : Nat) (a mo : Int32) (p : Nat → Int32) : Int32 := goE (gA m 5) (sayF kd (min n hN) a (sg (nI hN) mo p)) (sayN kd (min n hN)) 0 (gA m 4 1)
def illV (m : fkS) (kd hN n : Nat) (a mo : Int32) (p : Nat → Int32) : Int32 := ilE (gA m 5) (gA m 4 2) (sayF kd (min n hN) a (sg (nI hN) mo p)) (sayN kd (min n hN)) 0 (gA m 4 1) 0
theorem say_rg {kd hN n : Nat} {a mo : Int32} {p : Nat → Int32} (hhN : hN < 10) (ha : rg a 10) (hmo : rg mo 20) (hp : ∀ i, i < n → rg (p i) 10) : ∀ i, i < sayN kd (min n hN) → rg (sayF kd (min n hN) a (sg (nI hN) mo p) i) 20 :=
  sayF_rg ha (fun i hi => sg_rg (rg_nI hhN) hmo (hp i (by omega)))
theorem brgC {c m c1 : fkS} {nb b kd hN n : Nat} {a mo : Int32} {p : Nat → Int32} (hR : RelN c m nb) (hB : Bv c m b kd hN a mo) (q : EqC c c1) (hV : Vc 40 c1 kd hN a mo) (hn : n ≤ 8) (p1 : gI c1 61 38 = nI n) (p2 : ∀ i, i < n → gA c1 39 i = p i) (p3 : ∀ i, i < n → rg (p i) 10) :
    ∃ c', F6_speak 40 c1 = some ((), c') ∧ KeC 40 c1 c' ∧ EqC c c' ∧ Vc 40 c' kd hN a mo ∧ F0_endOf 19 40 (gI c' 6 19) c' = some (endV m kd hN n a mo p, c') ∧ F0_illsOf 19 40 c' = some (illV m kd hN n a mo p, c') := by
  obtain ⟨c', e1, e2, e3, e4, e5⟩ := speakV (Or.inl rfl) hV hn hB.2.2.1 hB.2.1 p1 p2
  have q' : EqC c c' := q.tr (e2.eq (Or.inl rfl))
  obtain ⟨hT, -, hS, hTr⟩ := hR.2.1
  have hs5 : ∀ i, i < sayN kd (min n hN) → gA c' 42 i = sayF kd (min n hN) a (sg (nI hN) mo p) i := e5
  have hr2 : ∀ i, i < sayN kd (min n hN) → rg (gA c' 42 i) 20 := fun i hi => by
    rw [hs5 i hi]
    exact say_rg hB.2.2.1 hB.2.2.2.1 hB.2.2.2.2.1 p3 i hi
  have hT2 : ∀ i, i < 40 → gA c' 31 i = gA m 5 i := fun i hi => by
    rw [q'.2.1 31 rfl]
    exact (hT i hi).1
  have hT3 : ∀ i, i < 40 → rg (gA c' 31 i) 8 := fun i hi => by
    rw [q'.2.1 31 rfl]
    exact (hT i hi).2
  have hs2 : rg (gI c' 6 19) 8 := by
    rw [q'.1 6 19 rfl]
    exact hS.2
  have hK : sayN kd (min n hN) ≤ 16 := sayN_le (by omega)
  refine ⟨c', e1, e2, q', e3, ?_, ?_⟩
  · rw [end_ok hK e4 hr2 hT3 hs2]
    have := (goE_eq (c := sayN kd (min n hN)) hT2 hT3 hs5 hr2 (sayN kd (min n hN)) 0 _ (by omega) hs2).1
    have e12 : gA c' (19 + 12) = gA c' 31 := rfl
    have e42 : gA c' (40 + 2) = gA c' 42 := rfl
    rw [e12, e42, this, q'.1 6 19 rfl, hS.1]
    rfl
  · rw [ill_ok hK e4 hr2 hT3 hs2]
    have := ilE_eq (tr := gI c' 7 19) (c := sayN kd (min n hN)) hT2 hT3 hs5 hr2 (sayN kd (min n hN)) 0 _ 0 (by omega) hs2
    have e12 : gA c' (19 + 12) = gA c' 31 := rfl
    have e42 : gA c' (40 + 2) = gA c' 42 := rfl
    rw [e12, e42, this, q'.1 6 19 rfl, hS.1, q'.1 7 19 rfl, hTr]
    rfl
theorem brgM {c m m1 : fkS} {nb b kd hN n : Nat} {a mo : Int32} {p : Nat → Int32} (hR : RelN c m nb) (hB : Bv c m b kd hN a mo) (q : EqM m m1) (hn : n ≤ 8) (p1 : gI m1 22 0 = nI n) (p2 : ∀ i, i < n → gA m1 14 i = p i) (p3 : ∀ i, i < n → rg (p i) 10) :
    ∃ m', F8_goes (nI b) (gA m1 4 1) m1 = some ((), m') ∧ KeM m1 m' ∧ EqM m m' ∧ gI m' 26 0 = endV m kd hN n a mo p ∧ gI m' 27 0 = illV m kd hN n a mo p := by
  obtain ⟨hT, -, hS, hTr⟩ := hR.2.1
  have e4 : gA m1 4 = gA m 4 := q.2.1 4 rfl
  have e5 : gA m1 5 = gA m 5 := q.2.1 5 rfl
  have hp : ∀ i, i < n → rg (gA m1 14 i) 10 := fun i hi => by
    rw [p2 i hi]
    exact p3 i hi
  have h3 : ∀ i, i < 40 → rg (gA m 5 i) 8 := fun i hi => by
    rw [← (hT i hi).1]
    exact (hT i hi).2
  have hs : rg (gA m 4 1) 8 := by
    rw [← hS.1]
    exact hS.2
  have hsg : ∀ i, i < min n hN → sg (nI hN) mo (gA m1 14) i = sg (nI hN) mo p i := fun i hi => by
    unfold sg
    rw [p2 i (by omega)]
  have hrg := say_rg (kd := kd) (n := n) hB.2.2.1 hB.2.2.2.1 hB.2.2.2.2.1 hp
  obtain ⟨arr, e1, e2⟩ := goes_ok (s := gA m1 4 1) (tb := gA m 5) (tr := gA m 4 2) hB.1 hn hB.2.2.1 hB.2.1 (hB.hb q) p1 hB.2.2.2.1 hB.2.2.2.2.1 hp e5 h3 (by rw [e4]) (by rw [e4]; exact hs)
  refine ⟨_, e1, (((KeM.rf.sI (Or.inl rfl)).sA.sI (Or.inr (Or.inl rfl))).sI (Or.inr (Or.inr rfl))), q.tr (KeM.eq (((KeM.rf.sI (Or.inl rfl)).sA.sI (Or.inr (Or.inl rfl))).sI (Or.inr (Or.inr rfl)))), ?_, ?_⟩
  · rw [gI_nf (by decide), gI_same, e4]
    exact (goE_eq (c := sayN kd (min n hN)) (fun i hi => rfl) h3 (sayF_eq hsg) hrg _ 0 _ (by omega) hs).1
  · rw [gI_same, e4]
    exact ilE_eq (c := sayN kd (min n hN)) (fun i hi => rfl) h3 (sayF_eq hsg) hrg _ 0 _ 0 (by omega) hs
/-- the digits of a number over the first places -/
def dg (j v : Nat) (old : Nat → Int32) : Nat → Int32 := fun i => if i < j then nI (v / 10 ^ (j - 1 - i) % 10) else old i
theorem dg_0 {v : Nat} {f : Nat → Int32} : dg 0 v f = f := by
  funext i
  unfold dg
  rw [if_neg (by omega)]
theorem dg_s {j v : Nat} {f : Nat → Int32} : dg j (v / 10) (upd f j (nI (v % 10))) = dg (j + 1) v f := by
  funext i
  unfold dg upd
  by_cases q : i < j
  · rw [if_pos q, if_pos (by omega), Nat.div_div_eq_div_mul, show j + 1 - 1 - i = (j - 1 - i) + 1 by omega, Nat.pow_succ, Nat.mul_comm]
  · rw [if_neg q]
    by_cases q2 : i = j
    · subst q2
      rw [if_pos rfl, if_pos (by omega), show i + 1 - 1 - i = 0 by omega, Nat.pow_zero, Nat.div_one]
    · rw [if_neg q2, if_neg (by omega)]
theorem dg_rg {j v i : Nat} {f : Nat → Int32} (h : i < j) : rg (dg j v f i) 10 := by
  unfold dg
  rw [if_pos h]
  exact rg_nI (Nat.mod_lt _ (by decide))
theorem dg_in {j v i : Nat} {f g : Nat → Int32} (h : i < j) : dg j v f i = dg j v g i := by
  unfold dg
  rw [if_pos h, if_pos h]
theorem nI_m (k : Nat) : nI (k + 1) + (-1 : Int32) = nI k := by
  rw [← nI_1, Int32.add_assoc, show (1 : Int32) + -1 = 0 by decide, Int32.add_zero]
theorem setNum_loop : ∀ (j v fu : Nat) (st : fkS), j ≤ 8 → j < fu → v < 2 ^ 31 → fk_lp2 B3_setByNumber_27 fu (nI v) (nI j - 1) st = some ((), sAF st 39 (dg j v (gA st 39))) := by
  intro j
  induction j with
  | zero =>
    intro v fu st hj hf hv
    obtain ⟨w, rfl⟩ : ∃ w, fu = w + 1 := ⟨fu - 1, by omega⟩
    rw [fk_lp2_s, B3_setByNumber_27, if_pos (show nI 0 - 1 < 0 by decide), dg_0, sAF_self]
  | succ j ih =>
    intro v fu st hj hf hv
    obtain ⟨w, rfl⟩ : ∃ w, fu = w + 1 := ⟨fu - 1, by omega⟩
    rw [fk_lp2_s, B3_setByNumber_27, nI_pred, if_neg (nI_pos (by omega)), fk_chk_in (by omega) (by decide), fk_let_e, nI_clamp (by omega), zl10, fk_rem_nI hv (by decide) (by decide), pk_div hv (by decide) (by decide), show nI j + (-1 : Int32) = nI j - 1 from (Int32.sub_eq_add_neg _ _).symm, ih (v / 10) w _ (by omega) (by omega) (by omega), sA_def, sAF_sAF, gA_same, dg_s]
theorem setNum_ok {n v : Nat} {st : fkS} (hn : n ≤ 8) (hv : v < 2 ^ 31) : F3_setByNumber (nI n) (nI v) st = some ((), sAF (sI st 61 38 (nI n)) 39 (dg n v (gA st 39))) := by
  unfold F3_setByNumber
  rw [show fk_max (0 : Int32) (fk_min (nI n) 8) = nI n by rw [zl8, fk_min_nI (by omega) (by decide), show min n 8 = n by omega]; exact fk_max0 (by omega), fk_let_e, fk_let_e, gI_same, setNum_loop n v fk_fuel _ hn (by unfold fk_fuel; omega) hv]
  rfl
theorem lays_loop : ∀ (j v fu : Nat) (st : fkS), j ≤ 8 → j < fu → v < 2 ^ 31 → fk_lp2 B8_lays_12 fu (nI v) (nI j - 1) st = some ((), sAF st 14 (dg j v (gA st 14))) := by
  intro j
  induction j with
  | zero =>
    intro v fu st hj hf hv
    obtain ⟨w, rfl⟩ : ∃ w, fu = w + 1 := ⟨fu - 1, by omega⟩
    rw [fk_lp2_s, B8_lays_12, if_pos (show nI 0 - 1 < 0 by decide), dg_0, sAF_self]
  | succ j ih =>
    intro v fu st hj hf hv
    obtain ⟨w, rfl⟩ : ∃ w, fu = w + 1 := ⟨fu - 1, by omega⟩
    rw [fk_lp2_s, B8_lays_12, nI_pred, if_neg (nI_pos (by omega)), fk_chk_in (by omega) (by decide), fk_let_e, nI_clamp (by omega), zl10, fk_rem_nI hv (by decide) (by decide), pk_div hv (by decide) (by decide), show nI j + (-1 : Int32) = nI j - 1 from (Int32.sub_eq_add_neg _ _).symm, ih (v / 10) w _ (by omega) (by omega) (by omega), sA_def, sAF_sAF, gA_same, dg_s]
theorem lays_ok {n v : Nat} {st : fkS} (hn : n ≤ 8) (hv : v < 2 ^ 31) : F8_lays (nI n) (nI v) st = some ((), sAF (sI st 22 0 (nI n)) 14 (dg n v (gA st 14))) := by
  unfold F8_lays
  rw [fk_let_e, lays_loop n v fk_fuel _ hn (by unfold fk_fuel; omega) hv]
  rfl
