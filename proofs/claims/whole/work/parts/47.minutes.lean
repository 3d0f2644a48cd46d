/-! minutes -/
theorem illC {c m c1 : fkS} {nb kd hN n : Nat} {a mo : Int32} {p : Nat → Int32} (hR : RelN c m nb) (hkd : kd < 7) (hhN : hN < 10) (ha : rg a 10) (hmo : rg mo 20) (q : EqC c c1) (hV : Vc 40 c1 kd hN a mo) (hn : n ≤ 8) (p1 : gI c1 61 38 = nI n) (p2 : ∀ i, i < n → gA c1 39 i = p i) (p3 : ∀ i, i < n → rg (p i) 10) :
    ∃ c', F6_speak 40 c1 = some ((), c') ∧ KeC 40 c1 c' ∧ EqC c c' ∧ Vc 40 c' kd hN a mo ∧ F0_illsOf 19 40 c' = some (illV m kd hN n a mo p, c') := by
  obtain ⟨c', e1, e2, e3, e4, e5⟩ := speakV (Or.inl rfl) hV hn hhN hkd p1 p2
  have q' : EqC c c' := q.tr (e2.eq (Or.inl rfl))
  obtain ⟨hT, -, hS, hTr⟩ := hR.2.1
  have hs5 : ∀ i, i < sayN kd (min n hN) → gA c' 42 i = sayF kd (min n hN) a (sg (nI hN) mo p) i := e5
  have hr2 : ∀ i, i < sayN kd (min n hN) → rg (gA c' 42 i) 20 := fun i hi => by
    rw [hs5 i hi]
    exact say_rg hhN ha hmo p3 i hi
  have hT2 : ∀ i, i < 40 → gA c' 31 i = gA m 5 i := fun i hi => by
    rw [q'.2.1 31 rfl]
    exact (hT i hi).1
  have hT3 : ∀ i, i < 40 → rg (gA c' 31 i) 8 := fun i hi => by
    rw [q'.2.1 31 rfl]
    exact (hT i hi).2
  have hs2 : rg (gI c' 6 19) 8 := by
    rw [q'.1 6 19 rfl]
    exact hS.2
  have hK : sayN kd (min n hN) ≤ 16 := sayN_le (by omega)
  refine ⟨c', e1, e2, q', e3, ?_⟩
  rw [ill_ok hK e4 hr2 hT3 hs2]
  have := ilE_eq (tr := gI c' 7 19) (c := sayN kd (min n hN)) hT2 hT3 hs5 hr2 (sayN kd (min n hN)) 0 _ 0 (by omega) hs2
  have e12 : gA c' (19 + 12) = gA c' 31 := rfl
  have e42 : gA c' (40 + 2) = gA c' 42 := rfl
  rw [e12, e42, this, q'.1 6 19 rfl, hS.1, q'.1 7 19 rfl, hTr]
  rfl
theorem illX {c m m1 : fkS} {nb b kd hN n : Nat} {a mo : Int32} {p : Nat → Int32} (hR : RelN c m nb) (hb : b < 7) (hkd : kd < 7) (hhN : hN < 10) (ha : rg a 10) (hmo : rg mo 20) (hB : HB m1 b kd a mo (nI hN) (gA m1 14)) (e5 : gA m1 5 = gA m 5) (e41 : gA m1 4 1 = gA m 4 1) (e42 : gA m1 4 2 = gA m 4 2) (hn : n ≤ 8) (p1 : gI m1 22 0 = nI n) (p2 : ∀ i, i < n → gA m1 14 i = p i) (p3 : ∀ i, i < n → rg (p i) 10) :
    ∃ m', F8_goes (nI b) (gA m1 4 1) m1 = some ((), m') ∧ KeM m1 m' ∧ gI m' 26 0 = endV m kd hN n a mo p ∧ gI m' 27 0 = illV m kd hN n a mo p := by
  obtain ⟨hT, -, hS, hTr⟩ := hR.2.1
  have hp : ∀ i, i < n → rg (gA m1 14 i) 10 := fun i hi => by
    rw [p2 i hi]
    exact p3 i hi
  have h3 : ∀ i, i < 40 → rg (gA m 5 i) 8 := fun i hi => by
    rw [← (hT i hi).1]
    exact (hT i hi).2
  have hs : rg (gA m 4 1) 8 := by
    rw [← hS.1]
    exact hS.2
  have hsg : ∀ i, i < min n hN → sg (nI hN) mo (gA m1 14) i = sg (nI hN) mo p i := fun i hi => by
    unfold sg
    rw [p2 i (by omega)]
  have hrg := say_rg (kd := kd) (n := n) hhN ha hmo hp
  obtain ⟨arr, e1, e2⟩ := goes_ok (s := gA m1 4 1) (tb := gA m 5) (tr := gA m 4 2) hb hn hhN hkd hB p1 ha hmo hp e5 h3 e42 (by rw [e41]; exact hs)
  refine ⟨_, e1, (((KeM.rf.sI (Or.inl rfl)).sA.sI (Or.inr (Or.inl rfl))).sI (Or.inr (Or.inr rfl))), ?_, ?_⟩
  · rw [gI_nf (by decide), gI_same, e41]
    exact (goE_eq (c := sayN kd (min n hN)) (fun i hi => rfl) h3 (sayF_eq hsg) hrg _ 0 _ (by omega) hs).1
  · rw [gI_same, e41]
    exact ilE_eq (c := sayN kd (min n hN)) (fun i hi => rfl) h3 (sayF_eq hsg) hrg _ 0 _ 0 (by omega) hs
def noIll (m : fkS) (kd H n : Nat) (a mo : Int32) (p : Nat → Int32) (i : Nat) : Int32 := if illV m kd (H - i) n a mo p = 0 then 1 else 0
theorem min_up {c m : fkS} {nb b kd H n : Nat} {a mo : Int32} {p : Nat → Int32} (hR : RelN c m nb) (hB : Bv c m b kd H a mo) (hn : n ≤ 8) (p3 : ∀ i, i < n → rg (p i) 10) :
    ∀ (d j fu : Nat) (c1 : fkS), j + d = H + 1 → d < fu → EqC c c1 → gI c1 120 40 = nI kd → gI c1 121 40 = a → gI c1 122 40 = mo → gI c1 61 38 = nI n → (∀ i, i < n → gA c1 39 i = p i) →
    ∃ c', fk_lp1 B7_minutes_32 fu (nI j) c1 = some ((match fst (noIll m kd H n a mo p) d j with | some i => nI i | none => -1), c') ∧ EqC c c' := by
  have hH := hB.2.2.1
  intro d
  induction d with
  | zero =>
    intro j fu c1 hj hf hC k1 k2 k3 g1 g2
    obtain ⟨w, rfl⟩ : ∃ w, fu = w + 1 := ⟨fu - 1, by omega⟩
    rw [fk_lp1_s, B7_minutes_32, fk_let_e, hC.1 5 19 rfl, hB.2.2.2.2.2.1.2.2.2, if_pos (by rw [nI_ltI (by omega) (by omega)]; omega)]
    exact ⟨c1, rfl, hC⟩
  | succ d ih =>
    intro j fu c1 hj hf hC k1 k2 k3 g1 g2
    obtain ⟨w, rfl⟩ : ∃ w, fu = w + 1 := ⟨fu - 1, by omega⟩
    have hC2 : EqC c (sI c1 123 40 (nI (H - j))) := hC.sI rfl
    have hV : Vc 40 (sI c1 123 40 (nI (H - j))) kd (H - j) a mo := ⟨by rw [gI_nf (by decide)]; exact k1, by rw [gI_nf (by decide)]; exact k2, by rw [gI_nf (by decide)]; exact k3, gI_same⟩
    obtain ⟨c', s1, s2, s3, s4, s5⟩ := illC (p := p) hR hB.2.1 (show H - j < 10 by omega) hB.2.2.2.1 hB.2.2.2.2.1 hC2 hV hn (by rw [gI_nf (by decide)]; exact g1) g2 p3
    rw [fk_lp1_s, B7_minutes_32, fk_let_e, fk_let_e, hC.1 5 19 rfl, hB.2.2.2.2.2.1.2.2.2, if_neg (by rw [nI_ltI (by omega) (by omega)]; omega), pk_sub (by omega), fk_let_e, s1, fk_bind_some, s5, fk_bind_some, fst_s]
    unfold noIll
    by_cases q : illV m kd (H - j) n a mo p = 0
    · rw [if_pos q, if_pos q, if_neg (by decide)]
      exact ⟨c', rfl, s3⟩
    · rw [if_neg q, if_neg q, if_pos rfl, nI_1]
      exact ih (j + 1) w c' (by omega) (by omega) s3 s4.1 s4.2.1 s4.2.2.1 (by rw [s2.1 61 38 (by decide), gI_nf (by decide)]; exact g1) (fun i hi => by rw [s2.2.1 39 (by decide)]; exact g2 i hi)
theorem fD_s (J : Nat → Int32) (j : Nat) (v : Int32) : fD J (j + 1) v = fD J j (if J j = 0 then v else nI j) := rfl
theorem min_dn {c m : fkS} {nb b kd H n : Nat} {a mo : Int32} {p : Nat → Int32} (hR : RelN c m nb) (hB : Bv c m b kd H a mo) (hn : n ≤ 8) (p3 : ∀ i, i < n → rg (p i) 10) :
    ∀ (j fu : Nat) (v : Int32) (m1 : fkS), j ≤ H + 1 → j < fu → EqX 4 0 m m1 → gI m1 22 0 = nI n → (∀ i, i < n → gA m1 14 i = p i) →
    ∃ m', fk_lp4 B8_minutes_48 fu (nI b) (nI H) v (nI j - 1) m1 = some (fD (noIll m kd H n a mo p) j v, m') ∧ EqM m m' := by
  have hH := hB.2.2.1
  intro j
  induction j with
  | zero =>
    intro fu v m1 hj hf hM g1 g2
    obtain ⟨w, rfl⟩ : ∃ w, fu = w + 1 := ⟨fu - 1, by omega⟩
    rw [fk_lp4_s, B8_minutes_48, if_pos (show nI 0 - 1 < 0 by decide), chk0 (by decide) (by decide), fk_let_e, cl0]
    exact ⟨_, rfl, hM.done hB.2.2.2.2.2.2.2.2.2.symm⟩
  | succ j ih =>
    intro fu v m1 hj hf hM g1 g2
    obtain ⟨w, rfl⟩ : ∃ w, fu = w + 1 := ⟨fu - 1, by omega⟩
    have hM2 : EqX 4 0 m (sA m1 4 0 (nI (H - j))) := hM.put
    obtain ⟨hb7, hkd, hhN, ha, hmo, -, j1, j2, j3, j4⟩ := id hB
    have hHB : HB (sA m1 4 0 (nI (H - j))) b kd a mo (nI (H - j)) (gA (sA m1 4 0 (nI (H - j))) 14) := ⟨by rw [hM2.2.1 1 rfl (by decide)]; exact j1, by rw [hM2.2.1 2 rfl (by decide)]; exact j2, by rw [hM2.2.1 3 rfl (by decide)]; exact j3, by rw [gA_sA, if_pos rfl, upd_same], rfl⟩
    obtain ⟨m', u1, u2, u3, u4⟩ := illX (p := p) hR hb7 hkd (show H - j < 10 by omega) ha hmo hHB (hM2.2.1 5 rfl (by decide)) (hM2.2.2.1 1 (by decide)) (hM2.2.2.1 2 (by decide)) hn g1 (fun i hi => by rw [gA_sA, if_neg (by decide)]; exact g2 i hi) p3
    have hM3 : EqX 4 0 m m' := hM2.ke u2 (by decide)
    have hm1 : nI j + (-1 : Int32) = nI j - 1 := (Int32.sub_eq_add_neg _ _).symm
    have i1 : gI m' 22 0 = nI n := by
      rw [u2.1 22 0 (by decide) (by decide) (by decide)]
      exact g1
    have i2 : ∀ i, i < n → gA m' 14 i = p i := fun i hi => by
      rw [u2.2.1 14 (by decide), gA_sA, if_neg (by decide)]
      exact g2 i hi
    rw [fk_lp4_s, B8_minutes_48, nI_pred, if_neg (nI_pos (by omega)), chk0 (by decide) (by decide), fk_let_e, cl0, pk_sub (by omega), fk_chk_t (show fk_in (1 : Int32) 3 = true by decide), fk_let_e, cl1, u1, fk_bind_some, fk_let_e, u4, fD_s]
    have hq : noIll m kd H n a mo p j = (if illV m kd (H - j) n a mo p = 0 then 1 else 0) := rfl
    rw [hq]
    by_cases q : illV m kd (H - j) n a mo p = 0
    · rw [if_pos q, if_pos q, if_neg (show ¬ (1 : Int32) = 0 by decide), B8_minutes_86, hm1]
      exact ih w (nI j) m' (by omega) (by omega) hM3 i1 i2
    · rw [if_neg q, if_neg q, if_pos rfl, B8_minutes_86, hm1]
      exact ih w v m' (by omega) (by omega) hM3 i1 i2
theorem op_minutes {c m : fkS} (h : Rel c m) (x b : Int32) : Op2 (F7_minutes x b c) (F8_minutes x b m) := by
  have h0 := h
  obtain ⟨nb, h⟩ := h
  have k1 : ¬ (1 : Int32) = 0 := by decide
  have k6 : ¬ (-6 : Int32) = 0 := by decide
  have kr : (0 : Int32) = 0 := rfl
  unfold F7_minutes F8_minutes F7_noPieOf
  rw [bind_id]
  rcases pieOf h x b 0 0 with ⟨code, hc, e1, e2⟩ | ⟨s, bN, hs, rfl, hb, rfl, hR, e2, e1⟩
  · rw [e1, e2, fk_bind_some, fk_bind_some, if_neg hc.ref.1, if_neg hc.ref.2.1]
    exact refFC h0 hc
  · rw [e1, e2, fk_bind_some, if_pos Int32.le_rfl, if_neg (by decide), if_pos Int32.le_rfl]
    obtain ⟨r, c', m', t1, t2, t3, t4, t5⟩ := take2 (lo := 0) hs hR
    rw [t1, t2, fk_bind_some, fk_bind_some]
    have hK := h.keep t3 t4
    rcases t5 with rfl | ⟨rfl, n, hn, -, g1, g2, g3⟩
    · rw [if_pos kr, if_pos kr, fk_bind_some, if_neg k6]
      exact refF6 ⟨nb, hK⟩
    · rw [if_neg k1, if_neg k1, fk_bind_some, if_pos kr]
      obtain ⟨kd, H, a, mo, hB⟩ := hK.bv hb
      obtain ⟨c1, v1, v2, v3⟩ := take_ok (Or.inl rfl) hK hb hB EqC.rf
      have hpm : ∀ i, i < n → rg (gA m' 14 i) 10 := fun i hi => by
        rw [← (g3 i hi).1]
        exact rg10 (g3 i hi).2.1 (g3 i hi).2.2
      have hH := hB.2.2.1
      obtain ⟨c2, s1, s2⟩ := min_up (p := gA m' 14) hK hB hn hpm (H + 1) 0 fk_fuel c1 (by omega) (by unfold fk_fuel; omega) (v2.eq (Or.inl rfl)) v3.1 v3.2.1 v3.2.2.1 (by rw [v2.1 61 38 (by decide)]; exact g1) (fun i hi => by rw [v2.2.1 39 (by decide)]; exact (g3 i hi).1)
      obtain ⟨m2, u1, u2⟩ := min_dn (p := gA m' 14) hK hB hn hpm (H + 1) fk_fuel (-1) m' (by omega) (by unfold fk_fuel; omega) (EqM.rf.x rfl) g2 (fun _ _ => rfl)
      rw [nI_pred] at u1
      rw [v1, fk_bind_some, show fk_lp1 B7_minutes_32 fk_fuel 0 c1 = _ from s1, chk0 (by decide) (by decide), fk_let_e, cl0, hB.2.2.2.2.2.2.2.2.2, u1, fD_eq]
      exact Op2.mk ⟨nb, hK.keep s2 u2⟩
