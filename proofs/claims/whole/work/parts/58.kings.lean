/-! kings -/
theorem ilE_rg {tb : Nat → Int32} {tr : Int32} {f : Nat → Int32} : ∀ (d j : Nat) (s : Int32) (n : Nat), ∃ k, k ≤ n + d ∧ ilE tb tr f d j s (nI n) = nI k := by
  intro d
  induction d with
  | zero => intro j s n; exact ⟨n, Nat.le_refl _, rfl⟩
  | succ d ih =>
    intro j s n
    unfold ilE
    rcases bit01 tr (tb ((s * 5) + fk_rem (f j) 5).toNatClampNeg) with hz | hz
    · rw [hz, Int32.add_zero]
      obtain ⟨k, h1, h2⟩ := ih (j + 1) (tb ((s * 5) + fk_rem (f j) 5).toNatClampNeg) n
      exact ⟨k, by omega, h2⟩
    · rw [hz, nI_1]
      obtain ⟨k, h1, h2⟩ := ih (j + 1) (tb ((s * 5) + fk_rem (f j) 5).toNatClampNeg) (n + 1)
      exact ⟨k, by omega, h2⟩
theorem illV_rg {m : fkS} {kd hN n : Nat} {a mo : Int32} {p : Nat → Int32} (hn : n ≤ 8) : ∃ k, k ≤ 16 ∧ illV m kd hN n a mo p = nI k := by
  unfold illV
  obtain ⟨k, h1, h2⟩ := ilE_rg (tb := gA m 5) (tr := gA m 4 2) (f := sayF kd (min n hN) a (sg (nI hN) mo p)) (sayN kd (min n hN)) 0 (gA m 4 1) 0
  have := sayN_le (kd := kd) (m := min n hN) (by omega)
  exact ⟨k, by omega, h2⟩
def mnF (L : Nat → Int32) : Nat → Nat → Int32 → Int32
  | 0, _, v => v
  | d + 1, j, v => mnF L d (j + 1) (fk_min v (L j))
def mnC (L : Nat → Int32) : Nat → Nat → Int32 → Int32
  | 0, _, v => v
  | d + 1, j, v => mnC L d (j + 1) (if v = (-1 : Int32) then L j else fk_min v (L j))
theorem few_if {k : Int32 → Int32 → fkS → Option (Int32 × fkS)} {v w x : Int32} {st : fkS} : (if v = (-1 : Int32) then B7_fewestIllsByLast_64 k w x st else B7_fewestIllsByLast_64 k w (fk_min v x) st) = k (if v = (-1 : Int32) then x else fk_min v x) (w + 1) st := by
  by_cases q : v = (-1 : Int32)
  · rw [if_pos q, if_pos q, B7_fewestIllsByLast_64]
  · rw [if_neg q, if_neg q, B7_fewestIllsByLast_64]
theorem setLast_ok {n : Nat} {v : Int32} {st : fkS} (h0 : 0 < n) (hn : n ≤ 8) (h : gI st 61 38 = nI n) : F3_setLayer (nI n - 1) v st = some ((), sAF st 39 (upd (gA st 39) (n - 1) v)) := by
  rw [zl1, pk_sub (by omega), setLay_ok (n := n) (by omega) hn h, sA_def]
def lastP (p : Nat → Int32) (n t : Nat) : Nat → Int32 := upd p (n - 1) (nI t)
theorem lastP_rg {p : Nat → Int32} {n t : Nat} (h : ∀ i, i < n → rg (p i) 10) (ht : t < 10) : ∀ i, i < n → rg (lastP p n t i) 10 := by
  intro i hi
  unfold lastP upd
  by_cases q : i = n - 1
  · rw [if_pos q]
    exact rg_nI ht
  · rw [if_neg q]
    exact h i hi
theorem lastP_eq {p f : Nat → Int32} {n t : Nat} (h : ∀ i, i + 1 < n → f i = p i) : ∀ i, i < n → upd f (n - 1) (nI t) i = lastP p n t i := by
  intro i hi
  unfold lastP upd
  by_cases q : i = n - 1
  · rw [if_pos q, if_pos q]
  · rw [if_neg q, if_neg q]
    exact h i (by omega)
theorem fewC {c m : fkS} {nb kd H n : Nat} {a mo : Int32} {p : Nat → Int32} (hR : RelN c m nb) (hkd : kd < 7) (hH : H < 10) (ha : rg a 10) (hmo : rg mo 20) (h0 : 0 < n) (hn : n ≤ 8) (p3 : ∀ i, i < n → rg (p i) 10) :
    ∀ (d j fu : Nat) (v : Int32) (c1 : fkS), j + d = 10 → d < fu → EqC c c1 → Vc 40 c1 kd H a mo → gI c1 61 38 = nI n → (∀ i, i + 1 < n → gA c1 39 i = p i) →
    ∃ c', fk_lp2 B7_fewestIllsByLast_4 fu v (nI j) c1 = some (mnC (fun t => illV m kd H n a mo (lastP p n t)) d j v, c') ∧ EqC c c' ∧ Vc 40 c' kd H a mo ∧ gI c' 61 38 = nI n ∧ ∀ i, i + 1 < n → gA c' 39 i = p i := by
  intro d
  induction d with
  | zero =>
    intro j fu v c1 hj hf hC hV g1 g2
    obtain ⟨w, rfl⟩ : ∃ w, fu = w + 1 := ⟨fu - 1, by omega⟩
    obtain rfl : j = 10 := by omega
    rw [fk_lp2_s, B7_fewestIllsByLast_4, if_pos (show (10 : Int32) ≤ nI 10 by decide)]
    exact ⟨c1, rfl, hC, hV, g1, g2⟩
  | succ d ih =>
    intro j fu v c1 hj hf hC hV g1 g2
    obtain ⟨w, rfl⟩ : ∃ w, fu = w + 1 := ⟨fu - 1, by omega⟩
    have q1 : ¬ (10 : Int32) ≤ nI j := by
      rw [show (10 : Int32) = nI 10 from rfl, nI_leI (by decide) (by omega)]
      omega
    obtain ⟨c', s1, s2, s3, s4, s5⟩ := illC (p := lastP p n j) (c1 := sAF c1 39 (upd (gA c1 39) (n - 1) (nI j))) hR hkd hH ha hmo (hC.sA rfl) hV hn (by rw [gI_sAF]; exact g1) (fun i hi => by rw [gA_same]; exact lastP_eq g2 i hi) (lastP_rg p3 (by omega))
    rw [fk_lp2_s, B7_fewestIllsByLast_4, if_neg q1, fk_let_e, g1, setLast_ok h0 hn g1, fk_bind_some, s1, fk_bind_some, s5, fk_bind_some, few_if, nI_1]
    refine ih (j + 1) w _ c' (by omega) (by omega) s3 s4 ?_ (fun i hi => ?_)
    · rw [s2.1 61 38 (by decide), gI_sAF]
      exact g1
    · rw [s2.2.1 39 (by decide), gA_same, upd_ne (by omega)]
      exact g2 i hi
theorem fewM {c m : fkS} {nb b kd0 hN0 kd H n : Nat} {a mo : Int32} {p : Nat → Int32} (hR : RelN c m nb) (hB : Bv c m b kd hN0 a mo) (hH : H < 10) (h0 : 0 < n) (hn : n ≤ 8) (p3 : ∀ i, i < n → rg (p i) 10) :
    ∀ (d j fu : Nat) (v : Int32) (m1 : fkS), j + d = 10 → d < fu → EqX 4 0 m m1 → gA m1 4 0 = nI H → gI m1 22 0 = nI n → (∀ i, i + 1 < n → gA m1 14 i = p i) →
    ∃ m', fk_lp3 B8_fewestIlls_5 fu (nI b) v (nI j) m1 = some (mnF (fun t => illV m kd H n a mo (lastP p n t)) d j v, m') ∧ EqX 4 0 m m' ∧ gA m' 4 0 = nI H ∧ gI m' 22 0 = nI n ∧ ∀ i, i + 1 < n → gA m' 14 i = p i := by
  obtain ⟨hb7, hkd, hhN, ha, hmo, -, j1, j2, j3, j4⟩ := id hB
  intro d
  induction d with
  | zero =>
    intro j fu v m1 hj hf hX x4 g1 g2
    obtain ⟨w, rfl⟩ : ∃ w, fu = w + 1 := ⟨fu - 1, by omega⟩
    obtain rfl : j = 10 := by omega
    rw [fk_lp3_s, B8_fewestIlls_5, if_pos (show (10 : Int32) ≤ nI 10 by decide)]
    exact ⟨m1, rfl, hX, x4, g1, g2⟩
  | succ d ih =>
    intro j fu v m1 hj hf hX x4 g1 g2
    obtain ⟨w, rfl⟩ : ∃ w, fu = w + 1 := ⟨fu - 1, by omega⟩
    have q1 : ¬ (10 : Int32) ≤ nI j := by
      rw [show (10 : Int32) = nI 10 from rfl, nI_leI (by decide) (by omega)]
      omega
    have hX2 : EqX 4 0 m (sAF m1 14 (upd (gA m1 14) (n - 1) (nI j))) := hX.sA rfl rfl
    have hHB : HB (sAF m1 14 (upd (gA m1 14) (n - 1) (nI j))) b kd a mo (nI H) (gA (sAF m1 14 (upd (gA m1 14) (n - 1) (nI j))) 14) := ⟨by rw [hX2.2.1 1 rfl (by decide)]; exact j1, by rw [hX2.2.1 2 rfl (by decide)]; exact j2, by rw [hX2.2.1 3 rfl (by decide)]; exact j3, by rw [gA_ne (by decide)]; exact x4, rfl⟩
    obtain ⟨m', u1, u2, u3, u4⟩ := illX (p := lastP p n j) hR hb7 hkd hH ha hmo hHB (hX2.2.1 5 rfl (by decide)) (hX2.2.2.1 1 (by decide)) (hX2.2.2.1 2 (by decide)) hn (by rw [gI_sAF]; exact g1) (fun i hi => by rw [gA_same]; exact lastP_eq g2 i hi) (lastP_rg p3 (by omega))
    rw [fk_lp3_s, B8_fewestIlls_5, if_neg q1, fk_let_e, g1, zl1, pk_sub (by omega), fk_chk_in (by omega) (by decide), fk_let_e, nI_clamp (by omega), sA_def, fk_chk_in (by decide) (by decide), fk_let_e, nI_clamp (by decide), u1, fk_bind_some, fk_let_e, u4, ← zl1, nI_1]
    refine ih (j + 1) w _ m' (by omega) (by omega) (hX2.ke u2 (by decide)) ?_ ?_ (fun i hi => ?_)
    · rw [u2.2.1 4 (by decide), gA_ne (by decide)]
      exact x4
    · rw [u2.1 22 0 (by decide) (by decide) (by decide), gI_sAF]
      exact g1
    · rw [u2.2.1 14 (by decide), gA_same, upd_ne (by omega)]
      exact g2 i hi
theorem mnC_go {L : Nat → Int32} (hL : ∀ j, ∃ k, k ≤ 16 ∧ L j = nI k) : ∀ (d j k : Nat), k ≤ 16 → mnC L d j (nI k) = mnF L d j (nI k) := by
  intro d
  induction d with
  | zero => intro j k _; rfl
  | succ d ih =>
    intro j k hk
    obtain ⟨q, hq, eq⟩ := hL j
    have hn : ¬ nI k = (-1 : Int32) := by
      intro h
      have h1 := congrArg Int32.toInt h
      rw [nI_toInt (by omega), show (-1 : Int32).toInt = -1 from rfl] at h1
      omega
    have e1 : mnC L (d + 1) j (nI k) = mnC L d (j + 1) (if nI k = (-1 : Int32) then L j else fk_min (nI k) (L j)) := rfl
    have e2 : mnF L (d + 1) j (nI k) = mnF L d (j + 1) (fk_min (nI k) (L j)) := rfl
    rw [e1, e2, if_neg hn, eq, fk_min_nI (by omega) (by omega)]
    exact ih (j + 1) (min k q) (by omega)
theorem mnC_eq {L : Nat → Int32} (hL : ∀ j, ∃ k, k ≤ 16 ∧ L j = nI k) : mnC L 10 0 (-1) = mnF L 10 0 99 := by
  obtain ⟨k, hk, h⟩ := hL 0
  have e1 : mnC L 10 0 (-1) = mnC L 9 1 (if (-1 : Int32) = (-1 : Int32) then L 0 else fk_min (-1) (L 0)) := rfl
  have e2 : mnF L 10 0 99 = mnF L 9 1 (fk_min 99 (L 0)) := rfl
  rw [e1, e2, if_pos rfl, h, show (99 : Int32) = nI 99 from rfl, fk_min_nI (by decide) (by omega), show min 99 k = k by omega]
  exact mnC_go hL 9 1 k hk
theorem kings_loop {c m : fkS} {nb b kd hN n : Nat} {a mo v3 : Int32} {p : Nat → Int32} (hR : RelN c m nb) (hB : Bv c m b kd hN a mo) (h0 : 0 < n) (hn : n ≤ 8) (p3 : ∀ i, i < n → rg (p i) 10) :
    ∀ (d j fu : Nat) (v5 v6 : Int32) (c1 m1 : fkS), j + d = 10 → d < fu → EqC c c1 → gI c1 120 40 = nI kd → gI c1 121 40 = a → gI c1 122 40 = mo → gI c1 61 38 = nI n → (∀ i, i + 1 < n → gA c1 39 i = p i) → EqX 4 0 m m1 → gI m1 22 0 = nI n → (∀ i, i + 1 < n → gA m1 14 i = p i) →
    ∃ r c' m', fk_lp4 B7_kings_60 fu v3 v5 v6 (nI j) c1 = some (r, c') ∧ fk_lp6 B8_kings_76 fu (nI b) v3 (nI hN) v5 v6 (nI j) m1 = some (r, m') ∧ EqC c c' ∧ EqM m m' := by
  obtain ⟨hb7, hkd, hhN, ha, hmo, -, j1, j2, j3, j4⟩ := id hB
  intro d
  induction d with
  | zero =>
    intro j fu v5 v6 c1 m1 hj hf hC e1 e2 e3 g1 g2 hX x1 x2
    obtain ⟨w, rfl⟩ : ∃ w, fu = w + 1 := ⟨fu - 1, by omega⟩
    obtain rfl : j = 10 := by omega
    rw [fk_lp4_s, fk_lp6_s, B7_kings_60, B8_kings_76, if_pos (show (10 : Int32) ≤ nI 10 by decide), if_pos (show (10 : Int32) ≤ nI 10 by decide), chk0 (by decide) (by decide), fk_let_e, cl0]
    by_cases q : v3 = 0
    · rw [if_pos q, if_pos q]
      exact ⟨v5, c1, _, rfl, rfl, hC, hX.done j4.symm⟩
    · rw [if_neg q, if_neg q]
      exact ⟨v6, c1, _, rfl, rfl, hC, hX.done j4.symm⟩
  | succ d ih =>
    intro j fu v5 v6 c1 m1 hj hf hC e1 e2 e3 g1 g2 hX x1 x2
    obtain ⟨w, rfl⟩ : ∃ w, fu = w + 1 := ⟨fu - 1, by omega⟩
    have q1 : ¬ (10 : Int32) ≤ nI j := by
      rw [show (10 : Int32) = nI 10 from rfl, nI_leI (by decide) (by omega)]
      omega
    have hV : Vc 40 (sI c1 123 40 (nI j)) kd j a mo := ⟨by rw [gI_nf (by decide)]; exact e1, by rw [gI_nf (by decide)]; exact e2, by rw [gI_nf (by decide)]; exact e3, gI_same⟩
    obtain ⟨c', s1, s2, s3, s4, s5⟩ := fewC (p := p) hR hkd (show j < 10 by omega) ha hmo h0 hn p3 10 0 fk_fuel (-1) (sI c1 123 40 (nI j)) (by omega) (by unfold fk_fuel; omega) (hC.sI rfl) hV (by rw [gI_nf (by decide)]; exact g1) g2
    obtain ⟨m', u1, u2, u3, u4, u5⟩ := fewM (kd0 := 0) (hN0 := hN) (p := p) hR hB (show j < 10 by omega) h0 hn p3 10 0 fk_fuel 99 (sA m1 4 0 (nI j)) (by omega) (by unfold fk_fuel; omega) hX.put (by rw [gA_sA, if_pos rfl, upd_same]) x1 (fun i hi => by rw [gA_sA, if_neg (by decide)]; exact x2 i hi)
    rw [mnC_eq (fun t => illV_rg (m := m) (kd := kd) (hN := j) (a := a) (mo := mo) (p := lastP p n t) hn)] at s1
    have eC : F7_fewestIllsByLast (sI c1 123 40 (nI j)) = some (mnF (fun t => illV m kd j n a mo (lastP p n t)) 10 0 99, c') := s1
    have eM : F8_fewestIlls (nI b) (sA m1 4 0 (nI j)) = some (mnF (fun t => illV m kd j n a mo (lastP p n t)) 10 0 99, m') := u1
    rw [fk_lp4_s, fk_lp6_s, B7_kings_60, B8_kings_76, if_neg q1, if_neg q1, fk_let_e, eC, fk_bind_some, chk0 (by decide) (by decide), fk_let_e, cl0, eM, fk_bind_some, B7_kings_97, B7_kings_97, B8_kings_116, B8_kings_116, nI_1]
    generalize mnF (fun t => illV m kd j n a mo (lastP p n t)) 10 0 99 = X
    by_cases q : X ≤ v5
    · rw [if_pos q, if_neg (fun z => lt_iff_nle.mp z q)]
      exact ih (j + 1) w v5 v6 c' m' (by omega) (by omega) s2 s3.1 s3.2.1 s3.2.2.1 s4 s5 u2 u4 u5
    · rw [if_neg q, if_pos (lt_iff_nle.mpr q)]
      exact ih (j + 1) w X (nI j) c' m' (by omega) (by omega) s2 s3.1 s3.2.1 s3.2.2.1 s4 s5 u2 u4 u5
theorem op_kings {c m : fkS} (h : Rel c m) (x b p : Int32) : Op2 (F7_kings x b p c) (F8_kings x b p m) := by
  have h0 := h
  obtain ⟨nb, h⟩ := h
  have k1 : ¬ (1 : Int32) = 0 := by decide
  have k5 : ¬ (-5 : Int32) = 0 := by decide
  have k6 : ¬ (-6 : Int32) = 0 := by decide
  have kr : (0 : Int32) = 0 := rfl
  unfold F7_kings F8_kings B8_kings_52
  rcases pieOf h x b p 1 with ⟨code, hc, e1, e2⟩ | ⟨s, bN, hs, rfl, hb, rfl, hR, e2, e1⟩
  · rw [e1, e2, fk_bind_some, fk_bind_some, if_neg hc.ref.1, if_neg hc.ref.2.1]
    exact refC h0 hc
  · rw [e1, e2, fk_bind_some, if_pos Int32.le_rfl]
    rcases rgQ (x := p) 2 with hp | hp
    rotate_left
    · rw [within2_out hp, fk_bind_some, if_pos kr]
      by_cases q : p < 0
      · rw [if_pos q, fk_bind_some, if_neg k5]
        exact ref5 h0
      · rw [if_neg q, if_neg (fun z => hp (rg2.mpr ⟨q, z⟩)), fk_bind_some, if_neg k5]
        exact ref5 h0
    · have hp' := rg2.mp hp
      rw [within2_in hp, fk_bind_some, if_neg k1, if_neg hp'.1, if_pos hp'.2]
      obtain ⟨r, c', m', t1, t2, t3, t4, t5⟩ := take2 (lo := 0) hs hR
      rw [t1, t2, fk_bind_some, fk_bind_some]
      have hK := h.keep t3 t4
      rcases t5 with rfl | ⟨rfl, n, hn, -, g1, g2, g3⟩
      · rw [if_pos kr, if_pos kr, fk_bind_some, if_neg k6]
        exact ref6 ⟨nb, hK⟩
      · rw [if_neg k1, if_neg k1, fk_bind_some, if_pos kr, fk_let_e, fk_let_e, g1, g2]
        by_cases q : n = 0
        · rw [if_pos (show nI n = 0 by rw [q]; rfl), if_pos (show nI n = 0 by rw [q]; rfl)]
          exact ref6 ⟨nb, hK⟩
        · have qn : ¬ nI n = 0 := by
            rw [zl0, nI_eq (by omega) (by decide)]
            exact q
          rw [if_neg qn, if_neg qn, chk0 (by decide) (by decide), fk_let_e, cl0]
          obtain ⟨kd, hN, a, mo, hB⟩ := hK.bv hb
          obtain ⟨c1, v1, v2, v3⟩ := take_ok (Or.inl rfl) hK hb hB EqC.rf
          have hpm : ∀ i, i < n → rg (gA m' 14 i) 10 := fun i hi => by
            rw [← (g3 i hi).1]
            exact rg10 (g3 i hi).2.1 (g3 i hi).2.2
          obtain ⟨r, c2, m2, o1, o2, o3, o4⟩ := kings_loop (v3 := p) (p := gA m' 14) hK hB (by omega) hn hpm 10 0 fk_fuel (-1) 0 c1 m' (by omega) (by unfold fk_fuel; omega) (v2.eq (Or.inl rfl)) v3.1 v3.2.1 v3.2.2.1 (by rw [v2.1 61 38 (by decide)]; exact g1) (fun i hi => by rw [v2.2.1 39 (by decide)]; exact (g3 i (by omega)).1) (EqM.rf.x rfl) g2 (fun _ _ => rfl)
          rw [v1, fk_bind_some, hB.2.2.2.2.2.2.2.2.2, show fk_lp4 B7_kings_60 fk_fuel p (-1) 0 0 c1 = _ from o1, show fk_lp6 B8_kings_76 fk_fuel (nI bN) p (nI hN) (-1) 0 0 m' = _ from o2]
          exact Op2.mk ⟨nb, hK.keep o3 o4⟩
