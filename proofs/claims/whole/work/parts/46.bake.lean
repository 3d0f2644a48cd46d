/-! bake, after -/
def endS (m : fkS) (kd hN n : Nat) (a mo : Int32) (p : Nat → Int32) (s : Int32) : Int32 := goE (gA m 5) (sayF kd (min n hN) a (sg (nI hN) mo p)) (sayN kd (min n hN)) 0 s
theorem brgC2 {c m c1 : fkS} {nb b kd hN n : Nat} {a mo : Int32} {p : Nat → Int32} (hR : RelN c m nb) (hB : Bv c m b kd hN a mo) (q : EqC c c1) (hV : Vc 40 c1 kd hN a mo) (hn : n ≤ 8) (p1 : gI c1 61 38 = nI n) (p2 : ∀ i, i < n → gA c1 39 i = p i) (p3 : ∀ i, i < n → rg (p i) 10) :
    ∃ c', F6_speak 40 c1 = some ((), c') ∧ KeC 40 c1 c' ∧ EqC c c' ∧ Vc 40 c' kd hN a mo ∧ F0_illsOf 19 40 c' = some (illV m kd hN n a mo p, c') ∧
      ∀ c2, gI c2 124 40 = gI c' 124 40 → gA c2 42 = gA c' 42 → gA c2 31 = gA c' 31 → ∀ s, rg s 8 → F0_endOf 19 40 s c2 = some (endS m kd hN n a mo p s, c2) ∧ rg (endS m kd hN n a mo p s) 8 := by
  obtain ⟨c', e1, e2, e3, e4, e5⟩ := speakV (Or.inl rfl) hV hn hB.2.2.1 hB.2.1 p1 p2
  have q' : EqC c c' := q.tr (e2.eq (Or.inl rfl))
  obtain ⟨hT, -, hS, hTr⟩ := hR.2.1
  have hs5 : ∀ i, i < sayN kd (min n hN) → gA c' 42 i = sayF kd (min n hN) a (sg (nI hN) mo p) i := e5
  have hr2 : ∀ i, i < sayN kd (min n hN) → rg (gA c' 42 i) 20 := fun i hi => by
    rw [hs5 i hi]
    exact say_rg hB.2.2.1 hB.2.2.2.1 hB.2.2.2.2.1 p3 i hi
  have hT2 : ∀ i, i < 40 → gA c' 31 i = gA m 5 i := fun i hi => by
    rw [q'.2.1 31 rfl]
    exact (hT i hi).1
  have hT3 : ∀ i, i < 40 → rg (gA c' 31 i) 8 := fun i hi => by
    rw [q'.2.1 31 rfl]
    exact (hT i hi).2
  have hs2 : rg (gI c' 6 19) 8 := by
    rw [q'.1 6 19 rfl]
    exact hS.2
  have hK : sayN kd (min n hN) ≤ 16 := sayN_le (by omega)
  refine ⟨c', e1, e2, q', e3, ?_, ?_⟩
  · rw [ill_ok hK e4 hr2 hT3 hs2]
    have := ilE_eq (tr := gI c' 7 19) (c := sayN kd (min n hN)) hT2 hT3 hs5 hr2 (sayN kd (min n hN)) 0 _ 0 (by omega) hs2
    have e12 : gA c' (19 + 12) = gA c' 31 := rfl
    have e42 : gA c' (40 + 2) = gA c' 42 := rfl
    rw [e12, e42, this, q'.1 6 19 rfl, hS.1, q'.1 7 19 rfl, hTr]
    rfl
  · intro c2 w1 w2 w3 s hs
    have hr2' : ∀ i, i < sayN kd (min n hN) → rg (gA c2 (40 + 2) i) 20 := fun i hi => by
      rw [show gA c2 (40 + 2) = gA c' 42 from w2]
      exact hr2 i hi
    have hT3' : ∀ i, i < 40 → rg (gA c2 (19 + 12) i) 8 := fun i hi => by
      rw [show gA c2 (19 + 12) = gA c' 31 from w3]
      exact hT3 i hi
    have := goE_eq (c := sayN kd (min n hN)) hT2 hT3 hs5 hr2 (sayN kd (min n hN)) 0 s (by omega) hs
    have e12 : gA c2 (19 + 12) = gA c' 31 := w3
    have e42 : gA c2 (40 + 2) = gA c' 42 := w2
    rw [end_ok hK (w1.trans e4) hr2' hT3' hs, e12, e42]
    have hr := this.2
    rw [this.1] at hr ⊢
    exact ⟨rfl, hr⟩
theorem brgM2 {c m m1 : fkS} {nb b kd hN n : Nat} {a mo s : Int32} {p : Nat → Int32} (hR : RelN c m nb) (hB : Bv c m b kd hN a mo) (q : EqM m m1) (hs : rg s 8) (hn : n ≤ 8) (p1 : gI m1 22 0 = nI n) (p2 : ∀ i, i < n → gA m1 14 i = p i) (p3 : ∀ i, i < n → rg (p i) 10) :
    ∃ m', F8_goes (nI b) s m1 = some ((), m') ∧ KeM m1 m' ∧ EqM m m' ∧ gI m' 26 0 = endS m kd hN n a mo p s := by
  obtain ⟨hT, -, hS, hTr⟩ := hR.2.1
  have e5 : gA m1 5 = gA m 5 := q.2.1 5 rfl
  have hp : ∀ i, i < n → rg (gA m1 14 i) 10 := fun i hi => by
    rw [p2 i hi]
    exact p3 i hi
  have h3 : ∀ i, i < 40 → rg (gA m 5 i) 8 := fun i hi => by
    rw [← (hT i hi).1]
    exact (hT i hi).2
  have hsg : ∀ i, i < min n hN → sg (nI hN) mo (gA m1 14) i = sg (nI hN) mo p i := fun i hi => by
    unfold sg
    rw [p2 i (by omega)]
  have hrg := say_rg (kd := kd) (n := n) hB.2.2.1 hB.2.2.2.1 hB.2.2.2.2.1 hp
  obtain ⟨arr, e1, e2⟩ := goes_ok (s := s) (tb := gA m 5) (tr := gA m1 4 2) hB.1 hn hB.2.2.1 hB.2.1 (hB.hb q) p1 hB.2.2.2.1 hB.2.2.2.2.1 hp e5 h3 rfl hs
  refine ⟨_, e1, (((KeM.rf.sI (Or.inl rfl)).sA.sI (Or.inr (Or.inl rfl))).sI (Or.inr (Or.inr rfl))), q.tr (KeM.eq (((KeM.rf.sI (Or.inl rfl)).sA.sI (Or.inr (Or.inl rfl))).sI (Or.inr (Or.inr rfl)))), ?_⟩
  rw [gI_nf (by decide), gI_same]
  exact (goE_eq (c := sayN kd (min n hN)) (fun i hi => rfl) h3 (sayF_eq hsg) hrg _ 0 _ (by omega) hs).1
theorem bake2 {c m : fkS} {nb b n : Nat} (h : RelN c m nb) (hb : b < nb) (hn : n ≤ 8) (g1 : gI c 61 38 = nI n) (g2 : gI m 22 0 = nI n) (g3 : ∀ i, i < n → gA c 39 i = gA m 14 i ∧ rg (gA c 39 i) 10) :
    ∃ c' m', F7_bakeInTruth (nI b) c = some ((), c') ∧ F8_bakes (nI b) m = some ((), m') ∧ RelN c' m' nb := by
  obtain ⟨kd, hN, a, mo, hB⟩ := h.bv hb
  obtain ⟨c1, v1, v2, v3⟩ := take_ok (Or.inl rfl) h hb hB EqC.rf
  have hp : ∀ i, i < n → rg (gA m 14 i) 10 := fun i hi => by
    rw [← (g3 i hi).1]
    exact (g3 i hi).2
  obtain ⟨c2, s1, s2, s3, s4, s5, s6⟩ := brgC2 (p := gA m 14) h hB (v2.eq (Or.inl rfl)) v3 hn (by rw [v2.1 61 38 (by decide)]; exact g1) (fun i hi => by rw [v2.2.1 39 (by decide)]; exact (g3 i hi).1) hp
  obtain ⟨m2, u1, u2, u3, u4, u5⟩ := brgM (p := gA m 14) h hB EqM.rf hn g2 (fun _ _ => rfl) hp
  have hF := h.keep s3 u3
  obtain ⟨-, -, hS, -⟩ := hF.2.1
  have hS0 := h.2.1.2.2.1
  obtain ⟨hb8, hs8, -⟩ := hF.2.2.1
  have he := s6 (sI c2 9 19 (gI c2 9 19 + illV m kd hN n a mo (gA m 14))) (by rw [gI_nf (by decide)]) rfl rfl (gI c2 6 19) hS.2
  have hv : endS m kd hN n a mo (gA m 14) (gI c2 6 19) = endV m kd hN n a mo (gA m 14) := by
    rw [s3.1 6 19 rfl, hS0.1]
    rfl
  have hr := he.2
  refine ⟨_, _, ?_, ?_, ((hF.state hr).bakes (v := gI c2 8 19 + 1)).suff (v := gI c2 9 19 + illV m kd hN n a mo (gA m 14))⟩
  · unfold F7_bakeInTruth
    rw [v1, fk_bind_some, s1, fk_bind_some, fk_let_e, s5, fk_bind_some, fk_let_e, fk_let_e, gI_nf (by decide), he.1, fk_bind_some, fk_let_e, fk_let_e, fk_let_e, gI_nf (by decide), gI_nf (by decide), sI_comm (f := 9) (f' := 6) (by decide), sI_comm (f := 9) (f' := 8) (by decide)]
  · unfold F8_bakes
    rw [fk_chk_t (show fk_in (1 : Int32) 3 = true by decide), fk_let_e, cl1, u1, fk_bind_some, fk_let_e, fk_chk_t (show fk_in (1 : Int32) 3 = true by decide), fk_let_e, fk_let_e, fk_let_e, fk_let_e, fk_let_e, fk_let_e, u4, hv]
    have f1 : gI (sI (sA m2 4 1 (endV m kd hN n a mo (gA m 14))) 6 0 (gI (sA m2 4 1 (endV m kd hN n a mo (gA m 14))) 6 0 + 1)) 7 0 = gI m2 7 0 := by
      rw [gI_nf (by decide)]
      rfl
    have f2 : gI (sI (sA m2 4 1 (endV m kd hN n a mo (gA m 14))) 6 0 (gI (sA m2 4 1 (endV m kd hN n a mo (gA m 14))) 6 0 + 1)) 27 0 = gI m2 27 0 := by
      rw [gI_nf (by decide)]
      rfl
    rw [f1, f2, u5, hb8, hs8]
    rfl
theorem op_bake {c m : fkS} (h : Rel c m) (x b : Int32) : Op2 (F7_bake x b c) (F8_bake x b m) := by
  have h0 := h
  obtain ⟨nb, h⟩ := h
  have k1 : ¬ (1 : Int32) = 0 := by decide
  have k6 : ¬ (-6 : Int32) = 0 := by decide
  have kr : (0 : Int32) = 0 := rfl
  unfold F7_bake F8_bake F7_noPieOf
  rw [bind_id]
  rcases pieOf h x b 0 0 with ⟨code, hc, e1, e2⟩ | ⟨s, bN, hs, rfl, hb, rfl, hR, e2, e1⟩
  · rw [e1, e2, fk_bind_some, fk_bind_some, if_neg hc.ref.1, if_neg hc.ref.2.1]
    exact refC h0 hc
  · rw [e1, e2, fk_bind_some, if_pos Int32.le_rfl, if_neg (by decide), if_pos Int32.le_rfl]
    obtain ⟨r, c', m', t1, t2, t3, t4, t5⟩ := take2 (lo := 0) hs hR
    rw [t1, t2, fk_bind_some, fk_bind_some]
    have hK := h.keep t3 t4
    rcases t5 with rfl | ⟨rfl, n, hn, -, g1, g2, g3⟩
    · rw [if_pos kr, if_pos kr, fk_bind_some, if_neg k6]
      exact ref6 ⟨nb, hK⟩
    · rw [if_neg k1, if_neg k1, fk_bind_some, if_pos kr]
      obtain ⟨c2, m2, o1, o2, o3⟩ := bake2 hK hb hn g1 g2 (fun i hi => ⟨(g3 i hi).1, rg10 (g3 i hi).2.1 (g3 i hi).2.2⟩)
      rw [o1, o2, fk_bind_some, fk_bind_some, fk_let_e, fk_chk_t (show fk_in (1 : Int32) 3 = true by decide), fk_let_e, cl1, o3.2.1.2.2.1.1]
      exact Op2.mk ⟨nb, o3⟩
theorem after_loop {c m : fkS} {nb b kd hN n P : Nat} {a mo : Int32} {p : Nat → Int32} (hP : P ≤ 40) (hR : RelN c m nb) (hB : Bv c m b kd hN a mo) (hn : n ≤ 8) (p3 : ∀ i, i < n → rg (p i) 10) {c2 : fkS}
    (hC : ∀ s, rg s 8 → F0_endOf 19 40 s c2 = some (endS m kd hN n a mo p s, c2) ∧ rg (endS m kd hN n a mo p s) 8) :
    ∀ (d j fu : Nat) (s : Int32) (m1 : fkS), j + d = P → d < fu → rg s 8 → EqM m m1 → gI m1 22 0 = nI n → (∀ i, i < n → gA m1 14 i = p i) → gI m1 26 0 = s →
    ∃ r m', fk_lp3 B7_after_72 fu (nI P) s (nI j) c2 = some (r, c2) ∧ fk_lp3 B8_after_59 fu (nI b) (nI P) (nI j) m1 = some (r, m') ∧ EqM m m' := by
  intro d
  induction d with
  | zero =>
    intro j fu s m1 hj hf hs hM g1 g2 g3
    obtain ⟨w, rfl⟩ : ∃ w, fu = w + 1 := ⟨fu - 1, by omega⟩
    obtain rfl : j = P := by omega
    rw [fk_lp3_s, fk_lp3_s, B7_after_72, B8_after_59, if_pos Int32.le_rfl, if_pos Int32.le_rfl, fk_let_e, g3]
    exact ⟨s, m1, rfl, rfl, hM⟩
  | succ d ih =>
    intro j fu s m1 hj hf hs hM g1 g2 g3
    obtain ⟨w, rfl⟩ : ∃ w, fu = w + 1 := ⟨fu - 1, by omega⟩
    have q1 : ¬ nI P ≤ nI j := by
      rw [nI_leI (by omega) (by omega)]
      omega
    obtain ⟨m', u1, u2, u3, u4⟩ := brgM2 (s := s) hR hB hM hs hn g1 g2 p3
    rw [fk_lp3_s, fk_lp3_s, B7_after_72, B8_after_59, if_neg q1, if_neg q1, (hC s hs).1, fk_bind_some, fk_let_e, g3, u1, fk_bind_some, nI_1]
    refine ih (j + 1) w _ m' (by omega) (by omega) (hC s hs).2 u3 ?_ (fun i hi => ?_) u4
    · rw [u2.1 22 0 (by decide) (by decide) (by decide)]
      exact g1
    · rw [u2.2.1 14 (by decide)]
      exact g2 i hi
theorem rg41 {x : Int32} : rg x 41 ↔ ¬ x < 0 ∧ x ≤ 40 := by
  constructor
  · rintro ⟨a, ha, rfl⟩
    refine ⟨nI_pos (by omega), ?_⟩
    rw [show (40 : Int32) = nI 40 from rfl, nI_leI (by omega) (by decide)]
    omega
  · rintro ⟨h0, h1⟩
    obtain ⟨j, hj, rfl⟩ := nI_of h0
    rw [show (40 : Int32) = nI 40 from rfl, nI_leI hj (by decide)] at h1
    exact rg_nI (by omega)
theorem within41_in {x : Int32} {st : fkS} (h : rg x 41) : F8_within x 0 40 st = some (1, st) := by
  have := within_in (st := st) (n := 41) (by decide) h
  rw [← w41] at this
  exact this
theorem within41_out {x : Int32} {st : fkS} (h : ¬ rg x 41) : F8_within x 0 40 st = some (0, st) := by
  have := within_out (st := st) (n := 41) (by decide) h
  rw [← w41] at this
  exact this
theorem op_after {c m : fkS} (h : Rel c m) (x b p : Int32) : Op2 (F7_after x b p c) (F8_after x b p m) := by
  have h0 := h
  obtain ⟨nb, h⟩ := h
  have k1 : ¬ (1 : Int32) = 0 := by decide
  have k6 : ¬ (-6 : Int32) = 0 := by decide
  have kr : (0 : Int32) = 0 := rfl
  unfold F7_after F8_after F7_noPieOf B7_after_30 B8_after_39
  rw [bind_id]
  rcases pieOf h x b 0 0 with ⟨code, hc, e1, e2⟩ | ⟨s, bN, hs, rfl, hb, rfl, hR, e2, e1⟩
  · rw [e1, e2, fk_bind_some, fk_bind_some, if_neg hc.ref.1, if_neg hc.ref.2.1]
    exact refC h0 hc
  · rw [e1, e2, fk_bind_some, if_pos Int32.le_rfl, if_neg (by decide), if_pos Int32.le_rfl]
    obtain ⟨r, c', m', t1, t2, t3, t4, t5⟩ := take2 (lo := 0) hs hR
    rw [t1, t2, fk_bind_some, fk_bind_some]
    have hK := h.keep t3 t4
    rcases t5 with rfl | ⟨rfl, n, hn, -, g1, g2, g3⟩
    · rw [if_pos kr, if_pos kr, fk_bind_some, if_neg k6]
      exact ref6 ⟨nb, hK⟩
    · rw [if_neg k1, if_neg k1, fk_bind_some, if_pos kr]
      rcases rgQ (x := p) 41 with hp | hp
      rotate_left
      · rw [within41_out hp, fk_bind_some, if_pos kr]
        by_cases z : p < 0
        · rw [if_pos z]
          exact ref6 ⟨nb, hK⟩
        · rw [if_neg z, if_neg (fun y => hp (rg41.mpr ⟨z, y⟩))]
          exact ref6 ⟨nb, hK⟩
      · rw [within41_in hp, fk_bind_some, if_neg k1, if_neg (rg41.mp hp).1, if_pos (rg41.mp hp).2]
        obtain ⟨P, hP, rfl⟩ := hp
        obtain ⟨kd, hN, a, mo, hB⟩ := hK.bv hb
        obtain ⟨c1, v1, v2, v3⟩ := take_ok (Or.inl rfl) hK hb hB EqC.rf
        have hpm : ∀ i, i < n → rg (gA m' 14 i) 10 := fun i hi => by
          rw [← (g3 i hi).1]
          exact rg10 (g3 i hi).2.1 (g3 i hi).2.2
        obtain ⟨c2, s1, s2, s3, s4, s5, s6⟩ := brgC2 (p := gA m' 14) hK hB (v2.eq (Or.inl rfl)) v3 hn (by rw [v2.1 61 38 (by decide)]; exact g1) (fun i hi => by rw [v2.2.1 39 (by decide)]; exact (g3 i hi).1) hpm
        obtain ⟨-, -, hS, -⟩ := hK.2.1
        have hM : EqM m' (sI m' 26 0 (gA m' 4 1)) := EqM.rf.sI rfl
        have hs8 : rg (gA m' 4 1) 8 := by
          rw [← hS.1]
          exact hS.2
        obtain ⟨r, m2, o1, o2, o3⟩ := after_loop (P := P) (by omega) hK hB hn hpm (s6 c2 rfl rfl rfl) P 0 fk_fuel (gA m' 4 1) (sI m' 26 0 (gA m' 4 1)) (by omega) (by unfold fk_fuel; omega) hs8 hM (by rw [gI_nf (by decide)]; exact g2) (fun _ _ => rfl) gI_same
        rw [v1, fk_bind_some, s1, fk_bind_some, fk_let_e, s3.1 6 19 rfl, hS.1, fk_chk_t (show fk_in (1 : Int32) 3 = true by decide), fk_let_e, cl1, fk_let_e, show fk_lp3 B7_after_72 fk_fuel (nI P) (gA m' 4 1) 0 c2 = _ from o1, show fk_lp3 B8_after_59 fk_fuel (nI bN) (nI P) 0 _ = _ from o2]
        exact Op2.mk ⟨nb, hK.keep s3 o3⟩
