/-! says, safe -/
theorem under_ok {k q : Nat} {c m : fkS} (hk : k < 7) (hq : q < 7) : ∃ r, F7_isUnder (nI k) (nI q) c = some (r, c) ∧ F8_isUnder (nI k) (nI q) m = some (r, m) := by
  unfold F7_isUnder F8_isUnder
  obtain ⟨w, hw⟩ : ∃ w, fk_fuel = w + 10 := ⟨1190, rfl⟩
  rw [hw]
  rcases k with _ | _ | _ | _ | _ | _ | _ | k <;> (try (exfalso; omega)) <;> rcases q with _ | _ | _ | _ | _ | _ | _ | q <;> (try (exfalso; omega)) <;> exact ⟨_, rfl, rfl⟩
theorem within8_in {x : Int32} {st : fkS} (h : rg x 8) : F8_within x 0 7 st = some (1, st) := by
  have := within_in (st := st) (n := 8) (by decide) h
  rw [← w8] at this
  exact this
theorem within8_out {x : Int32} {st : fkS} (h : ¬ rg x 8) : F8_within x 0 7 st = some (0, st) := by
  have := within_out (st := st) (n := 8) (by decide) h
  rw [← w8] at this
  exact this
theorem within7_in {x : Int32} {st : fkS} (h : rg x 7) : F8_within x 0 6 st = some (1, st) := by
  have := within_in (st := st) (n := 7) (by decide) h
  rw [← w7] at this
  exact this
theorem within7_out {x : Int32} {st : fkS} (h : ¬ rg x 7) : F8_within x 0 6 st = some (0, st) := by
  have := within_out (st := st) (n := 7) (by decide) h
  rw [← w7] at this
  exact this
theorem refF {c m : fkS} (h : Rel c m) (k : Nat) (h1 : 1 ≤ k) (h7 : k ≤ 7) {code : Int32} (hc : -code = nI k) : Op2 (fk_bind (F7_refuseFar code c) fun a b => some (a, b)) (fk_bind (F8_no10 code m) fun a b => some (a, b)) := by
  rw [bind_id, bind_id]
  exact refuse10 h k h1 h7 hc
theorem refF1 {c m : fkS} (h : Rel c m) : Op2 (fk_bind (F7_refuseFar (-1) c) fun a b => some (a, b)) (fk_bind (F8_no10 (-1) m) fun a b => some (a, b)) := refF h 1 (by decide) (by decide) (by decide)
theorem refF2 {c m : fkS} (h : Rel c m) : Op2 (fk_bind (F7_refuseFar (-2) c) fun a b => some (a, b)) (fk_bind (F8_no10 (-2) m) fun a b => some (a, b)) := refF h 2 (by decide) (by decide) (by decide)
theorem refF3 {c m : fkS} (h : Rel c m) : Op2 (fk_bind (F7_refuseFar (-3) c) fun a b => some (a, b)) (fk_bind (F8_no10 (-3) m) fun a b => some (a, b)) := refF h 3 (by decide) (by decide) (by decide)
theorem refF5 {c m : fkS} (h : Rel c m) : Op2 (fk_bind (F7_refuseFar (-5) c) fun a b => some (a, b)) (fk_bind (F8_no10 (-5) m) fun a b => some (a, b)) := refF h 5 (by decide) (by decide) (by decide)
theorem refF6 {c m : fkS} (h : Rel c m) : Op2 (fk_bind (F7_refuseFar (-6) c) fun a b => some (a, b)) (fk_bind (F8_no10 (-6) m) fun a b => some (a, b)) := refF h 6 (by decide) (by decide) (by decide)
theorem tellM {c m m1 : fkS} {b kd hN n : Nat} {a mo : Int32} {p : Nat → Int32} (hB : Bv c m b kd hN a mo) (q : EqM m m1) (hn : n ≤ 8) (p1 : gI m1 22 0 = nI n) (p2 : ∀ i, i < n → gA m1 14 i = p i) :
    ∃ m', F8_tells (nI b) m1 = some ((), m') ∧ KeM m1 m' ∧ EqM m m' ∧ gI m' 24 0 = nI (sayN kd (min n hN)) ∧ ∀ i, i < sayN kd (min n hN) → gA m' 15 i = sayF kd (min n hN) a (sg (nI hN) mo p) i := by
  obtain ⟨arr, e1, e2⟩ := tells_ok hB.1 hn hB.2.2.1 hB.2.1 (hB.hb q) p1
  refine ⟨_, e1, (KeM.rf.sI (Or.inl rfl)).sA, q.tr (KeM.eq (KeM.rf.sI (Or.inl rfl)).sA), ?_, ?_⟩
  · rw [gI_sAF, gI_same]
  · intro i hi
    rw [gA_same, e2 i hi]
    refine sayF_eq (fun i hi => ?_) i hi
    unfold sg
    rw [p2 i (by omega)]
theorem safe_loop {c m : fkS} {nb b kd hN : Nat} {a mo : Int32} (hR : RelN c m nb) (hB : Bv c m b kd hN a mo) : ∀ (d j fu : Nat) (v : Int32) (c1 m1 : fkS), j + d = 100 → d < fu → EqC c c1 → EqM m m1 → Vc 40 c1 kd hN a mo →
    ∃ (r : Int32) (c' m' : fkS), fk_lp2 B7_safe_33 fu v (nI j) c1 = some (r, c') ∧ fk_lp3 B8_safe_18 fu (nI b) v (nI j) m1 = some (r, m') ∧ EqC c c' ∧ EqM m m' := by
  intro d
  induction d with
  | zero =>
    intro j fu v c1 m1 hj hf hC hM hV
    obtain ⟨w, rfl⟩ : ∃ w, fu = w + 1 := ⟨fu - 1, by omega⟩
    obtain rfl : j = 100 := by omega
    rw [fk_lp2_s, fk_lp3_s, B7_safe_33, B8_safe_18, if_pos (by decide), if_pos (by decide)]
    exact ⟨v, c1, m1, rfl, rfl, hC, hM⟩
  | succ d ih =>
    intro j fu v c1 m1 hj hf hC hM hV
    obtain ⟨w, rfl⟩ : ∃ w, fu = w + 1 := ⟨fu - 1, by omega⟩
    have q1 : ¬ (100 : Int32) ≤ nI j := by
      rw [show (100 : Int32) = nI 100 from rfl, nI_leI (by decide) (by omega)]
      omega
    have hp3 : ∀ i, i < 2 → rg (dg 2 j (fun _ => 0) i) 10 := fun i hi => dg_rg hi
    obtain ⟨c', s1, s2, s3, s4, -, s5⟩ := brgC (p := dg 2 j (fun _ => 0)) (n := 2) (c1 := sAF (sI c1 61 38 (nI 2)) 39 (dg 2 j (gA c1 39))) hR hB ((hC.sI rfl).sA rfl) hV (by decide) (by rw [gI_sAF, gI_same]) (fun i hi => by rw [gA_same]; exact dg_in hi) hp3
    obtain ⟨m', u1, u2, u3, u4, u5⟩ := brgM (p := dg 2 j (fun _ => 0)) (n := 2) (m1 := sAF (sI m1 22 0 (nI 2)) 14 (dg 2 j (gA m1 14))) hR hB ((hM.sI rfl).sA rfl) (by decide) (by rw [gI_sAF, gI_same]) (fun i hi => by rw [gA_same]; exact dg_in hi) hp3
    rw [fk_lp2_s, fk_lp3_s, B7_safe_33, B8_safe_18, if_neg q1, if_neg q1, zl2, setNum_ok (by decide) (by omega), lays_ok (by decide) (by omega), fk_bind_some, fk_bind_some, s1, fk_bind_some, s5, fk_bind_some, fk_chk_t (show fk_in (1 : Int32) 3 = true by decide), fk_let_e, cl1, u1, fk_bind_some, fk_let_e, u5]
    by_cases q : illV m kd hN 2 a mo (dg 2 j (fun _ => 0)) = 0
    · rw [if_pos q, if_pos q, B7_safe_76, B8_safe_51, nI_1]
      exact ih (j + 1) w _ _ _ (by omega) (by omega) s3 u3 s4
    · rw [if_neg q, if_neg q, B7_safe_76, B8_safe_51, nI_1]
      exact ih (j + 1) w _ _ _ (by omega) (by omega) s3 u3 s4
theorem op_safe {c m : fkS} (h : Rel c m) (b : Int32) : Op2 (F7_safe b c) (F8_safe b m) := by
  have h0 := h
  obtain ⟨nb, h⟩ := h
  have hnb := h.1.1
  have k1 : ¬ (1 : Int32) = 0 := by decide
  have kr : (0 : Int32) = 0 := rfl
  unfold F7_safe F8_safe
  rcases rgQ (x := b) nb with hb | hb
  · rw [lacks_in hnb h.1.2.1 hb, fk_bind_some, if_pos kr, isBird_in hnb h.1.2.2.1 hb, fk_bind_some, if_neg k1]
    obtain ⟨bN, hb, rfl⟩ := hb
    obtain ⟨kd, hN, a, mo, hB⟩ := h.bv hb
    obtain ⟨c1, t1, t2, t3⟩ := take_ok (Or.inl rfl) h hb hB EqC.rf
    rw [t1, fk_bind_some]
    obtain ⟨r, c', m', e1, e2, e3, e4⟩ := safe_loop h hB 100 0 fk_fuel 0 c1 m (by omega) (by unfold fk_fuel; omega) (t2.eq (Or.inl rfl)) EqM.rf t3
    rw [zl0] at e1 e2 ⊢
    rw [e1, e2]
    exact Op2.mk ⟨nb, h.keep e3 e4⟩
  · rw [lacks_out hnb h.1.2.1 hb, fk_bind_some, if_neg k1, isBird_out hnb h.1.2.2.1 hb, fk_bind_some, if_pos kr]
    exact ref1 h0
