/-! soonest -/
theorem fk_lp4_s {α1 α2 α3 α4 β γ : Type} (B : (α1 → α2 → α3 → α4 → β → Option γ) → α1 → α2 → α3 → α4 → β → Option γ) (n : Nat) (a : α1) (b : α2) (c : α3) (d : α4) (e : β) : fk_lp4 B (n + 1) a b c d e = B (fk_lp4 B n) a b c d e := rfl
theorem fk_lp5_s {α1 α2 α3 α4 α5 β γ : Type} (B : (α1 → α2 → α3 → α4 → α5 → β → Option γ) → α1 → α2 → α3 → α4 → α5 → β → Option γ) (n : Nat) (a : α1) (b : α2) (c : α3) (d : α4) (e : α5) (f : β) : fk_lp5 B (n + 1) a b c d e f = B (fk_lp5 B n) a b c d e f := rfl
theorem ten_ok {n : Nat} {st : fkS} (hn : n ≤ 3) : F7_tenTo (nI n) st = some (nI (10 ^ n), st) := by
  obtain rfl | rfl | rfl | rfl : n = 0 ∨ n = 1 ∨ n = 2 ∨ n = 3 := by omega
  · rfl
  · rfl
  · rfl
  · rfl
theorem pow_loop {n : Nat} {st : fkS} (hn : n ≤ 9) : ∀ (d j fu : Nat), j + d = n → d < fu → fk_lp3 B8_pow_4 fu (nI n) (nI (10 ^ j)) (nI j) st = some (nI (10 ^ n), st) := by
  intro d
  induction d with
  | zero =>
    intro j fu hj hf
    obtain ⟨w, rfl⟩ : ∃ w, fu = w + 1 := ⟨fu - 1, by omega⟩
    obtain rfl : j = n := by omega
    rw [fk_lp3_s, B8_pow_4, if_pos Int32.le_rfl]
  | succ d ih =>
    intro j fu hj hf
    obtain ⟨w, rfl⟩ : ∃ w, fu = w + 1 := ⟨fu - 1, by omega⟩
    rw [fk_lp3_s, B8_pow_4, if_neg (by rw [nI_leI (by omega) (by omega)]; omega), nI_1, zl10, pk_mul, ← Nat.pow_succ]
    exact ih (j + 1) w (by omega) (by omega)
theorem pow_ok {n : Nat} {st : fkS} (hn : n ≤ 9) : F8_pow (nI n) st = some (nI (10 ^ n), st) := by
  unfold F8_pow
  exact pow_loop hn n 0 fk_fuel (by omega) (by unfold fk_fuel; omega)
theorem soon_in {c m : fkS} {nb b kd hN n : Nat} {a mo v2 v3 : Int32} {k31 : Int32 → Int32 → Int32 → Int32 → fkS → Option (Int32 × fkS)} (hR : RelN c m nb) (hB : Bv c m b kd hN a mo) (hn : n ≤ 3) : ∀ (d j fu : Nat) (c1 m1 : fkS), j + d = 10 ^ n → d < fu → EqC c c1 → EqM m m1 → Vc 40 c1 kd hN a mo →
    ∃ (c' m' : fkS), EqC c c' ∧ EqM m m' ∧ Vc 40 c' kd hN a mo ∧
      ((fk_lp3 B7_findBringing_2 fu v2 (nI n) (nI j) c1 = some (0, c') ∧ fk_lp5 (B8_soonest_40 k31) fu (nI b) v2 v3 (nI n) (nI j) m1 = k31 (nI b) v2 v3 (nI (n + 1)) m') ∨
       (fk_lp3 B7_findBringing_2 fu v2 (nI n) (nI j) c1 = some (1, c') ∧ gI c' 61 38 = nI n ∧ (∀ i, i < n → gA c' 39 i = gA m' 14 i) ∧ (∀ i, i < n → rg (gA c' 39 i) 10) ∧
        fk_lp5 (B8_soonest_40 k31) fu (nI b) v2 v3 (nI n) (nI j) m1 = (if v3 = (-1 : Int32) then some (nI n, m') else fk_bind (F8_within v3 0 (nI n - 1) m') fun x17 st18 => if x17 = 0 then fk_bind (F8_no10 (-5) st18) (fun x19 st20 => some (x19, st20)) else fk_chk (fk_in v3 8) (fk_let (gA st18 14 v3.toNatClampNeg) fun x21 => some (x21, st18))))) := by
  have hten : 10 ^ n ≤ 1000 := by
    obtain rfl | rfl | rfl | rfl : n = 0 ∨ n = 1 ∨ n = 2 ∨ n = 3 := by omega
    · decide
    · decide
    · decide
    · decide
  intro d
  induction d with
  | zero =>
    intro j fu c1 m1 hj hf hC hM hV
    obtain ⟨w, rfl⟩ : ∃ w, fu = w + 1 := ⟨fu - 1, by omega⟩
    obtain rfl : j = 10 ^ n := by omega
    rw [fk_lp3_s, fk_lp5_s, B7_findBringing_2, B8_soonest_40, ten_ok hn, pow_ok (by omega), fk_bind_some, fk_bind_some, if_pos Int32.le_rfl, if_pos Int32.le_rfl, nI_1]
    exact ⟨c1, m1, hC, hM, hV, Or.inl ⟨rfl, rfl⟩⟩
  | succ d ih =>
    intro j fu c1 m1 hj hf hC hM hV
    obtain ⟨w, rfl⟩ : ∃ w, fu = w + 1 := ⟨fu - 1, by omega⟩
    have q1 : ¬ nI (10 ^ n) ≤ nI j := by
      rw [nI_leI (by omega) (by omega)]
      omega
    have hp3 : ∀ i, i < n → rg (dg n j (fun _ => 0) i) 10 := fun i hi => dg_rg hi
    obtain ⟨c', s1, s2, s3, s4, s5, -⟩ := brgC (p := dg n j (fun _ => 0)) (n := n) (c1 := sAF (sI c1 61 38 (nI n)) 39 (dg n j (gA c1 39))) hR hB ((hC.sI rfl).sA rfl) hV (by omega) (by rw [gI_sAF, gI_same]) (fun i hi => by rw [gA_same]; exact dg_in hi) hp3
    obtain ⟨m', u1, u2, u3, u4, -⟩ := brgM (p := dg n j (fun _ => 0)) (n := n) (m1 := sAF (sI m1 22 0 (nI n)) 14 (dg n j (gA m1 14))) hR hB ((hM.sI rfl).sA rfl) (by omega) (by rw [gI_sAF, gI_same]) (fun i hi => by rw [gA_same]; exact dg_in hi) hp3
    rw [fk_lp3_s, fk_lp5_s, B7_findBringing_2, B8_soonest_40, ten_ok hn, pow_ok (by omega), fk_bind_some, fk_bind_some, if_neg q1, if_neg q1, setNum_ok (by omega) (by omega), lays_ok (by omega) (by omega), fk_bind_some, fk_bind_some, s1, fk_bind_some, fk_let_e, s5, fk_bind_some, fk_chk_t (show fk_in (1 : Int32) 3 = true by decide), fk_let_e, cl1, u1, fk_bind_some, fk_let_e, u4]
    by_cases q : endV m kd hN n a mo (dg n j (fun _ => 0)) = v2
    · rw [if_pos q, if_pos q]
      refine ⟨c', m', s3, u3, s4, Or.inr ⟨rfl, ?_, ?_, ?_, rfl⟩⟩
      · rw [s2.1 61 38 (by decide), gI_sAF, gI_same]
      · intro i hi
        rw [s2.2.1 39 (by decide), u2.2.1 14 (by decide), gA_same, gA_same]
        exact dg_in hi
      · intro i hi
        rw [s2.2.1 39 (by decide), gA_same, dg_in (g := fun _ => 0) hi]
        exact hp3 i hi
    · rw [if_neg q, if_neg q, nI_1]
      exact ih (j + 1) w _ _ (by omega) (by omega) s3 u3 s4
theorem soon_out {c m : fkS} {nb b kd hN : Nat} {a mo v2 v3 : Int32} (hR : RelN c m nb) (hB : Bv c m b kd hN a mo) : ∀ (d n fu : Nat) (c1 m1 : fkS), n + d = 4 → d < fu → EqC c c1 → EqM m m1 → Vc 40 c1 kd hN a mo →
    Op2 (fk_lp4 B7_soonest_52 fu v2 v3 0 (nI n) c1) (fk_lp4 B8_soonest_31 fu (nI b) v2 v3 (nI n) m1) := by
  have kr : (0 : Int32) = 0 := rfl
  have k1 : ¬ (1 : Int32) = 0 := by decide
  intro d
  induction d with
  | zero =>
    intro n fu c1 m1 hj hf hC hM hV
    obtain ⟨w, rfl⟩ : ∃ w, fu = w + 1 := ⟨fu - 1, by omega⟩
    obtain rfl : n = 4 := by omega
    have hF : Rel c1 m1 := ⟨nb, hR.keep hC hM⟩
    rw [fk_lp4_s, fk_lp4_s, B7_soonest_52, B8_soonest_31, if_pos (show (3 : Int32) < nI 4 by decide), if_pos (show (4 : Int32) ≤ nI 4 by decide), B7_soonest_78]
    by_cases q : v3 = -1
    · rw [if_pos q, if_pos q, if_pos kr]
      exact Op2.mk hF
    · rw [if_neg q, if_neg q, if_pos kr, B7_soonest_117, if_pos (show (-1 : Int32) = -1 from rfl)]
      exact refF5 hF
  | succ d ih =>
    intro n fu c1 m1 hj hf hC hM hV
    obtain ⟨w, rfl⟩ : ∃ w, fu = w + 1 := ⟨fu - 1, by omega⟩
    have hten : 10 ^ n ≤ 1000 := by
      obtain rfl | rfl | rfl | rfl : n = 0 ∨ n = 1 ∨ n = 2 ∨ n = 3 := by omega
      · decide
      · decide
      · decide
      · decide
    have q1 : ¬ (3 : Int32) < nI n := by
      rw [show (3 : Int32) = nI 3 from rfl, nI_ltI (by decide) (by omega)]
      omega
    have q2 : ¬ (4 : Int32) ≤ nI n := by
      rw [show (4 : Int32) = nI 4 from rfl, nI_leI (by decide) (by omega)]
      omega
    obtain ⟨c', m', e1, e2, e3, e4⟩ := soon_in (v2 := v2) (v3 := v3) (k31 := fk_lp4 B8_soonest_31 w) hR hB (show n ≤ 3 by omega) (10 ^ n) 0 fk_fuel c1 m1 (by omega) (by unfold fk_fuel; omega) hC hM hV
    rw [fk_lp4_s, fk_lp4_s, B7_soonest_52, B8_soonest_31, if_neg q1, if_pos kr, if_neg q2, F7_findBringing]
    rcases e4 with ⟨e4, e5⟩ | ⟨e4, e5, e6, e8, e7⟩
    · rw [show fk_lp3 B7_findBringing_2 fk_fuel v2 (nI n) 0 c1 = some (0, c') from e4, fk_bind_some, show fk_lp5 (B8_soonest_40 (fk_lp4 B8_soonest_31 w)) fk_fuel (nI b) v2 v3 (nI n) 0 m1 = _ from e5, nI_1]
      exact ih (n + 1) w _ _ (by omega) (by omega) e1 e2 e3
    · have hF : Rel c' m' := ⟨nb, hR.keep e1 e2⟩
      rw [show fk_lp3 B7_findBringing_2 fk_fuel v2 (nI n) 0 c1 = some (1, c') from e4, fk_bind_some, show fk_lp5 (B8_soonest_40 (fk_lp4 B8_soonest_31 w)) fk_fuel (nI b) v2 v3 (nI n) 0 m1 = _ from e7]
      obtain ⟨w', rfl⟩ : ∃ w', w = w' + 1 := ⟨w - 1, by omega⟩
      have eC : fk_lp4 B7_soonest_52 (w' + 1) v2 v3 1 (nI n + 1) c' = B7_soonest_78 v3 1 c' := by
        rw [fk_lp4_s, B7_soonest_52]
        by_cases z : (3 : Int32) < nI n + 1
        · rw [if_pos z]
        · rw [if_neg z, if_neg k1]
      rw [eC, B7_soonest_78]
      by_cases q : v3 = -1
      · rw [if_pos q, if_pos q, if_neg k1, fk_let_e, e5]
        exact Op2.mk hF
      · rw [if_neg q, if_neg q, if_neg k1]
        rcases rgQ (x := v3) n with hp | hp
        · rw [within_in (by omega) hp, fk_bind_some, if_neg k1]
          obtain ⟨i, hi, rfl⟩ := hp
          rw [lay_ok hi (by omega) e5, fk_bind_some, B7_soonest_117, fk_chk_in (by omega) (by decide), fk_let_e, nI_clamp (by omega), ← e6 i hi, if_neg (rg_ne1 (by decide) (e8 i hi))]
          exact Op2.mk hF
        · rw [within_out (by omega) hp, fk_bind_some, if_pos kr, lay_no e5 (not_rg (by omega) hp), fk_bind_some, B7_soonest_117, if_pos (show (-1 : Int32) = -1 from rfl)]
          exact refF5 hF
theorem op_soonest {c m : fkS} (h : Rel c m) (b s p : Int32) : Op2 (F7_soonest b s p c) (F8_soonest b s p m) := by
  have h0 := h
  obtain ⟨nb, h⟩ := h
  have hnb := h.1.1
  have k1 : ¬ (1 : Int32) = 0 := by decide
  have kr : (0 : Int32) = 0 := rfl
  unfold F7_soonest F8_soonest B7_soonest_27
  rcases rgQ (x := b) nb with hb | hb
  · rw [lacks_in hnb h.1.2.1 hb, fk_bind_some, if_pos kr, isBird_in hnb h.1.2.2.1 hb, fk_bind_some, if_neg k1]
    rcases rgQ (x := s) 8 with hs | hs
    · rw [isState_in hs, fk_bind_some, if_neg k1, if_neg (nneg (by decide) hs), if_pos (show s < 8 from lt_lit (by decide) hs)]
      obtain ⟨bN, hb, rfl⟩ := hb
      obtain ⟨kd, hN, a, mo, hB⟩ := h.bv hb
      obtain ⟨c1, t1, t2, t3⟩ := take_ok (Or.inl rfl) h hb hB EqC.rf
      rw [t1, fk_bind_some]
      exact soon_out h hB 4 0 fk_fuel c1 m (by omega) (by unfold fk_fuel; omega) (t2.eq (Or.inl rfl)) EqM.rf t3
    · rw [isState_out hs, fk_bind_some, if_pos kr]
      by_cases q : s < 0
      · rw [if_pos q]
        exact refF6 h0
      · rw [if_neg q, if_neg (show ¬ s < 8 from lt_of_not_le (show (8 : Int32) ≤ s from ge_lit (by decide) hs q))]
        exact refF6 h0
  · rw [lacks_out hnb h.1.2.1 hb, fk_bind_some, if_neg k1, isBird_out hnb h.1.2.2.1 hb, fk_bind_some, if_pos kr]
    exact refF1 h0
