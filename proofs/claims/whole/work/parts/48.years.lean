/-! years -/
theorem ushr_rg {x : Int32} : rg (fk_ushr x 16) 65536 := by
  unfold fk_ushr
  have h1 : ((16 : Int32).toUInt32 &&& Int32.toUInt32 31) = 16 := by decide
  rw [h1]
  have h2 : (x.toUInt32 >>> (16 : UInt32)).toNat < 65536 := by
    rw [UInt32.toNat_shiftRight, show (16 : UInt32).toNat % 32 = 16 from rfl, Nat.shiftRight_eq_div_pow]
    have := x.toUInt32.toNat_lt
    omega
  refine ⟨_, h2, ?_⟩
  generalize x.toUInt32 >>> (16 : UInt32) = u
  have e : u = UInt32.ofNat u.toNat := UInt32.ofNat_toNat.symm
  exact congrArg UInt32.toInt32 e
def dr (x : Int32) (d : Nat) : Int32 := fk_rem (fk_ushr (x * 1103515245 + 12345) 16) (nI d)
theorem dr_rg {x : Int32} {d : Nat} (h0 : 0 < d) (hd : d < 2 ^ 31) : rg (dr x d) d := rem_rg ushr_rg (by decide) h0 hd
theorem draw2 {c m : fkS} {nb d : Nat} (h : RelN c m nb) (h0 : 0 < d) (hd : d < 2 ^ 31) : ∃ c' m', c' = sI c 10 19 (gI c 10 19 * 1103515245 + 12345) ∧ m' = sI m 8 0 (gI c 10 19 * 1103515245 + 12345) ∧ F0_draw 19 (nI d) c = some (dr (gI c 10 19) d, c') ∧ F8_draw (nI d) m = some (dr (gI c 10 19) d, m') ∧ RelN c' m' nb := by
  have hz : fk_nz (nI d) = true := by
    unfold fk_nz
    rw [decide_eq_false]
    · rfl
    · rw [zl0, nI_eq hd (by decide)]
      omega
  refine ⟨_, _, rfl, rfl, ?_, ?_, h.seed⟩
  · unfold F0_draw
    rw [fk_let_e, fk_let_e, if_pos (by rw [zl0, nI_ltI (by decide) hd]; exact h0), fk_let_e, fk_chk_t hz, gI_same]
    rfl
  · unfold F8_draw
    rw [fk_let_e, fk_let_e, fk_let_e, fk_chk_t hz, gI_same, ← h.2.2.1.2.2]
    rfl
theorem years_in {nb b : Nat} {v1 v2 : Int32} {k37 k33 : Int32 → Int32 → fkS → Option (Int32 × fkS)} (hb : b < nb) : ∀ (d j fu : Nat) (c m : fkS), j + d = 3 → d < fu → RelN c m nb → gI c 61 38 = nI 3 → gI m 22 0 = nI 3 → (∀ i, i < j → gA c 39 i = gA m 14 i ∧ rg (gA c 39 i) 10) →
    ∃ c' m', RelN c' m' nb ∧ fk_lp4 (B7_years_85 k37) fu v1 v2 (nI b) (nI j) c = k37 v1 (v2 + 1) c' ∧ fk_lp4 (B8_years_67 k33) fu v1 v2 (nI b) (nI j) m = k33 v1 (v2 + 1) m' := by
  intro d
  induction d with
  | zero =>
    intro j fu c m hj hf h g1 g2 g3
    obtain ⟨w, rfl⟩ : ∃ w, fu = w + 1 := ⟨fu - 1, by omega⟩
    obtain rfl : j = 3 := by omega
    obtain ⟨c', m', e1, e2, e3⟩ := bake2 h hb (by decide) g1 g2 g3
    refine ⟨c', m', e3, ?_, ?_⟩
    · rw [fk_lp4_s, B7_years_85, fk_let_e, g1, if_pos Int32.le_rfl, e1, fk_bind_some]
    · rw [fk_lp4_s, B8_years_67, if_pos (show (3 : Int32) ≤ nI 3 by decide), e2, fk_bind_some]
  | succ d ih =>
    intro j fu c m hj hf h g1 g2 g3
    obtain ⟨w, rfl⟩ : ∃ w, fu = w + 1 := ⟨fu - 1, by omega⟩
    obtain ⟨c1, m1, f1, f2, e1, e2, e3⟩ := draw2 (d := 10) h (by decide) (by decide)
    have hr : rg (dr (gI c 10 19) 10) 10 := dr_rg (by decide) (by decide)
    have q1 : ¬ nI 3 ≤ nI j := by
      rw [nI_leI (by decide) (by omega)]
      omega
    obtain ⟨c', m', i1, i2, i3⟩ := ih (j + 1) w (sAF c1 39 (upd (gA c1 39) j (dr (gI c 10 19) 10))) (sAF m1 14 (upd (gA m1 14) j (dr (gI c 10 19) 10))) (by omega) (by omega) (e3.keep (EqC.rf.sA rfl) (EqM.rf.sA rfl)) (by rw [gI_sAF, f1, gI_nf (by decide)]; exact g1) (by rw [gI_sAF, f2, gI_nf (by decide)]; exact g2) (fun i hi => by
      rw [gA_same, gA_same]
      by_cases q : i = j
      · subst q
        rw [upd_same, upd_same]
        exact ⟨rfl, hr⟩
      · rw [upd_ne q, upd_ne q, f1, f2]
        exact g3 i (by omega))
    refine ⟨c', m', i1, ?_, ?_⟩
    · rw [fk_lp4_s, B7_years_85, fk_let_e, g1, if_neg q1, show F0_draw 19 10 c = _ from e1, fk_bind_some, setLay_ok (n := 3) (by omega) (by decide) (by rw [f1, gI_nf (by decide)]; exact g1), fk_bind_some, nI_1, sA_def]
      exact i2
    · rw [fk_lp4_s, B8_years_67, if_neg (show ¬ (3 : Int32) ≤ nI j from q1), show F8_draw 10 m = _ from e2, fk_bind_some, fk_chk_in (by omega) (by decide), fk_let_e, nI_clamp (by omega), nI_1, sA_def]
      exact i3
theorem years_out {nb P : Nat} (hP : P ≤ 60) (hb0 : 0 < nb) : ∀ (d j fu : Nat) (c m : fkS), j + d = P → d < fu → RelN c m nb → Op2 (fk_lp2 B7_years_37 fu (nI P) (nI j) c) (fk_lp2 B8_years_33 fu (nI P) (nI j) m) := by
  intro d
  induction d with
  | zero =>
    intro j fu c m hj hf h
    obtain ⟨w, rfl⟩ : ∃ w, fu = w + 1 := ⟨fu - 1, by omega⟩
    obtain rfl : j = P := by omega
    rw [fk_lp2_s, fk_lp2_s, B7_years_37, B8_years_33, if_pos Int32.le_rfl, if_pos Int32.le_rfl, fk_let_e, fk_let_e, h.2.2.1.2.1]
    exact Op2.mk ⟨nb, h⟩
  | succ d ih =>
    intro j fu c m hj hf h
    obtain ⟨w, rfl⟩ : ∃ w, fu = w + 1 := ⟨fu - 1, by omega⟩
    have hnb := h.1.1
    have q1 : ¬ nI P ≤ nI j := by
      rw [nI_leI (by omega) (by omega)]
      omega
    obtain ⟨c1, m1, f1, f2, e1, e2, e3⟩ := draw2 (d := nb) h hb0 (by omega)
    obtain ⟨c2, m2, f3, f4, e4, e5, e6⟩ := draw2 (d := 10) e3 (by decide) (by decide)
    have hr : rg (dr (gI c1 10 19) 10) 10 := dr_rg (by decide) (by decide)
    obtain ⟨b, hb, eb⟩ := dr_rg (x := gI c 10 19) hb0 (show nb < 2 ^ 31 by omega)
    have hH := e6.heat hr
    obtain ⟨c', m', i1, i2, i3⟩ := years_in (v1 := nI P) (v2 := nI j) (k37 := fk_lp2 B7_years_37 w) (k33 := fk_lp2 B8_years_33 w) hb 3 0 fk_fuel (sAF (sI (sI c2 5 19 (dr (gI c1 10 19) 10)) 61 38 (nI 3)) 39 (dg 3 0 (gA (sI c2 5 19 (dr (gI c1 10 19) 10)) 39))) (sI (sA m2 4 0 (dr (gI c1 10 19) 10)) 22 0 (nI 3)) (by omega) (by unfold fk_fuel; omega) (hH.keep ((EqC.rf.sI rfl).sA rfl) (EqM.rf.sI rfl)) (by rw [gI_sAF, gI_same]) gI_same (fun i hi => by omega)
    rw [fk_lp2_s, fk_lp2_s, B7_years_37, B8_years_33, if_neg q1, if_neg q1, fk_let_e, fk_let_e, h.1.2.1, h.1.2.2.1, e1, e2, fk_bind_some, fk_bind_some, show F0_draw 19 10 c1 = _ from e4, show F8_draw 10 m1 = _ from e5, fk_bind_some, fk_bind_some, fk_let_e, show F3_setByNumber 3 0 _ = _ from setNum_ok (n := 3) (v := 0) (by decide) (by decide), fk_bind_some, chk0 (by decide) (by decide), fk_let_e, cl0, fk_let_e, eb]
    rw [show fk_lp4 (B7_years_85 (fk_lp2 B7_years_37 w)) fk_fuel (nI P) (nI j) (nI b) 0 _ = _ from i2, show fk_lp4 (B8_years_67 (fk_lp2 B8_years_33 w)) fk_fuel (nI P) (nI j) (nI b) 0 (sI (sA m2 4 0 (dr (gI c1 10 19) 10)) 22 0 3) = _ from i3, nI_1]
    exact ih (j + 1) w c' m' (by omega) (by omega) i1
theorem op_years {c m : fkS} (h : Rel c m) (p : Int32) : Op2 (F7_years p c) (F8_years p m) := by
  have h0 := h
  obtain ⟨nb, h⟩ := h
  have hnb := h.1.1
  have k1 : ¬ (1 : Int32) = 0 := by decide
  have kr : (0 : Int32) = 0 := rfl
  unfold F7_years F8_years B7_years_28
  rw [fk_let_e, fk_let_e, h.1.2.1, h.1.2.2.1, within_c]
  by_cases q : nb = 0
  · subst q
    rw [if_pos (show nI 0 = 0 from rfl), if_pos (show nI 0 = 0 from rfl)]
    exact ref5 h0
  · have q' : ¬ nI nb = 0 := by
      rw [zl0, nI_eq (by omega) (by decide)]
      exact q
    rw [if_neg q', if_neg q', fk_bind_some]
    by_cases z : p < 1
    · rw [if_pos z, if_pos z, if_pos kr]
      exact ref6 h0
    · rw [if_neg z, if_neg z]
      by_cases y : p ≤ 60
      · have y' : ¬ (60 : Int32) < p := by
          rw [Int32.lt_iff_toInt_lt]
          rw [Int32.le_iff_toInt_le] at y
          omega
        have z' : ¬ p < 0 := by
          rw [Int32.lt_iff_toInt_lt] at z ⊢
          have a1 : (1 : Int32).toInt = 1 := rfl
          have a0 : (0 : Int32).toInt = 0 := rfl
          omega
        rw [if_pos y, if_neg y', if_neg k1]
        obtain ⟨P, hP, rfl⟩ := nI_of z'
        have hP60 : P ≤ 60 := by
          rw [show (60 : Int32) = nI 60 from rfl, nI_leI hP (by decide)] at y
          exact y
        exact years_out hP60 (by omega) P 0 fk_fuel c m (by omega) (by unfold fk_fuel; omega) h
      · have y' : (60 : Int32) < p := by
          rw [Int32.lt_iff_toInt_lt]
          rw [Int32.le_iff_toInt_le] at y
          omega
        rw [if_neg y, if_pos y', if_pos kr]
        exact ref6 h0
