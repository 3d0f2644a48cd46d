/-! says -/
theorem lay3 {q b : Int32} {j w : Nat} {st : fkS} (hj : j < 3) : fk_lp3 B8_says_84 (w + 1) q b (nI j) st = fk_lp3 B8_says_84 w q b (nI (j + 1)) (sAF st 14 (upd (gA st 14) j (nI (2 - j)))) := by
  rw [fk_lp3_s, B8_says_84, if_neg (show ¬ (3 : Int32) ≤ nI j by rw [show (3 : Int32) = nI 3 from rfl, nI_leI (by decide) (by omega)]; omega), fk_chk_in (by omega) (by decide), fk_let_e, nI_clamp (by omega), nI_1, zl2, pk_sub (by omega), sA_def]
theorem lay3s {q b : Int32} {w : Nat} {st : fkS} : fk_lp3 B8_says_84 (w + 4) q b (nI 0) st = B8_says_84 (fk_lp3 B8_says_84 w) q b (nI 3) (sAF st 14 (upd (upd (upd (gA st 14) 0 (nI 2)) 1 (nI 1)) 2 (nI 0))) := by
  rw [lay3 (by decide), lay3 (by decide), lay3 (by decide), fk_lp3_s, sAF_sAF, sAF_sAF, gA_same, gA_same]
theorem op_says {c m : fkS} (h : Rel c m) (x p : Int32) : Op2 (F7_says x p c) (F8_says x p m) := by
  have h0 := h
  obtain ⟨nb, h⟩ := h
  have hnb := h.1.1
  have k1 : ¬ (1 : Int32) = 0 := by decide
  have kr : (0 : Int32) = 0 := rfl
  unfold F7_says B7_says_18 B7_says_86 F8_says B8_says_20 B8_says_58
  rcases rgQ (x := x) 8 with hx | hx
  rotate_left
  · rw [noShelf_out hx, fk_bind_some, if_neg k1, within8_out hx, fk_bind_some, if_pos kr]
    exact refF1 h0
  · rw [noShelf_in hx, fk_bind_some, if_pos kr, within8_in hx, fk_bind_some, if_neg k1]
    rcases rgQ (x := p) 7 with hp | hp
    rotate_left
    · rw [within7_out hp, fk_bind_some, if_pos kr]
      by_cases q : p < 0
      · rw [if_pos q]
        exact refF1 h0
      · rw [if_neg q, if_neg (show ¬ p < 7 from lt_of_not_le (show (7 : Int32) ≤ p from ge_lit (by decide) hp q))]
        exact refF1 h0
    · rw [within7_in hp, fk_bind_some, if_neg k1, if_neg (nneg (by decide) hp), if_pos (show p < 7 from lt_lit (by decide) hp)]
      obtain ⟨s, hs, rfl⟩ := hx
      obtain ⟨qN, hq, rfl⟩ := hp
      rw [fk_chk_in hs (by decide), fk_let_e, nI_clamp (by omega), fk_chk_in hs (by decide), fk_let_e]
      have hsh := h.2.2.2.1 s hs
      rcases id hsh with ⟨t1, t2⟩ | ⟨t1, b, hb, t3, t4⟩ | ⟨t1, ⟨so, t2, t3, t4⟩, -⟩
      · unfold B8_says_65
        rw [t1, if_pos kr, t2, fk_let_e, if_pos (show (-1 : Int32) < 0 by decide), if_neg (show ¬ (0 : Int32) ≤ -1 by decide)]
        exact refF3 h0
      · have hB' : isB c m nb s := ⟨t1, b, hb, t3, t4⟩
        obtain ⟨kd, hN, a, mo, hB⟩ := h.bv hb
        have hB0 := hB
        obtain ⟨hb7, hkd, hhN, ha, hmo, ⟨h1, h2, h3, h4⟩, j1, j2, j3, j4⟩ := hB
        rw [t1, if_neg k1, fk_let_e, if_pos rfl, fk_let_e, t3, t4, lacks_in hnb h.1.2.1 (rg_nI hb), fk_bind_some, if_pos kr, fk_let_e, t3, if_neg (nI_pos (by omega)), isRow_B hs hnb hB', fk_bind_some, if_pos kr, fk_chk_in (show b < 7 by omega) (by decide), fk_chk_in (show b < 7 by omega) (by decide), fk_let_e, fk_let_e, nI_clamp (by omega), h1, j1]
        obtain ⟨r, r1, r2⟩ := under_ok (c := c) (m := m) hkd hq
        rw [r1, r2, fk_bind_some, fk_bind_some]
        by_cases hr : r = 0
        · rw [if_pos hr, if_pos hr]
          exact refF2 h0
        · rw [if_neg hr, if_neg hr, fk_let_e, t3]
          unfold B8_says_65
          obtain ⟨c1, s1, s2, s3⟩ := take_ok (Or.inl rfl) h hb hB0 EqC.rf
          have q1 : EqC c c1 := s2.eq (Or.inl rfl)
          rw [s1, fk_bind_some, if_pos (nI_pos' (by omega)), fk_let_e]
          obtain ⟨w, hw⟩ : ∃ w, fk_fuel = w + 4 := ⟨1196, rfl⟩
          have eM : fk_lp3 B8_says_84 fk_fuel (nI qN) (nI b) 0 (sI m 22 0 3) = B8_says_84 (fk_lp3 B8_says_84 w) (nI qN) (nI b) 3 (sAF (sI m 22 0 (nI 3)) 14 (upd (upd (upd (gA m 14) 0 2) 1 1) 2 0)) := by
            rw [hw]
            exact lay3s
          obtain ⟨m', u1, u2, u3, u4, u5⟩ := tellM (p := dg 3 210 (fun _ => 0)) (n := 3) hB0 ((EqM.rf (c := m)).sI (f := 22) (i := 0) (v := nI 3) rfl |>.sA (i := 14) (v := (upd (upd (upd (gA m 14) 0 2) 1 1) 2 0)) rfl) (by decide) (by rw [gI_sAF, gI_same]) (fun i hi => by
            rw [gA_same]
            obtain rfl | rfl | rfl : i = 0 ∨ i = 1 ∨ i = 2 := by omega
            · rfl
            · rfl
            · rfl)
          have hF1 : Rel c1 m' := ⟨nb, h.keep q1 u3⟩
          have e2 : gA m' 2 b = a := by
            rw [u3.2.1 2 rfl]
            exact j2
          have e3 : gA m' 3 b = mo := by
            rw [u3.2.1 3 rfl]
            exact j3
          rw [fk_let_e, fk_let_e, eM, B8_says_84, if_pos Int32.le_rfl, u1, fk_bind_some]
          have sp : ∀ v : Nat, v < 2 ^ 31 → ∃ c', F6_speak 40 (sAF (sI c1 61 38 (nI 3)) 39 (dg 3 v (gA c1 39))) = some ((), c') ∧ EqC c c' ∧ gI c' 124 40 = nI (sayN kd (min 3 hN)) ∧ ∀ i, i < sayN kd (min 3 hN) → gA c' 42 i = sayF kd (min 3 hN) a (sg (nI hN) mo (dg 3 v (fun _ => 0))) i := fun v hv => by
            obtain ⟨c', v1, v2, v3, v4, v5⟩ := speakV (p := dg 3 v (fun _ => 0)) (n := 3) (c := sAF (sI c1 61 38 (nI 3)) 39 (dg 3 v (gA c1 39))) (Or.inl rfl) s3 (by decide) hhN hkd (by rw [gI_sAF, gI_same]) (fun i hi => by rw [gA_same]; exact dg_in hi)
            exact ⟨c', v1, ((q1.sI rfl).sA rfl).tr (v2.eq (Or.inl rfl)), v4, v5⟩
          have hK : sayN kd (min 3 hN) ≤ 16 := sayN_le (by omega)
          obtain rfl | rfl | rfl | rfl | rfl | rfl | rfl : qN = 0 ∨ qN = 1 ∨ qN = 2 ∨ qN = 3 ∨ qN = 4 ∨ qN = 5 ∨ qN = 6 := by omega
          · rw [if_pos (show nI 0 = 0 from rfl), if_pos (show nI 0 = 0 from rfl), fk_chk_in hb7 (by decide), fk_let_e, nI_clamp (by omega), e3, s3.2.2.1]
            exact Op2.mk hF1
          · rw [if_neg (show ¬ nI 1 = 0 by decide), if_neg (show ¬ nI 1 = 0 by decide), if_pos (show nI 1 = 1 from rfl), if_pos (show nI 1 = 1 from rfl), fk_chk_in hb7 (by decide), fk_let_e, nI_clamp (by omega), e2, s3.2.1]
            exact Op2.mk hF1
          · obtain ⟨c', v1, v2, v3, v4⟩ := sp 0 (by decide)
            rw [if_neg (show ¬ nI 2 = 0 by decide), if_neg (show ¬ nI 2 = 0 by decide), if_neg (show ¬ nI 2 = 1 by decide), if_neg (show ¬ nI 2 = 1 by decide), if_pos (show nI 2 = 2 from rfl), if_pos (show nI 2 = 2 from rfl), show F3_setByNumber 3 0 c1 = _ from setNum_ok (n := 3) (v := 0) (by decide) (by decide), fk_bind_some, v1, fk_bind_some, fk_let_e, fk_let_e, v3, u4]
            exact Op2.mk ⟨nb, h.keep v2 u3⟩
          · rw [if_neg (show ¬ nI 3 = 0 by decide), if_neg (show ¬ nI 3 = 0 by decide), if_neg (show ¬ nI 3 = 1 by decide), if_neg (show ¬ nI 3 = 1 by decide), if_neg (show ¬ nI 3 = 2 by decide), if_neg (show ¬ nI 3 = 2 by decide), if_pos (show nI 3 = 3 from rfl), if_pos (show nI 3 = 3 from rfl), fk_chk_in hb7 (by decide), fk_let_e, nI_clamp (by omega), e2, s3.2.1]
            exact Op2.mk hF1
          · obtain ⟨c', v1, v2, v3, v4⟩ := sp 210 (by decide)
            rw [if_neg (show ¬ nI 4 = 0 by decide), if_neg (show ¬ nI 4 = 0 by decide), if_neg (show ¬ nI 4 = 1 by decide), if_neg (show ¬ nI 4 = 1 by decide), if_neg (show ¬ nI 4 = 2 by decide), if_neg (show ¬ nI 4 = 2 by decide), if_neg (show ¬ nI 4 = 3 by decide), if_neg (show ¬ nI 4 = 3 by decide), if_pos (show nI 4 = 4 from rfl), if_pos (show nI 4 = 4 from rfl), show F3_setByNumber 3 210 c1 = _ from setNum_ok (n := 3) (v := 210) (by decide) (by decide), fk_bind_some, v1, fk_bind_some, fk_let_e, u4]
            by_cases z : sayN kd (min 3 hN) = 0
            · rw [sign_no v3 (Or.inr (by rw [z]; decide)), fk_bind_some, z, if_pos (show nI 0 = 0 from rfl)]
              exact Op2.mk ⟨nb, h.keep v2 u3⟩
            · have z' : ¬ nI (sayN kd (min 3 hN)) = 0 := by
                rw [zl0, nI_eq (by omega) (by decide)]
                exact z
              have e0 : F6_sign 40 0 c' = some (sayF kd (min 3 hN) a (sg (nI hN) mo (dg 3 210 (fun _ => 0))) 0, c') := (sign_ok (i := 0) (by omega) hK v3).trans (by rw [show gA c' (40 + 2) 0 = _ from v4 0 (by omega)])
              rw [e0, fk_bind_some, if_neg z', chk0 (by decide) (by decide), fk_let_e, cl0, u5 0 (by omega)]
              exact Op2.mk ⟨nb, h.keep v2 u3⟩
          · obtain ⟨c', v1, v2, v3, v4⟩ := sp 0 (by decide)
            rw [if_neg (show ¬ nI 5 = 0 by decide), if_neg (show ¬ nI 5 = 0 by decide), if_neg (show ¬ nI 5 = 1 by decide), if_neg (show ¬ nI 5 = 1 by decide), if_neg (show ¬ nI 5 = 2 by decide), if_neg (show ¬ nI 5 = 2 by decide), if_neg (show ¬ nI 5 = 3 by decide), if_neg (show ¬ nI 5 = 3 by decide), if_neg (show ¬ nI 5 = 4 by decide), if_neg (show ¬ nI 5 = 4 by decide), if_pos (show nI 5 = 5 from rfl), if_pos (show nI 5 = 5 from rfl), show F3_setByNumber 3 0 c1 = _ from setNum_ok (n := 3) (v := 0) (by decide) (by decide), fk_bind_some, v1, fk_bind_some, fk_let_e, fk_let_e, v3, u4]
            exact Op2.mk ⟨nb, h.keep v2 u3⟩
          · rw [if_neg (show ¬ nI 6 = 0 by decide), if_neg (show ¬ nI 6 = 0 by decide), if_neg (show ¬ nI 6 = 1 by decide), if_neg (show ¬ nI 6 = 1 by decide), if_neg (show ¬ nI 6 = 2 by decide), if_neg (show ¬ nI 6 = 2 by decide), if_neg (show ¬ nI 6 = 3 by decide), if_neg (show ¬ nI 6 = 3 by decide), if_neg (show ¬ nI 6 = 4 by decide), if_neg (show ¬ nI 6 = 4 by decide), if_neg (show ¬ nI 6 = 5 by decide), if_neg (show ¬ nI 6 = 5 by decide), if_pos (show nI 6 = 6 from rfl), fk_chk_in hb7 (by decide), fk_let_e, nI_clamp (by omega), e2, s3.2.1]
            exact Op2.mk hF1
      · have hR' : isR c m s := h.2.2.2.1 s hs |>.resolve_left (fun z => by rw [z.1] at t1; exact absurd t1 (by decide)) |>.resolve_left (fun z => by rw [z.1] at t1; exact absurd t1 (by decide))
        rw [t1, if_neg (show ¬ (2 : Int32) = 0 by decide), fk_let_e, if_neg (show ¬ (2 : Int32) = 1 by decide), t4, fk_let_e, if_neg (nI_pos (by omega)), isRow_R hs hR', fk_bind_some, if_neg k1]
        exact refF2 h0
