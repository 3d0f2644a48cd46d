/-! judge -/
theorem judge_loop {c m : fkS} {nb s' nL n P : Nat} {p : Nat → Int32} (hR : RelN c m nb) (hs' : s' < 8) (hnL : nL ≤ 160) (t6 : gI c 103 (3 + s') = nI nL) (t8 : ∀ j, j < nL → gL c (3 + s' + 8) j = gL m 8 (160 * s' + j)) (hn : n ≤ 8) (p3 : ∀ i, i < n → rg (p i) 10) (hP : 2 * P ≤ nL) :
    ∀ (d j fu : Nat) (s : Int32) (c1 m1 : fkS), j + d = P → d < fu → rg s 8 → EqC c c1 → EqM m m1 → gI c1 61 38 = nI n → (∀ i, i < n → gA c1 39 i = p i) → gI m1 22 0 = nI n → (∀ i, i < n → gA m1 14 i = p i) → gI m1 26 0 = s →
    ∃ r c' m', fk_lp4 B7_judge_99 fu (nI P) (3 + s') s (nI j) c1 = some (r, c') ∧ fk_lp3 B8_judge_90 fu (nI s') (nI P) (nI j) m1 = some (r, m') ∧ EqC c c' ∧ EqM m m' := by
  intro d
  induction d with
  | zero =>
    intro j fu s c1 m1 hj hf hs hC hM g1 g2 g3 g4 g5
    obtain ⟨w, rfl⟩ : ∃ w, fu = w + 1 := ⟨fu - 1, by omega⟩
    obtain rfl : j = P := by omega
    rw [fk_lp4_s, fk_lp3_s, B7_judge_99, B8_judge_90, if_pos Int32.le_rfl, if_pos Int32.le_rfl]
    exact ⟨-1, c1, m1, rfl, rfl, hC, hM⟩
  | succ d ih =>
    intro j fu s c1 m1 hj hf hs hC hM g1 g2 g3 g4 g5
    obtain ⟨w, rfl⟩ : ∃ w, fu = w + 1 := ⟨fu - 1, by omega⟩
    have hnb := hR.1.1
    have q1 : ¬ nI P ≤ nI j := by
      rw [nI_leI (by omega) (by omega)]
      omega
    have e0 : gL c1 (3 + s' + 8) = gL c (3 + s' + 8) := hC.2.2 _
    rw [fk_lp4_s, fk_lp3_s, B7_judge_99, B8_judge_90, if_neg q1, if_neg q1, zl2, pk_mul, number_in (show gI c1 103 (3 + s') = nI nL by rw [hC.1 _ _ (kCI_sh hs')]; exact t6) (by omega) hnL, fk_bind_some, told_ok hs' (by omega), fk_bind_some, hC.2.2, hM.2.2, t8 (2 * j) (by omega)]
    generalize (gL m 8 (160 * s' + 2 * j)).toInt32 = b
    rcases rgQ (x := b) nb with hb | hb
    · rw [lacks_in hnb (show gI c1 0 19 = nI nb by rw [hC.1 0 19 rfl]; exact hR.1.2.1) hb, fk_bind_some, if_pos rfl, isBird_in hnb (show gI m1 0 0 = nI nb by rw [hM.1 0 0 rfl]; exact hR.1.2.2.1) hb, fk_bind_some, if_neg (by decide), fk_let_e, g5]
      obtain ⟨bN, hb, rfl⟩ := hb
      obtain ⟨kd, hN, a, mo, hB⟩ := hR.bv hb
      obtain ⟨c2, v1, v2, v3⟩ := take_ok (Or.inl rfl) hR hb hB hC
      obtain ⟨c3, s1, s2, s3, s4, s5, s6⟩ := brgC2 (p := p) hR hB (hC.tr (v2.eq (Or.inl rfl))) v3 hn (by rw [v2.1 61 38 (by decide)]; exact g1) (fun i hi => by rw [v2.2.1 39 (by decide)]; exact g2 i hi) p3
      obtain ⟨m2, u1, u2, u3, u4⟩ := brgM2 (s := s) hR hB hM hs hn g3 g4 p3
      have hE := s6 c3 rfl rfl rfl s hs
      have h1 : nI (2 * j) + (1 : Int32) = nI (2 * j + 1) := nI_1 _
      rw [v1, fk_bind_some, s1, fk_bind_some, hE.1, fk_bind_some, u1, fk_bind_some, fk_let_e, u4, h1, number_in (show gI c3 103 (3 + s') = nI nL by rw [s3.1 _ _ (kCI_sh hs')]; exact t6) (by omega) hnL, fk_bind_some, told_ok hs' (by omega), fk_bind_some, s3.2.2, u3.2.2, t8 (2 * j + 1) (by omega)]
      by_cases q : endS m kd hN n a mo p s = (gL m 8 (160 * s' + (2 * j + 1))).toInt32
      · rw [if_pos q, if_pos q, nI_1]
        refine ih (j + 1) w _ c3 m2 (by omega) (by omega) hE.2 s3 u3 ?_ (fun i hi => ?_) ?_ (fun i hi => ?_) u4
        · rw [s2.1 61 38 (by decide), v2.1 61 38 (by decide)]
          exact g1
        · rw [s2.2.1 39 (by decide), v2.2.1 39 (by decide)]
          exact g2 i hi
        · rw [u2.1 22 0 (by decide) (by decide) (by decide)]
          exact g3
        · rw [u2.2.1 14 (by decide)]
          exact g4 i hi
      · rw [if_neg q, if_neg q]
        exact ⟨nI j, c3, m2, rfl, rfl, s3, u3⟩
    · rw [lacks_out hnb (show gI c1 0 19 = nI nb by rw [hC.1 0 19 rfl]; exact hR.1.2.1) hb, fk_bind_some, if_neg (by decide), isBird_out hnb (show gI m1 0 0 = nI nb by rw [hM.1 0 0 rfl]; exact hR.1.2.2.1) hb, fk_bind_some, if_pos rfl]
      exact ⟨nI j, c1, m1, rfl, rfl, hC, hM⟩
theorem lN_2 {P : Nat} : (2 : Int64) * lN P = lN (2 * P) := (Int64.ofNat_mul 2 P).symm
theorem op_judge {c m : fkS} (h : Rel c m) (x y w : Int32) : Op2 (F7_judge x y w c) (F8_judge x y w m) := by
  have h0 := h
  obtain ⟨nb, h⟩ := h
  have k1 : ¬ (1 : Int32) = 0 := by decide
  have kr : (0 : Int32) = 0 := rfl
  unfold F7_judge F8_judge B7_judge_80 B8_judge_70
  rcases rows2 h x y with ⟨s, s', hs, hs', rfl, rfl, hR1, hR2, e1, e2⟩ | ⟨code, hc, e1, e2⟩
  rotate_left
  · rw [e1, e2, fk_bind_some, fk_bind_some, if_neg hc.ref.1, if_neg hc.ref.2.1]
    exact refFC h0 hc
  · rw [e1, e2, fk_bind_some, fk_bind_some, if_pos kr, if_pos Int32.le_rfl]
    obtain ⟨-, -, nL, z5, z6, z7, z8⟩ := hR2
    by_cases q : 0 ≤ w
    rotate_left
    · rw [if_neg q, if_neg q]
      exact refF h0 4 (by decide) (by decide) (by decide)
    · have q' : ¬ w < 0 := by
        rw [Int32.lt_iff_toInt_lt]
        rw [Int32.le_iff_toInt_le] at q
        omega
      rw [if_pos q, if_pos q]
      obtain ⟨P, hP, rfl⟩ := nI_of q'
      rw [fk_chk_in hs' (by decide), fk_let_e, nI_clamp (show s' < 2 ^ 31 by omega), z6, fk_chk_in hs' (by decide), fk_let_e, z7, zl2, pk_div (by omega) (by decide) (by decide), nI_l hP, nI_l (show nL < 2 ^ 31 by omega), lN_2]
      by_cases hq : 2 * P ≤ nL
      rotate_left
      · rw [if_neg (by rw [nI_leI hP (by omega)]; omega), if_neg (by rw [cmp_le (by omega) (by omega)]; exact hq)]
        exact refF5 h0
      · rw [if_pos (show nI P ≤ nI (nL / 2) by rw [nI_leI hP (by omega)]; omega), if_pos ((cmp_le (show 2 * P < 2 ^ 62 by omega) (show nL < 2 ^ 62 by omega)).mpr hq), fk_chk_in hs (by decide), nI_clamp (show s < 2 ^ 31 by omega)]
        obtain ⟨r, c', m', t1, t2, t3, t4, t5⟩ := take2 (lo := 0) hs hR1
        have h40 : (40 : Int32) = nI 40 := rfl
        by_cases h4 : P ≤ 40
        rotate_left
        · rw [if_pos (show (40 : Int32) < nI P by rw [h40, nI_ltI (by decide) hP]; omega), t1, fk_bind_some]
          have hK : Rel c' m := ⟨nb, h.keep t3 EqM.rf⟩
          by_cases z : r = 0
          · rw [if_pos z]
            exact refF6 hK
          · rw [if_neg z, if_neg (by rw [h40, nI_leI hP (by decide)]; exact h4)]
            exact refF6 hK
        · rw [if_neg (show ¬ (40 : Int32) < nI P by rw [h40, nI_ltI (by decide) hP]; omega), t1, t2, fk_bind_some, fk_bind_some]
          have hK := h.keep t3 t4
          rcases t5 with rfl | ⟨rfl, n, hn, -, g1, g2, g3⟩
          · rw [if_pos kr, if_pos kr]
            exact refF6 ⟨nb, hK⟩
          · rw [if_neg k1, if_neg k1, if_pos (show nI P ≤ (40 : Int32) by rw [h40, nI_leI hP (by decide)]; exact h4), fk_let_e, fk_chk_t (show fk_in (1 : Int32) 3 = true by decide), fk_let_e, cl1, fk_let_e]
            have hpm : ∀ i, i < n → rg (gA m' 14 i) 10 := fun i hi => by
              rw [← (g3 i hi).1]
              exact rg10 (g3 i hi).2.1 (g3 i hi).2.2
            obtain ⟨-, -, hS, -⟩ := hK.2.1
            have hs8 : rg (gA m' 4 1) 8 := by
              rw [← hS.1]
              exact hS.2
            obtain ⟨r, c2, m2, o1, o2, o3, o4⟩ := judge_loop (p := gA m' 14) hK hs' z5 (by rw [t3.1 _ _ (kCI_sh hs')]; exact z6) (fun j hj => by rw [t3.2.2, t4.2.2]; exact z8 j hj) hn hpm hq P 0 fk_fuel (gA m' 4 1) c' (sI m' 26 0 (gA m' 4 1)) (by omega) (by unfold fk_fuel; omega) hs8 EqC.rf (EqM.rf.sI rfl) g1 (fun i hi => (g3 i hi).1) (by rw [gI_nf (by decide)]; exact g2) (fun _ _ => rfl) gI_same
            rw [hS.1, show fk_lp4 B7_judge_99 fk_fuel (nI P) (3 + s') (gA m' 4 1) 0 c' = _ from o1, show fk_lp3 B8_judge_90 fk_fuel (nI s') (nI P) 0 (sI m' 26 0 (gA m' 4 1)) = _ from o2]
            exact Op2.mk ⟨nb, hK.keep o3 o4⟩
