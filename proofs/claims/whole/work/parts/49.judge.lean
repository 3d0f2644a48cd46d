/-! judge -/
theorem judge_loop {c m : fkS} {nb s' nL n P : Nat} {p : Nat → Int32} (hR : RelN c m nb) (hs' : s' < 8) (hnL : nL ≤ 160) (t6 : gI c 103 (3 + s') = nI nL) (t8 : ∀ j, j < nL → gL c (3 + s' + 8) j = gL m 8 (160 * s' + j)) (hn : n ≤ 8) (p3 : ∀ i, i < n → rg (p i) 10) (hP : 2 * P ≤ nL) :
    ∀ (d j fu : Nat) (s : Int32) (c1 m1 : fkS), j + d = P → d < fu → rg s 8 → EqC c c1 → EqM m m1 → gI c1 61 38 = nI n → (∀ i, i < n → gA c1 39 i = p i) → gI m1 22 0 = nI n → (∀ i, i < n → gA m1 14 i = p i) → gI m1 26 0 = s →
    ∃ r c' m', fk_lp4 B7_judge_99 fu (nI P) (3 + s') s (nI j) c1 = some (r, c') ∧ fk_lp3 B8_judge_90 fu (nI s') (nI P) (nI j) m1 = some (r, m') ∧ EqC c c' ∧ EqM m m' := by
  intro d
  induction d with
  | zero =>
    intro j fu s c1 m1 hj hf hs hC hM g1 g2 g3 g4 g5
    obtain ⟨w, rfl⟩ : ∃ w, fu = w + 1 := ⟨fu - 1, by omega⟩
    obtain rfl : j = P := by omega
    rw [fk_lp4_s, fk_lp3_s, B7_judge_99, B8_judge_90, if_pos Int32.le_rfl, if_pos Int32.le_rfl]
    exact ⟨-1, c1, m1, rfl, rfl, hC, hM⟩
  | succ d ih =>
    intro j fu s c1 m1 hj hf hs hC hM g1 g2 g3 g4 g5
    obtain ⟨w, rfl⟩ : ∃ w, fu = w + 1 := ⟨fu - 1, by omega⟩
    have hnb := hR.1.1
    have q1 : ¬ nI P ≤ nI j := by
      rw [nI_leI (by omega) (by omega)]
      omega
    have e0 : gL c1 (3 + s' + 8) = gL c (3 + s' + 8) := hC.2.2 _
    rw [fk_lp4_s, fk_lp3_s, B7_judge_99, B8_judge_90, if_neg q1, if_neg q1, zl2, pk_mul, number_in (show gI c1 103 (3 + s') = nI nL by rw [hC.1 _ _ (kCI_sh hs')]; exact t6) (by omega) hnL, fk_bind_some, told_ok hs' (by omega), fk_bind_some, hC.2.2, hM.2.2, t8 (2 * j) (by omega)]
    generalize (gL m 8 (160 * s' + 2 * j)).toInt32 = b
    rcases rgQ (x := b) nb with hb | hb
    · rw [lacks_in hnb (show gI c1 0 19 = nI nb by rw [hC.1 0 19 rfl]; exact hR.1.2.1) hb, fk_bind_some, if_pos rfl, isBird_in hnb (show gI m1 0 0 = nI nb by rw [hM.1 0 0 rfl]; exact hR.1.2.2.1) hb, fk_bind_some, if_neg (by decide), fk_let_e, g5]
      obtain ⟨bN, hb, rfl⟩ := hb
      obtain ⟨kd, hN, a, mo, hB⟩ := hR.bv hb
      obtain ⟨c2, v1, v2, v3⟩ := take_ok (Or.inl rfl) hR hb hB hC
      obtain ⟨c3, s1, s2, s3, s4, s5, s6⟩ := brgC2 (p := p) hR hB (hC.tr (v2.eq (Or.inl rfl))) v3 hn (by rw [v2.1 61 38 (by decide)]; exact g1) (fun i hi => by rw [v2.2.1 39 (by decide)]; exact g2 i hi) p3
      obtain ⟨m2, u1, u2, u3, u4⟩ := brgM2 (s := s) hR hB hM hs hn g3 g4 p3
      have hE := s6 c3 rfl rfl rfl s hs
      have h1 : nI (2 * j) + (1 : Int32) = nI (2 * j + 1) := nI_1 _
      rw [v1, fk_bind_some, s1, fk_bind_some, hE.1, fk_bind_some, u1, fk_bind_some, fk_let_e, u4, h1, number_in (show gI c3 103 (3 + s') = nI nL by rw [s3.1 _ _ (kCI_sh hs')]; exact t6) (by omega) hnL, fk_bind_some, told_ok hs' (by omega), fk_bind_some, s3.2.2, u3.2.2, t8 (2 * j + 1) (by omega)]
      by_cases q : endS m kd hN n a mo p s = (gL m 8 (160 * s' + (2 * j + 1))).toInt32
      · rw [if_pos q, if_pos q, nI_1]
        refine ih (j + 1) w _ c3 m2 (by omega) (by omega) hE.2 s3 u3 ?_ (fun i hi => ?_) ?_ (fun i hi => ?_) u4
        · rw [s2.1 61 38 (by decide), v2.1 61 38 (by decide)]
          exact g1
        · rw [s2.2.1 39 (by decide), v2.2.1 39 (by decide)]
          exact g2 i hi
        · rw [u2.1 22 0 (by decide) (by decide) (by decide)]
          exact g3
        · rw [u2.2.1 14 (by decide)]
          exact g4 i hi
      · rw [if_neg q, if_neg q]
        exact ⟨nI j, c3, m2, rfl, rfl, s3, u3⟩
    · rw [lacks_out hnb (show gI c1 0 19 = nI nb by rw [hC.1 0 19 rfl]; exact hR.1.2.1) hb, fk_bind_some, if_neg (by decide), isBird_out hnb (show gI m1 0 0 = nI nb by rw [hM.1 0 0 rfl]; exact hR.1.2.2.1) hb, fk_bind_some, if_pos rfl]
      exact ⟨nI j, c1, m1, rfl, rfl, hC, hM⟩
