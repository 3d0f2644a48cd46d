/-! the image ahead of a text; the draft -/
theorem keepA75 {st : fkS} : ∀ (d j fu : Nat) (u : Nat → Int32), j + d = 3 → d < fu → (∀ i, i < 7 → u i = gA st 1 i ∧ u (7 + i) = gA st 2 i ∧ u (14 + i) = gA st 3 i) → (∀ i, i < 40 → u (21 + i) = gA st 5 i) → (∀ i, i < j → u (61 + i) = gA st 4 i) →
    ∃ arr, fk_lp1 (B8_keep_75 10) fu (nI j) (sAF st 10 u) = some ((), sAF st 10 arr) ∧ KP st arr := by
  intro d
  induction d with
  | zero =>
    intro j fu u hj hf h1 h2 h3
    obtain ⟨w, rfl⟩ : ∃ w, fu = w + 1 := ⟨fu - 1, by omega⟩
    obtain rfl : j = 3 := by omega
    refine ⟨upd (upd (upd u 64 (gI st 0 0)) 65 (gI st 6 0)) 66 (gI st 7 0), ?_, ?_⟩
    · rw [fk_lp1_s, B8_keep_75, if_pos (show (3 : Int32) ≤ nI 3 by decide), fk_let_e, fk_chk_t (show fk_in (64 : Int32) 67 = true by decide), fk_let_e, fk_let_e, fk_chk_t (show fk_in (65 : Int32) 67 = true by decide), fk_let_e, fk_let_e, fk_chk_t (show fk_in (66 : Int32) 67 = true by decide), fk_let_e, sA_def, sA_def, sA_def, gA_same, gA_same, sAF_sAF, sAF_sAF, gA_same, sAF_sAF]
      rfl
    · refine ⟨fun i hi => ?_, fun i hi => ?_, fun i hi => ?_, rfl, rfl, rfl⟩
      · rw [upd_ne (by omega), upd_ne (by omega), upd_ne (by omega), upd_ne (by omega), upd_ne (by omega), upd_ne (by omega), upd_ne (by omega), upd_ne (by omega), upd_ne (by omega)]
        exact h1 i hi
      · rw [upd_ne (by omega), upd_ne (by omega), upd_ne (by omega)]
        exact h2 i hi
      · rw [upd_ne (by omega), upd_ne (by omega), upd_ne (by omega)]
        exact h3 i hi
  | succ d ih =>
    intro j fu u hj hf h1 h2 h3
    obtain ⟨w, rfl⟩ : ∃ w, fu = w + 1 := ⟨fu - 1, by omega⟩
    have q1 : ¬ (3 : Int32) ≤ nI j := by
      rw [show (3 : Int32) = nI 3 from rfl, nI_leI (by decide) (by omega)]
      omega
    rw [fk_lp1_s, B8_keep_75, if_neg q1, fk_chk_in (by omega) (by decide), fk_let_e, nI_clamp (by omega), show (61 : Int32) = nI 61 from rfl, nI_add, fk_chk_in (by omega) (by decide), fk_let_e, nI_clamp (by omega), sA_def, gA_same, sAF_sAF, nI_1]
    refine ih (j + 1) w _ (by omega) (by omega) (fun i hi => ?_) (fun i hi => ?_) (fun i hi => ?_)
    · rw [upd_ne (by omega), upd_ne (by omega), upd_ne (by omega)]
      exact h1 i hi
    · rw [upd_ne (by omega)]
      exact h2 i hi
    · by_cases q : i = j
      · subst q
        rw [upd_same]
        rfl
      · rw [upd_ne (by omega)]
        exact h3 i (by omega)
theorem keepA49 {st : fkS} : ∀ (d j fu : Nat) (u : Nat → Int32), j + d = 40 → d < fu → (∀ i, i < 7 → u i = gA st 1 i ∧ u (7 + i) = gA st 2 i ∧ u (14 + i) = gA st 3 i) → (∀ i, i < j → u (21 + i) = gA st 5 i) →
    ∃ arr, fk_lp1 (B8_keep_49 10) fu (nI j) (sAF st 10 u) = some ((), sAF st 10 arr) ∧ KP st arr := by
  intro d
  induction d with
  | zero =>
    intro j fu u hj hf h1 h2
    obtain ⟨w, rfl⟩ : ∃ w, fu = w + 1 := ⟨fu - 1, by omega⟩
    obtain rfl : j = 40 := by omega
    rw [fk_lp1_s, B8_keep_49, if_pos (show (40 : Int32) ≤ nI 40 by decide)]
    exact keepA75 3 0 fk_fuel u (by omega) (by unfold fk_fuel; omega) h1 h2 (fun i hi => by omega)
  | succ d ih =>
    intro j fu u hj hf h1 h2
    obtain ⟨w, rfl⟩ : ∃ w, fu = w + 1 := ⟨fu - 1, by omega⟩
    have q1 : ¬ (40 : Int32) ≤ nI j := by
      rw [show (40 : Int32) = nI 40 from rfl, nI_leI (by decide) (by omega)]
      omega
    rw [fk_lp1_s, B8_keep_49, if_neg q1, fk_chk_in (by omega) (by decide), fk_let_e, nI_clamp (by omega), show (21 : Int32) = nI 21 from rfl, nI_add, fk_chk_in (by omega) (by decide), fk_let_e, nI_clamp (by omega), sA_def, gA_same, sAF_sAF, nI_1]
    refine ih (j + 1) w _ (by omega) (by omega) (fun i hi => ?_) (fun i hi => ?_)
    · rw [upd_ne (by omega), upd_ne (by omega), upd_ne (by omega)]
      exact h1 i hi
    · by_cases q : i = j
      · subst q
        rw [upd_same]
        rfl
      · rw [upd_ne (by omega)]
        exact h2 i (by omega)
theorem keepA2 {st : fkS} : ∀ (d j fu : Nat) (u : Nat → Int32), j + d = 7 → d < fu → (∀ i, i < j → u i = gA st 1 i ∧ u (7 + i) = gA st 2 i ∧ u (14 + i) = gA st 3 i) →
    ∃ arr, fk_lp1 (B8_keep_2 10) fu (nI j) (sAF st 10 u) = some ((), sAF st 10 arr) ∧ KP st arr := by
  intro d
  induction d with
  | zero =>
    intro j fu u hj hf h1
    obtain ⟨w, rfl⟩ : ∃ w, fu = w + 1 := ⟨fu - 1, by omega⟩
    obtain rfl : j = 7 := by omega
    rw [fk_lp1_s, B8_keep_2, if_pos (show (7 : Int32) ≤ nI 7 by decide)]
    exact keepA49 40 0 fk_fuel u (by omega) (by unfold fk_fuel; omega) h1 (fun i hi => by omega)
  | succ d ih =>
    intro j fu u hj hf h1
    obtain ⟨w, rfl⟩ : ∃ w, fu = w + 1 := ⟨fu - 1, by omega⟩
    have q1 : ¬ (7 : Int32) ≤ nI j := by
      rw [show (7 : Int32) = nI 7 from rfl, nI_leI (by decide) (by omega)]
      omega
    have e : B8_keep_2 10 (fk_lp1 (B8_keep_2 10) w) (nI j) (sAF st 10 u) = fk_lp1 (B8_keep_2 10) w (nI (j + 1)) (sAF st 10 (upd (upd (upd u j (gA st 1 j)) (7 + j) (gA st 2 j)) (14 + j) (gA st 3 j))) := by
      rw [B8_keep_2, if_neg q1, show (7 : Int32) = nI 7 from rfl, show (14 : Int32) = nI 14 from rfl, nI_add, nI_add]
      simp (disch := omega) only [fk_chk_in, fk_let_e, nI_clamp, nI_1, sA_def, gA_same, sAF_sAF]
      rfl
    rw [fk_lp1_s, e]
    refine ih (j + 1) w _ (by omega) (by omega) (fun i hi => ?_)
    by_cases q : i = j
    · subst q
      refine ⟨?_, ?_, ?_⟩
      · rw [upd_ne (by omega), upd_ne (by omega), upd_same]
      · rw [upd_ne (by omega), upd_same]
      · rw [upd_same]
    · rw [upd_ne (by omega), upd_ne (by omega), upd_ne q, upd_ne (by omega), upd_ne (by omega), upd_ne (by omega), upd_ne (by omega), upd_ne (by omega), upd_ne (by omega)]
      exact h1 i (by omega)
theorem keepA_ok {st : fkS} : ∃ arr, F8_keep 10 st = some ((), sAF st 10 arr) ∧ KP st arr := by
  have := keepA2 (st := st) 7 0 fk_fuel (gA st 10) (by omega) (by unfold fk_fuel; omega) (fun i hi => by omega)
  rw [sAF_self] at this
  exact this
theorem become_ok2 {h o : Nat} {c : fkS} (hh : (h = 20 ∧ o = 19) ∨ (h = 19 ∧ o = 20)) : ∃ c', F0_become h o c = some ((), c') ∧ (∀ f i, i ≠ h → gI c' f i = gI c f i) ∧ (∀ i, i ≠ h + 3 → i ≠ h + 6 → i ≠ h + 9 → i ≠ h + 12 → gA c' i = gA c i) ∧ (∀ i, gL c' i = gL c i) ∧
    (gI c' 0 h = gI c 0 o ∧ gI c' 5 h = gI c 5 o ∧ gI c' 6 h = gI c 6 o ∧ gI c' 7 h = gI c 7 o ∧ gI c' 8 h = gI c 8 o ∧ gI c' 9 h = gI c 9 o ∧ gI c' 10 h = gI c 10 o) ∧
    (∀ i, i < 7 → gA c' (h + 3) i = gA c (o + 3) i ∧ gA c' (h + 6) i = gA c (o + 6) i ∧ gA c' (h + 9) i = gA c (o + 9) i) ∧ ∀ i, i < 40 → gA c' (h + 12) i = gA c (o + 12) i := by
  have k7 : fk_cp (0 : Int32) (0 : Int32) (7 : Int32) 7 7 = true := by decide
  have k40 : fk_cp (0 : Int32) (0 : Int32) (40 : Int32) 40 40 = true := by decide
  have t7 : (7 : Int32).toNatClampNeg = 7 := rfl
  have t40 : (40 : Int32).toNatClampNeg = 40 := rfl
  refine ⟨_, by unfold F0_become; simp only [fk_let_e, fk_chk_t k7, fk_chk_t k40, cl0, t7, t40]; rfl, ?_⟩
  rcases hh with ⟨rfl, rfl⟩ | ⟨rfl, rfl⟩
  · refine ⟨fun f i n => ?_, fun i n1 n2 n3 n4 => ?_, fun i => rfl, ⟨rfl, rfl, rfl, rfl, rfl, rfl, rfl⟩, fun i hi => ⟨?_, ?_, ?_⟩, fun i hi => ?_⟩
    · simp only [gI_sI, gI_sAF, n, and_false, if_false]
    · simp only [gA_sI, gA_sAF, n1, n2, n3, n4, if_false]
    · exact cpy_in hi
    · exact cpy_in hi
    · exact cpy_in hi
    · exact cpy_in hi
  · refine ⟨fun f i n => ?_, fun i n1 n2 n3 n4 => ?_, fun i => rfl, ⟨rfl, rfl, rfl, rfl, rfl, rfl, rfl⟩, fun i hi => ⟨?_, ?_, ?_⟩, fun i hi => ?_⟩
    · simp only [gI_sI, gI_sAF, n, and_false, if_false]
    · simp only [gA_sI, gA_sAF, n1, n2, n3, n4, if_false]
    · exact cpy_in hi
    · exact cpy_in hi
    · exact cpy_in hi
    · exact cpy_in hi
/-! bakery -/
theorem op_bakery {c m : fkS} (h : Rel c m) (x : Int32) : Op2 (F7_bakery x c) (F8_bakery x m) := by
  have h0 := h
  obtain ⟨nb, h⟩ := h
  have k1 : ¬ (1 : Int32) = 0 := by decide
  have kr : (0 : Int32) = 0 := rfl
  unfold F7_bakery F8_bakery
  rcases row1 h x with ⟨s, hs, rfl, hR, e1, e2⟩ | ⟨code, hc, e1, e2⟩
  rotate_left
  · rw [e1, e2, fk_bind_some, fk_bind_some, if_neg hc.ref.1, if_neg hc.ref.2.1]
    exact refC h0 hc
  obtain ⟨⟨a1, a2, a3, a4, a5, a6⟩, ⟨b1, b2, b3, b4⟩, ⟨d1, d2, d3⟩, hsh, ⟨e1', e2', e3', e4'⟩, ⟨f1, f2⟩⟩ := id h
  obtain ⟨-, -, n, t5, t6, t7, t8⟩ := id hR
  obtain ⟨c1, q1, q2, q3, q4, ⟨r0, r5, r6, r7, r8, r9, r10⟩, q6, q7⟩ := become_ok2 (c := c) (h := 20) (o := 19) (Or.inl ⟨rfl, rfl⟩)
  obtain ⟨arr, p1, ⟨kp1, kp2, kp3, kp4, kp5, kp6⟩⟩ := keepA_ok (st := m)
  rw [e1, e2, fk_bind_some, fk_bind_some, if_pos kr, if_pos Int32.le_rfl, q1, fk_bind_some, fk_chk_in hs (by decide), nI_clamp (by omega), p1, fk_bind_some, fk_let_e, fk_let_e]
  generalize hcR : sI (sI (sT c1 (some (3 + s))) 81 34 0) 80 34 (-1) = cR
  generalize hm0 : sI (sI (sAF m 10 arr) 12 0 (nI s)) 13 0 0 = m0
  have cRI : ∀ f i, i ≠ 34 → gI cR f i = gI c1 f i := fun f i z => by
    rw [← hcR, gI_ni z, gI_ni z]
    rfl
  have cRA : ∀ i, gA cR i = gA c1 i := fun i => by rw [← hcR]; rfl
  have cRL : ∀ i, gL cR i = gL c1 i := fun i => by rw [← hcR]; rfl
  have mRI : ∀ f i, f ≠ 12 → f ≠ 13 → gI m0 f i = gI m f i := fun f i z1 z2 => by
    rw [← hm0, gI_nf z2, gI_nf z1, gI_sAF]
  have mRA : ∀ i, i ≠ 10 → gA m0 i = gA m i := fun i z => by
    rw [← hm0, gA_sI, gA_sI, gA_ne z]
  have mR10 : gA m0 10 = arr := by
    rw [← hm0, gA_sI, gA_sI, gA_same]
  have mRL : ∀ i, gL m0 i = gL m i := fun i => by rw [← hm0]; rfl
  have hx : Tx0 cR m0 s n := ⟨hs, t5, by rw [cRI _ _ (by omega), q2 _ _ (by omega)]; exact t6, by rw [mRA 7 (by decide)]; exact t7, fun j hj => by rw [cRL, q4, mRL]; exact t8 j hj⟩
  have c19 : ∀ f, gI cR f 19 = gI c f 19 := fun f => (cRI f 19 (by decide)).trans (q2 f 19 (by decide))
  have c20 : ∀ f, gI cR f 20 = gI c1 f 20 := fun f => cRI f 20 (by decide)
  have hL : Lv cR m0 s n 0 cR m0 := by
    refine ⟨⟨by rw [← hcR]; rfl, by rw [← hcR, gI_nf (by decide), gI_same]; rfl, Nat.zero_le _, fun _ _ _ _ => rfl, fun _ _ _ _ _ _ => rfl, fun _ => rfl⟩, by rw [← hcR, gI_same], ⟨by rw [← hm0, gI_nf (by decide), gI_same], by rw [← hm0, gI_same]; rfl, fun _ _ _ _ => rfl, fun _ _ _ => rfl, fun _ => rfl⟩, ⟨nb, a1, ?_, ?_, nb, Nat.le_refl _, ?_⟩, ?_, ?_, ?_, ?_, ?_, ?_, ?_, ?_⟩
    · rw [c20, r0]; exact a2
    · rw [mRI 0 0 (by decide) (by decide)]; exact a3
    · rw [c19]; exact a2
    · intro b hb
      have w1 : gA cR 23 b = gA c 22 b := (congrFun (cRA 23) b).trans (q6 b hb).1
      have w2 : gA cR 26 b = gA c 25 b := (congrFun (cRA 26) b).trans (q6 b hb).2.1
      have w3 : gA cR 29 b = gA c 28 b := (congrFun (cRA 29) b).trans (q6 b hb).2.2
      rw [w1, w2, w3, mRA 1 (by decide), mRA 2 (by decide), mRA 3 (by decide)]
      exact ⟨a4 b hb, a5 b hb, a6 b hb⟩
    · intro j hj
      have w1 : gA cR 32 j = gA c 31 j := (congrFun (cRA 32) j).trans (q7 j hj)
      rw [w1, mRA 5 (by decide)]
      exact b1 j hj
    · rw [c20, r5, mRA 4 (by decide)]; exact b2
    · rw [c20, r6, mRA 4 (by decide)]; exact b3
    · rw [c20, r7, mRA 4 (by decide)]; exact b4
    · rw [c20, r8, mRI 6 0 (by decide) (by decide)]; exact d1
    · rw [c20, r9, mRI 7 0 (by decide) (by decide)]; exact d2
    · rw [c20, r10, mRI 8 0 (by decide) (by decide)]; exact d3
  have eRead : F4_read (3 + s) 20 c1 = B4_read_27 (3 + s) 20 (fk_lp1 (B4_read_17 (3 + s) 20) 1199) (nI 0) cR := by
    unfold F4_read
    rw [fk_let_e, fk_let_e, fk_let_e, hcR, show fk_fuel = 1199 + 1 from rfl, fk_lp1_s, B4_read_17, if_pos (show (0 : Int32) ≤ 0 by decide)]
    rfl
  have cI : ∀ c' pos, RdC cR c' s n pos → ∀ f i, i ≠ 20 → i ≠ 34 → gI c' f i = gI c f i := fun c' pos hr f i z1 z2 => (hr.2.2.2.1 f i z1 z2).trans ((cRI f i z2).trans (q2 f i z1))
  have cA : ∀ c' pos, RdC cR c' s n pos → ∀ i, i ≠ 23 → i ≠ 26 → i ≠ 29 → i ≠ 32 → i ≠ 35 → gA c' i = gA c i := fun c' pos hr i z1 z2 z3 z4 z5 => (hr.2.2.2.2.1 i z1 z2 z3 z4 z5).trans ((cRA i).trans (q3 i z1 z2 z3 z4))
  have cL : ∀ c' pos, RdC cR c' s n pos → ∀ i, gL c' i = gL c i := fun c' pos hr i => (hr.2.2.2.2.2 i).trans ((cRL i).trans (q4 i))
  have mI : ∀ m' pos, RdM m0 m' s pos → ∀ f i, f ≠ 0 → f ≠ 12 → f ≠ 13 → gI m' f i = gI m f i := fun m' pos hr f i z0 z1 z2 => (hr.2.2.1 f i z0 z2).trans (mRI f i z1 z2)
  have mA : ∀ m' pos, RdM m0 m' s pos → ∀ i, 6 ≤ i → i ≠ 9 → i ≠ 10 → gA m' i = gA m i := fun m' pos hr i z0 z1 z2 => (hr.2.2.2.1 i z0 z1).trans (mRA i z2)
  have mL : ∀ m' pos, RdM m0 m' s pos → ∀ i, gL m' i = gL m i := fun m' pos hr i => (hr.2.2.2.2 i).trans (mRL i)
  rcases read2 hx n 0 0 1199 1200 cR m0 (by omega) (Nat.le_refl _) (by omega) (by omega) hL with ⟨x, c', m', o1, o2, o3⟩ | ⟨x, c', m', f, o1, o2, o3, o4⟩
  · obtain ⟨c2, v1, v2, v3, v4, ⟨u0, u5, u6, u7, u8, u9, u10⟩, v6, v7⟩ := become_ok2 (c := c') (h := 19) (o := 20) (Or.inr ⟨rfl, rfl⟩)
    obtain ⟨hr, g80, gm, ⟨nb', n1, n2, n3, b0, n4, n5⟩, g2, g3, g4, g5, g6, g7, g8, g9⟩ := o3
    rw [eRead, o1, fk_bind_some, fk_let_e, g80, if_pos rfl, v1, fk_bind_some, show fk_lp3 B8_bakery_39 fk_fuel (nI s) 0 1 m0 = _ from o2]
    have hnb : nb ≤ nb' := by
      have e : gI c' 0 19 = gI c 0 19 := cI c' n hr 0 19 (by decide) (by decide)
      rw [n5, a2, nI_eq (by omega) (by omega)] at e
      omega
    have CI : ∀ f i, i ≠ 19 → i ≠ 20 → i ≠ 34 → gI c2 f i = gI c f i := fun f i z0 z1 z2 => (v2 f i z0).trans (cI c' n hr f i z1 z2)
    have CA : ∀ i, i ≠ 22 → i ≠ 25 → i ≠ 28 → i ≠ 31 → i ≠ 23 → i ≠ 26 → i ≠ 29 → i ≠ 32 → i ≠ 35 → gA c2 i = gA c i := fun i z1 z2 z3 z4 z5 z6 z7 z8 z9 => (v3 i z1 z2 z3 z4).trans (cA c' n hr i z5 z6 z7 z8 z9)
    have CL : ∀ i, gL c2 i = gL c i := fun i => (v4 i).trans (cL c' n hr i)
    have MI : ∀ f i, f ≠ 0 → f ≠ 12 → f ≠ 13 → f ≠ 15 → gI (sI m' 15 0 (-1)) f i = gI m f i := fun f i z0 z1 z2 z3 => by
      rw [gI_nf z3]
      exact mI m' n gm f i z0 z1 z2
    refine Op2.mk ⟨nb', ⟨n1, ?_, ?_, ?_, ?_, ?_⟩, ⟨?_, ?_, ?_, ?_⟩, ⟨?_, ?_, ?_⟩, ?_, ⟨?_, ?_, ?_, ?_⟩, ⟨?_, ?_⟩⟩
    · rw [u0]; exact n2
    · rw [gI_nf (by decide)]; exact n3
    · intro b hb
      rw [show gA c2 22 b = gA c' 23 b from (v6 b hb).1]
      exact (g2 b hb).1
    · intro b hb
      rw [show gA c2 25 b = gA c' 26 b from (v6 b hb).2.1]
      exact (g2 b hb).2.1
    · intro b hb
      rw [show gA c2 28 b = gA c' 29 b from (v6 b hb).2.2]
      exact (g2 b hb).2.2
    · intro j hj
      rw [show gA c2 31 j = gA c' 32 j from v7 j hj]
      exact g3 j hj
    · rw [u5]; exact g4
    · rw [u6]; exact g5
    · rw [u7]; exact g6
    · rw [u8, gI_nf (by decide)]; exact g7
    · rw [u9, gI_nf (by decide)]; exact g8
    · rw [u10, gI_nf (by decide)]; exact g9
    · intro s2 hs8
      have := hsh s2 hs8
      unfold isE isB isR at this ⊢
      rw [CI 100 (3 + s2) (by omega) (by omega) (by omega), CI 101 (3 + s2) (by omega) (by omega) (by omega), CI 102 (3 + s2) (by omega) (by omega) (by omega), CI 103 (3 + s2) (by omega) (by omega) (by omega), CL, gA_sI, gA_sI, mA m' n gm 6 (by decide) (by decide) (by decide), mA m' n gm 7 (by decide) (by decide) (by decide), show gL (sI m' 15 0 (-1)) 8 = gL m 8 from mL m' n gm 8]
      rcases this with z | ⟨z1, b, z2, z3⟩ | z
      · exact Or.inl z
      · exact Or.inr (Or.inl ⟨z1, b, by omega, z3⟩)
      · exact Or.inr (Or.inr z)
    · rw [v2 80 34 (by decide), g80, gI_same]
    · rw [CI 21 36 (by decide) (by decide) (by decide), MI 17 0 (by decide) (by decide) (by decide) (by decide)]; exact e2'
    · rw [CA 37 (by decide) (by decide) (by decide) (by decide) (by decide) (by decide) (by decide) (by decide) (by decide), gA_sI, mA m' n gm 11 (by decide) (by decide) (by decide)]; exact e3'
    · rw [CA 1 (by decide) (by decide) (by decide) (by decide) (by decide) (by decide) (by decide) (by decide) (by decide), gA_sI, mA m' n gm 12 (by decide) (by decide) (by decide)]; exact e4'
    · rw [CI 144 0 (by decide) (by decide) (by decide), MI 20 0 (by decide) (by decide) (by decide) (by decide)]; exact f1
    · rw [CI 144 0 (by decide) (by decide) (by decide)]
      unfold Kp at f2 ⊢
      rw [CI 0 21 (by decide) (by decide) (by decide), CI 5 21 (by decide) (by decide) (by decide), CI 6 21 (by decide) (by decide) (by decide), CI 7 21 (by decide) (by decide) (by decide), CI 8 21 (by decide) (by decide) (by decide), CI 9 21 (by decide) (by decide) (by decide), CI 10 21 (by decide) (by decide) (by decide), CA 24 (by decide) (by decide) (by decide) (by decide) (by decide) (by decide) (by decide) (by decide) (by decide), CA 27 (by decide) (by decide) (by decide) (by decide) (by decide) (by decide) (by decide) (by decide) (by decide), CA 30 (by decide) (by decide) (by decide) (by decide) (by decide) (by decide) (by decide) (by decide) (by decide), CA 33 (by decide) (by decide) (by decide) (by decide) (by decide) (by decide) (by decide) (by decide) (by decide), gA_sI, mA m' n gm 13 (by decide) (by decide) (by decide), MI 36 0 (by decide) (by decide) (by decide) (by decide)]
      exact f2
  · obtain ⟨hf, g80, pos, hr⟩ := o3
    obtain ⟨m2, p2, ⟨pf1, pf2, pf3⟩, pA, pT, pW, pb, pk, ps⟩ := again_ok (m := sI m' 15 0 (nI f)) (o := 10) (by decide)
    have m10 : gA (sI m' 15 0 (nI f)) 10 = arr := by
      rw [gA_sI, o4.2.2.2.1 10 (by decide) (by decide), mR10]
    rw [eRead, o1, fk_bind_some, fk_let_e, g80, if_neg (m1_nI (by omega)), show fk_lp3 B8_bakery_39 fk_fuel (nI s) 0 1 m0 = _ from o2, p2, fk_bind_some]
    have MI : ∀ f2 i, f2 ≠ 0 → f2 ≠ 6 → f2 ≠ 7 → f2 ≠ 12 → f2 ≠ 13 → f2 ≠ 15 → gI m2 f2 i = gI m f2 i := fun f2 i z0 z6 z7 z1 z2 z3 => by
      rw [pf1 f2 i z0 z6 z7, gI_nf z3]
      exact mI m' f o4 f2 i z0 z1 z2
    have MA : ∀ i, 6 ≤ i → i ≠ 9 → i ≠ 10 → gA m2 i = gA m i := fun i z0 z1 z2 => by
      rw [pf2 i z0, gA_sI]
      exact mA m' f o4 i z0 z1 z2
    have ML : ∀ i, gL m2 i = gL m i := fun i => (pf3 i).trans (mL m' f o4 i)
    have CI := cI c' pos hr
    have CA := cA c' pos hr
    have CL := cL c' pos hr
    refine ref6 ⟨nb, ⟨a1, ?_, ?_, ?_, ?_, ?_⟩, ⟨?_, ?_, ?_, ?_⟩, ⟨?_, ?_, ?_⟩, ?_, ⟨?_, ?_, ?_, ?_⟩, ⟨?_, ?_⟩⟩
    · rw [CI 0 19 (by decide) (by decide)]; exact a2
    · rw [pb, m10, kp4]; exact a3
    · intro b hb
      rw [CA 22 (by decide) (by decide) (by decide) (by decide) (by decide), (pA b hb).1, m10, (kp1 b hb).1]
      exact a4 b hb
    · intro b hb
      rw [CA 25 (by decide) (by decide) (by decide) (by decide) (by decide), (pA b hb).2.1, m10, (kp1 b hb).2.1]
      exact a5 b hb
    · intro b hb
      rw [CA 28 (by decide) (by decide) (by decide) (by decide) (by decide), (pA b hb).2.2, m10, (kp1 b hb).2.2]
      exact a6 b hb
    · intro j hj
      rw [CA 31 (by decide) (by decide) (by decide) (by decide) (by decide), pT j hj, m10, kp2 j hj]
      exact b1 j hj
    · rw [CI 5 19 (by decide) (by decide), pW 0 (by decide), m10, kp3 0 (by decide)]; exact b2
    · rw [CI 6 19 (by decide) (by decide), pW 1 (by decide), m10, kp3 1 (by decide)]; exact b3
    · rw [CI 7 19 (by decide) (by decide), pW 2 (by decide), m10, kp3 2 (by decide)]; exact b4
    · rw [CI 8 19 (by decide) (by decide), pk, m10, kp5]; exact d1
    · rw [CI 9 19 (by decide) (by decide), ps, m10, kp6]; exact d2
    · rw [CI 10 19 (by decide) (by decide), MI 8 0 (by decide) (by decide) (by decide) (by decide) (by decide) (by decide)]; exact d3
    · intro s2 hs8
      have := hsh s2 hs8
      unfold isE isB isR at this ⊢
      rw [CI 100 (3 + s2) (by omega) (by omega), CI 101 (3 + s2) (by omega) (by omega), CI 102 (3 + s2) (by omega) (by omega), CI 103 (3 + s2) (by omega) (by omega), CL, MA 6 (by decide) (by decide) (by decide), MA 7 (by decide) (by decide) (by decide), ML]
      exact this
    · rw [g80, pf1 15 0 (by decide) (by decide) (by decide), gI_same]
    · rw [CI 21 36 (by decide) (by decide), MI 17 0 (by decide) (by decide) (by decide) (by decide) (by decide) (by decide)]; exact e2'
    · rw [CA 37 (by decide) (by decide) (by decide) (by decide) (by decide), MA 11 (by decide) (by decide) (by decide)]; exact e3'
    · rw [CA 1 (by decide) (by decide) (by decide) (by decide) (by decide), MA 12 (by decide) (by decide) (by decide)]; exact e4'
    · rw [CI 144 0 (by decide) (by decide), MI 20 0 (by decide) (by decide) (by decide) (by decide) (by decide) (by decide)]; exact f1
    · rw [CI 144 0 (by decide) (by decide)]
      unfold Kp at f2 ⊢
      rw [CI 0 21 (by decide) (by decide), CI 5 21 (by decide) (by decide), CI 6 21 (by decide) (by decide), CI 7 21 (by decide) (by decide), CI 8 21 (by decide) (by decide), CI 9 21 (by decide) (by decide), CI 10 21 (by decide) (by decide), CA 24 (by decide) (by decide) (by decide) (by decide) (by decide), CA 27 (by decide) (by decide) (by decide) (by decide) (by decide), CA 30 (by decide) (by decide) (by decide) (by decide) (by decide), CA 33 (by decide) (by decide) (by decide) (by decide) (by decide), MA 13 (by decide) (by decide) (by decide), MI 36 0 (by decide) (by decide) (by decide) (by decide) (by decide) (by decide)]
      exact f2
