/-! restore -/
def RcC (c s : fkS) : Prop := (∀ f i, ¬ (3 ≤ i ∧ i ≤ 10) → gI s f i = gI c f i) ∧ (∀ i, gA s i = gA c i) ∧ ∀ i, gL s i = gL c i
def RcM (m s : fkS) : Prop := (∀ f i, gI s f i = gI m f i) ∧ (∀ i, i ≠ 6 → gA s i = gA m i) ∧ ∀ i, gL s i = gL m i
def ShS (c m : fkS) (nb s : Nat) : Prop := isE c m s ∨ isB c m nb s ∨ isR c m s
theorem ShS.eq {c m c' m' : fkS} {nb s : Nat} (h : ShS c m nb s) (e1 : ∀ f, gI c' f (3 + s) = gI c f (3 + s)) (e2 : gA m' 6 s = gA m 6 s) (e3 : gA m' 7 s = gA m 7 s) (e4 : gL c' (3 + s + 8) = gL c (3 + s + 8)) (e5 : gL m' 8 = gL m 8) : ShS c' m' nb s := by
  unfold ShS isE isB isR at h ⊢
  rw [e1 100, e1 101, e1 102, e1 103, e2, e3, e4, e5]
  exact h
theorem rest_loop {c m : fkS} {nb nb' : Nat} (hnb : nb ≤ 7) (hnb' : nb' ≤ 7) (hc0 : gI c 0 19 = nI nb') (hm0 : gI m 0 0 = nI nb') (hsh : ∀ s, s < 8 → ShS c m nb s) : ∀ (d j fu : Nat) (c1 m1 : fkS), j + d = 8 → d < fu → RcC c c1 → RcM m m1 → (∀ s, s < j → ShS c1 m1 nb' s) → (∀ s, j ≤ s → s < 8 → (∀ f, gI c1 f (3 + s) = gI c f (3 + s)) ∧ gA m1 6 s = gA m 6 s) →
    ∃ c2 m2, fk_lp1 B7_restore_27 fu (nI j) c1 = some (nI nb', c2) ∧ fk_lp1 B8_restore_32 fu (nI j) m1 = some (nI nb', m2) ∧ RcC c c2 ∧ RcM m m2 ∧ ∀ s, s < 8 → ShS c2 m2 nb' s := by
  intro d
  induction d with
  | zero =>
    intro j fu c1 m1 hj hf hC hM h1 h2
    obtain ⟨w, rfl⟩ : ∃ w, fu = w + 1 := ⟨fu - 1, by omega⟩
    obtain rfl : j = 8 := by omega
    refine ⟨c1, m1, ?_, ?_, hC, hM, h1⟩
    · rw [fk_lp1_s, B7_restore_27, if_pos (show (8 : Int32) ≤ nI 8 by decide), fk_let_e, hC.1 0 19 (by omega), hc0]
    · rw [fk_lp1_s, B8_restore_32, if_pos (show (8 : Int32) ≤ nI 8 by decide), fk_let_e, hM.1, hm0]
  | succ d ih =>
    intro j fu c1 m1 hj hf hC hM h1 h2
    obtain ⟨w, rfl⟩ : ∃ w, fu = w + 1 := ⟨fu - 1, by omega⟩
    have q1 : ¬ (8 : Int32) ≤ nI j := by
      rw [show (8 : Int32) = nI 8 from rfl, nI_leI (by decide) (by omega)]
      omega
    have hj8 : j < 8 := by omega
    have k1 : ¬ (1 : Int32) = 0 := by decide
    have kr : (0 : Int32) = 0 := rfl
    have hS : ShS c1 m1 nb j := (hsh j hj8).eq (h2 j (Nat.le_refl _) hj8).1 (h2 j (Nat.le_refl _) hj8).2 (by rw [hM.2.1 7 (by decide)]) (hC.2.2 _) (hM.2.2 _)
    have hm1 : gI m1 0 0 = nI nb' := (hM.1 0 0).trans hm0
    have hc1 : gI c1 0 19 = nI nb' := (hC.1 0 19 (by omega)).trans hc0
    have skip : ShS c1 m1 nb' j → ∃ c2 m2, fk_lp1 B7_restore_27 w (nI (j + 1)) c1 = some (nI nb', c2) ∧ fk_lp1 B8_restore_32 w (nI (j + 1)) m1 = some (nI nb', m2) ∧ RcC c c2 ∧ RcM m m2 ∧ ∀ s, s < 8 → ShS c2 m2 nb' s := fun hN => by
      refine ih (j + 1) w c1 m1 (by omega) (by omega) hC hM (fun s hs => ?_) (fun s hs hs8 => h2 s (by omega) hs8)
      by_cases q : s = j
      · rw [q]
        exact hN
      · exact h1 s (by omega)
    rw [fk_lp1_s, fk_lp1_s, B7_restore_27, B8_restore_32, if_neg q1, if_neg q1, noShelf_in (rg_nI hj8), fk_bind_some, if_pos kr, fk_chk_in hj8 (by decide), fk_let_e, nI_clamp (by omega)]
    rcases id hS with hE | hB | hR
    · rw [isRow_E hj8 hE, fk_bind_some, if_pos kr, hE.1, if_neg (show ¬ (0 : Int32) = 1 by decide), B7_restore_82, nI_1, fk_chk_in hj8 (by decide), fk_let_e, fk_let_e, hE.2, hm1, if_pos (show (-1 : Int32) < nI nb' from ?_), B8_restore_66, nI_1]
      · exact skip (Or.inl hE)
      · rw [Int32.lt_iff_toInt_lt, nI_toInt (by omega), show (-1 : Int32).toInt = -1 from rfl]
        omega
    · rw [isRow_B hj8 hnb hB, fk_bind_some, if_pos kr]
      obtain ⟨t1, b, hb, t2, t3⟩ := id hB
      rw [t1, if_pos rfl, fk_chk_in hj8 (by decide), fk_let_e, t2, fk_chk_in hj8 (by decide), fk_let_e, fk_let_e, t3, hm1]
      by_cases q : b < nb'
      · rw [lacks_in hnb' hc1 (rg_nI q), fk_bind_some, if_pos kr, if_pos ((nI_ltI (by omega) (by omega)).mpr q), B7_restore_82, B8_restore_66, nI_1]
        exact skip (Or.inr (Or.inl ⟨t1, b, q, t2, t3⟩))
      · have hnr : ¬ rg (nI b) nb' := by
          rintro ⟨a, ha, e⟩
          rw [nI_eq (by omega) (by omega)] at e
          omega
        rw [lacks_out hnb' hc1 hnr, fk_bind_some, if_neg k1, if_neg (by rw [nI_ltI (by omega) (by omega)]; exact q), fk_chk_in hj8 (by decide), F5_holdNothing, fk_let_e, fk_let_e, fk_bind_some, fk_chk_in hj8 (by decide), fk_let_e, B7_restore_82, B8_restore_66, nI_1]
        have gI1 : ∀ f i, i ≠ 3 + j → gI (sI (sI c1 100 (3 + j) 0) 103 (3 + j) 0) f i = gI c1 f i := fun f i n => by
          rw [gI_ni n, gI_ni n]
        refine ih (j + 1) w _ _ (by omega) (by omega) ⟨fun f i n => ?_, hC.2.1, hC.2.2⟩ ⟨hM.1, fun i n => ?_, hM.2.2⟩ (fun s hs => ?_) (fun s hs hs8 => ⟨fun f => ?_, ?_⟩)
        · rw [gI1 f i (by omega)]
          exact hC.1 f i n
        · rw [gA_sA, if_neg n]
          exact hM.2.1 i n
        · by_cases q2 : s = j
          · rw [q2]
            refine Or.inl ⟨?_, ?_⟩
            · rw [gI_nf (by decide), gI_same]
            · rw [gA_sA, if_pos rfl, upd_same]
          · refine (h1 s (by omega)).eq (fun f => gI1 f _ (by omega)) ?_ ?_ rfl rfl
            · rw [gA_sA, if_pos rfl, upd_ne q2]
            · rw [gA_sA, if_neg (by decide)]
        · rw [gI1 f _ (by omega)]
          exact (h2 s (by omega) hs8).1 f
        · rw [gA_sA, if_pos rfl, upd_ne (by omega)]
          exact (h2 s (by omega) hs8).2
    · rw [isRow_R hj8 hR, fk_bind_some, if_neg k1, hR.1, if_neg (show ¬ (2 : Int32) = 1 by decide), B7_restore_82, B8_restore_66, nI_1]
      exact skip (Or.inr (Or.inr hR))
theorem op_restore {c m : fkS} (h : Rel c m) : Op2 (F7_restore c) (F8_restore m) := by
  have h0 := h
  obtain ⟨nb, ⟨a1, a2, a3, a4, a5, a6⟩, ⟨b1, b2, b3, b4⟩, ⟨d1, d2, d3⟩, hs, ⟨e1, e2, e3, e4⟩, ⟨f1, f2⟩⟩ := h
  unfold F7_restore F8_restore
  rw [fk_let_e, fk_let_e, ← f1]
  rcases f2 with f2 | ⟨f2, ⟨nb', g1, g2, g3⟩, k1, k2, k3, k4, k5, k6, k7, k8⟩
  · rw [if_pos f2, if_pos f2]
    exact ref6 h0
  · have kn : ¬ gI c 144 0 = 0 := by
      rw [f2]
      decide
    rw [if_neg kn, if_neg kn]
    obtain ⟨c', q1, q2, q3, q4, ⟨r0, r5, r6, r7, r8, r9, r10⟩, q6, q7⟩ := become_ok (c := c) (h := 19) (o := 21) (Or.inr ⟨rfl, rfl⟩)
    obtain ⟨m', p1, ⟨pf1, pf2, pf3⟩, pA, pT, pW, pb, pk, ps⟩ := again_ok (m := m) (o := 13) (by decide)
    rw [q1, p1, fk_bind_some, fk_bind_some, fk_let_e, fk_let_e]
    have gM : ∀ f i, f ≠ 0 → f ≠ 6 → f ≠ 7 → f ≠ 8 → gI (sI m' 8 0 (gI m' 36 0)) f i = gI m f i := fun f i n0 n6 n7 n8 => by
      rw [gI_nf n8]
      exact pf1 f i n0 n6 n7
    have hm0 : gI (sI m' 8 0 (gI m' 36 0)) 0 0 = nI nb' := by
      rw [gI_nf (by decide), pb]
      exact g3
    obtain ⟨c2, m2, o1, o2, ⟨u1, u2, u3⟩, ⟨v1, v2, v3⟩, o5⟩ := rest_loop (c := c') (m := sI m' 8 0 (gI m' 36 0)) (nb := nb) (nb' := nb') a1 g1 (r0.trans g2) hm0 (fun s hs8 => ShS.eq (hs s hs8) (fun f => q2 f _ (by omega)) (congrFun (pf2 6 (by decide)) s) (congrFun (pf2 7 (by decide)) s) (q4 _) (pf3 8)) 8 0 fk_fuel c' (sI m' 8 0 (gI m' 36 0)) (by omega) (by unfold fk_fuel; omega) ⟨fun _ _ _ => rfl, fun _ => rfl, fun _ => rfl⟩ ⟨fun _ _ => rfl, fun _ _ => rfl, fun _ => rfl⟩ (fun s hs => by omega) (fun s _ _ => ⟨fun _ => rfl, rfl⟩)
    rw [show fk_lp1 B7_restore_27 fk_fuel 0 c' = _ from o1, show fk_lp1 B8_restore_32 fk_fuel 0 (sI m' 8 0 (gI m' 36 0)) = _ from o2]
    have cI : ∀ f i, i ≠ 19 → ¬ (3 ≤ i ∧ i ≤ 10) → gI c2 f i = gI c f i := fun f i n n2 => (u1 f i n2).trans (q2 f i n)
    have cA : ∀ i, i ≠ 22 → i ≠ 25 → i ≠ 28 → i ≠ 31 → gA c2 i = gA c i := fun i n1 n2 n3 n4 => (u2 i).trans (q3 i n1 n2 n3 n4)
    have mI : ∀ f i, f ≠ 0 → f ≠ 6 → f ≠ 7 → f ≠ 8 → gI m2 f i = gI m f i := fun f i n0 n6 n7 n8 => (v1 f i).trans (gM f i n0 n6 n7 n8)
    have mA : ∀ i, 7 ≤ i → gA m2 i = gA m i := fun i n => (v2 i (by omega)).trans (pf2 i (by omega))
    have c19 : ∀ f, gI c2 f 19 = gI c' f 19 := fun f => u1 f 19 (by omega)
    refine Op2.mk ⟨nb', ⟨g1, ?_, ?_, ?_, ?_, ?_⟩, ⟨?_, ?_, ?_, ?_⟩, ⟨?_, ?_, ?_⟩, o5, ⟨?_, ?_, ?_, ?_⟩, ⟨?_, ?_⟩⟩
    · rw [c19, r0]; exact g2
    · rw [v1]; exact hm0
    · intro b hb
      have w1 : gA c2 22 b = gA c 24 b := (congrFun (u2 22) b).trans (q6 b hb).1
      have w2 : gA m2 1 b = gA m 13 b := (congrFun (v2 1 (by decide)) b).trans (pA b hb).1
      rw [w1, w2]
      exact (k1 b hb).1
    · intro b hb
      have w1 : gA c2 25 b = gA c 27 b := (congrFun (u2 25) b).trans (q6 b hb).2.1
      have w2 : gA m2 2 b = gA m 13 (7 + b) := (congrFun (v2 2 (by decide)) b).trans (pA b hb).2.1
      rw [w1, w2]
      exact (k1 b hb).2.1
    · intro b hb
      have w1 : gA c2 28 b = gA c 30 b := (congrFun (u2 28) b).trans (q6 b hb).2.2
      have w2 : gA m2 3 b = gA m 13 (14 + b) := (congrFun (v2 3 (by decide)) b).trans (pA b hb).2.2
      rw [w1, w2]
      exact (k1 b hb).2.2
    · intro j hj
      have w1 : gA c2 31 j = gA c 33 j := (congrFun (u2 31) j).trans (q7 j hj)
      have w2 : gA m2 5 j = gA m 13 (21 + j) := (congrFun (v2 5 (by decide)) j).trans (pT j hj)
      rw [w1, w2]
      exact k2 j hj
    · have w2 : gA m2 4 0 = gA m 13 61 := (congrFun (v2 4 (by decide)) 0).trans (pW 0 (by decide))
      rw [c19, r5, w2]
      exact k3
    · have w2 : gA m2 4 1 = gA m 13 62 := (congrFun (v2 4 (by decide)) 1).trans (pW 1 (by decide))
      rw [c19, r6, w2]
      exact k4
    · have w2 : gA m2 4 2 = gA m 13 63 := (congrFun (v2 4 (by decide)) 2).trans (pW 2 (by decide))
      rw [c19, r7, w2]
      exact k5
    · rw [c19, r8, v1, gI_nf (by decide), pk]
      exact k6
    · rw [c19, r9, v1, gI_nf (by decide), ps]
      exact k7
    · rw [c19, r10, v1, gI_same, pf1 36 0 (by decide) (by decide) (by decide)]
      exact k8
    · rw [cI 80 34 (by decide) (by omega), mI 15 0 (by decide) (by decide) (by decide) (by decide)]; exact e1
    · rw [cI 21 36 (by decide) (by omega), mI 17 0 (by decide) (by decide) (by decide) (by decide)]; exact e2
    · rw [cA 37 (by decide) (by decide) (by decide) (by decide), mA 11 (by decide)]; exact e3
    · rw [cA 1 (by decide) (by decide) (by decide) (by decide), mA 12 (by decide)]; exact e4
    · rw [cI 144 0 (by decide) (by omega), mI 20 0 (by decide) (by decide) (by decide) (by decide)]; exact f1
    · refine Or.inr ⟨?_, ?_⟩
      · rw [cI 144 0 (by decide) (by omega)]; exact f2
      · unfold Kp
        rw [cI 0 21 (by decide) (by omega), cA 24 (by decide) (by decide) (by decide) (by decide), cA 27 (by decide) (by decide) (by decide) (by decide), cA 30 (by decide) (by decide) (by decide) (by decide), cA 33 (by decide) (by decide) (by decide) (by decide), cI 5 21 (by decide) (by omega), cI 6 21 (by decide) (by omega), cI 7 21 (by decide) (by omega), cI 8 21 (by decide) (by omega), cI 9 21 (by decide) (by omega), cI 10 21 (by decide) (by omega), mA 13 (by decide), mI 36 0 (by decide) (by decide) (by decide) (by decide)]
        exact ⟨⟨nb', g1, g2, g3⟩, k1, k2, k3, k4, k5, k6, k7, k8⟩
