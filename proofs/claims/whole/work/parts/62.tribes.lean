/-! tribes: the wishes, what each bird brings, the call -/
theorem rg8 {x : Int32} : rg x 8 ↔ ¬ x < 0 ∧ x < 8 := by
  constructor
  · rintro ⟨a, ha, rfl⟩
    refine ⟨nI_pos (by omega), ?_⟩
    rw [zl8, nI_ltI (by omega) (by decide)]
    exact ha
  · rintro ⟨h0, h1⟩
    obtain ⟨j, hj, rfl⟩ := nI_of h0
    rw [zl8, nI_ltI hj (by decide)] at h1
    exact rg_nI h1
def WiF (c c' m m' : fkS) : Prop := EqC c c' ∧ EqM m m' ∧ gI c' 61 38 = gI c 61 38 ∧ gA c' 39 = gA c 39 ∧ gI m' 22 0 = gI m 22 0 ∧ gA m' 14 = gA m 14
theorem wish_loop {s T : Nat} {c0 m0 : fkS} (hs : s < 8) (hT : T ≤ 7) (t6 : gI c0 103 (3 + s) = nI T) (t8 : ∀ j, j < T → gL c0 (3 + s + 8) j = gL m0 8 (160 * s + j)) : ∀ (d j fu : Nat) (c m : fkS), j + d = T → d < fu → WiF c0 c m0 m → gI c 40 44 = nI T → gI m 31 0 = nI T → (∀ k, k < j → gA c 45 k = rowL m0 s k ∧ gA m 18 k = rowL m0 s k ∧ rg (rowL m0 s k) 8) →
    ∃ (r : Int32) (c' m' : fkS), fk_lp1 (B2_takeWishes_21 (3 + s)) fu (nI j) c = some (r, c') ∧ fk_lp2 B8_areWishes_23 fu (nI s) (nI j) m = some (r, m') ∧ WiF c0 c' m0 m' ∧ (r = 0 ∨ (r = 1 ∧ gI c' 40 44 = nI T ∧ gI m' 31 0 = nI T ∧ ∀ k, k < T → gA c' 45 k = rowL m0 s k ∧ gA m' 18 k = rowL m0 s k ∧ rg (rowL m0 s k) 8)) := by
  intro d
  induction d with
  | zero =>
    intro j fu c m hj hf hW h1 h2 h3
    obtain ⟨w, rfl⟩ : ∃ w, fu = w + 1 := ⟨fu - 1, by omega⟩
    have hj : j = T := by omega
    subst hj
    rw [fk_lp1_s, fk_lp2_s, B2_takeWishes_21, B8_areWishes_23, fk_let_e, fk_let_e, h1, h2, if_pos Int32.le_rfl, if_pos Int32.le_rfl]
    exact ⟨1, c, m, rfl, rfl, hW, Or.inr ⟨rfl, h1, h2, h3⟩⟩
  | succ d ih =>
    intro j fu c m hj hf hW h1 h2 h3
    obtain ⟨w, rfl⟩ : ∃ w, fu = w + 1 := ⟨fu - 1, by omega⟩
    obtain ⟨hC, hM, w1, w2, w3, w4⟩ := hW
    have q1 : ¬ nI T ≤ nI j := by
      rw [nI_leI (by omega) (by omega)]
      omega
    have q2 : ¬ (7 : Int32) ≤ nI j := by
      rw [zl7, nI_leI (by decide) (by omega)]
      omega
    have hL : (gL c (3 + s + 8) j).toInt32 = rowL m0 s j := by
      unfold rowL
      rw [hC.2.2, t8 j (by omega)]
    have eT : F8_toldAt (nI s) (nI j) m = some (rowL m0 s j, m) := by
      rw [told_ok hs (by omega), hM.2.2]
      rfl
    rw [fk_lp1_s, fk_lp2_s, B2_takeWishes_21, B8_areWishes_23, fk_let_e, fk_let_e, h1, h2, if_neg q1, if_neg q1, if_neg q2, number_in (show gI c 103 (3 + s) = nI T by rw [hC.1 _ _ (kCI_sh hs)]; exact t6) (by omega) (by omega), eT, fk_bind_some, fk_bind_some, hL, fk_chk_in (show j < 7 by omega) (by decide), fk_let_e, fk_chk_in (show j < 7 by omega) (by decide), fk_let_e, nI_clamp (by omega), sA_def m, gA_same, upd_same, fk_chk_in (show j < 7 by omega) (by decide), fk_let_e]
    have hM' : EqM m0 (sAF m 18 (upd (gA m 18) j (rowL m0 s j))) := hM.sA rfl
    rcases rgQ (x := rowL m0 s j) 8 with hp | hp
    · have hp' := rg8.mp hp
      rw [isState_in hp, fk_bind_some, if_neg (show ¬ (1 : Int32) = 0 by decide), if_neg hp'.1, if_pos hp'.2, sA_def, nI_1]
      refine ih (j + 1) w _ _ (by omega) (by omega) ⟨hC.sA rfl, hM', ?_, ?_, ?_, ?_⟩ ?_ ?_ (fun k hk => ?_)
      · rw [gI_sAF]; exact w1
      · rw [gA_ne (by decide)]; exact w2
      · rw [gI_sAF]; exact w3
      · rw [gA_ne (by decide)]; exact w4
      · rw [gI_sAF]; exact h1
      · rw [gI_sAF]; exact h2
      · rw [gA_same, gA_same]
        by_cases e : k = j
        · subst e
          rw [upd_same, upd_same]
          exact ⟨rfl, rfl, hp⟩
        · rw [upd_ne e, upd_ne e]
          exact h3 k (by omega)
    · rw [isState_out hp, fk_bind_some, if_pos rfl]
      have hF : WiF c0 c m0 (sAF m 18 (upd (gA m 18) j (rowL m0 s j))) := ⟨hC, hM', w1, w2, by rw [gI_sAF]; exact w3, by rw [gA_ne (by decide)]; exact w4⟩
      by_cases z : rowL m0 s j < 0
      · rw [if_pos z]
        exact ⟨0, _, _, rfl, rfl, hF, Or.inl rfl⟩
      · rw [if_neg z, if_neg (fun y => hp (rg8.mpr ⟨z, y⟩))]
        exact ⟨0, _, _, rfl, rfl, hF, Or.inl rfl⟩
theorem wish2 {s T : Nat} {c m : fkS} (hs : s < 8) (h : isR c m s) :
    ∃ (r : Int32) (c' m' : fkS), F2_takeWishes (3 + s) c = some (r, c') ∧ F8_areWishes (nI s) m = some (r, m') ∧ WiF c c' m m' ∧
      (r = 0 ∨ (r = 1 ∧ ∃ T, T ≤ 7 ∧ gI c' 40 44 = nI T ∧ gI m' 31 0 = nI T ∧ ∀ k, k < T → gA c' 45 k = rowL m s k ∧ gA m' 18 k = rowL m s k ∧ rg (rowL m s k) 8)) := by
  obtain ⟨t1, -, n, t5, t6, t7, t8⟩ := h
  unfold F2_takeWishes F8_areWishes
  rw [zl7, fk_let_e, fk_let_e, t6, fk_chk_in hs (by decide), fk_let_e, nI_clamp (by omega), t7, fk_let_e, fk_let_e, gI_same, fk_let_e]
  have hM' : EqM m (sI m 31 0 (nI n)) := EqM.rf.sI rfl
  by_cases q : n ≤ 7
  · rw [if_pos ((nI_leI (by omega) (by decide)).mpr q), if_pos ((nI_leI (by omega) (by decide)).mpr q)]
    obtain ⟨r, c', m', e1, e2, e3, e4⟩ := wish_loop (c0 := c) (m0 := m) hs q t6 t8 n 0 fk_fuel (sI c 40 44 (nI n)) (sI m 31 0 (nI n)) (by omega) (by unfold fk_fuel; omega) ⟨EqC.rf.sI rfl, hM', by rw [gI_nf (by decide)], rfl, by rw [gI_nf (by decide)], rfl⟩ gI_same gI_same (fun k hk => by omega)
    refine ⟨r, c', m', e1, e2, e3, ?_⟩
    rcases e4 with e4 | ⟨e4, e5⟩
    · exact Or.inl e4
    · exact Or.inr ⟨e4, n, q, e5⟩
  · rw [if_neg (fun z => q ((nI_leI (by omega) (by decide)).mp z)), if_neg (fun z => q ((nI_leI (by omega) (by decide)).mp z))]
    exact ⟨0, _, _, rfl, rfl, ⟨EqC.rf, hM', rfl, rfl, by rw [gI_nf (by decide)], rfl⟩, Or.inl rfl⟩
theorem endV_rg {c m : fkS} {nb b kd hN n : Nat} {a mo : Int32} {p : Nat → Int32} (hR : RelN c m nb) (hB : Bv c m b kd hN a mo) (p3 : ∀ i, i < n → rg (p i) 10) : rg (endV m kd hN n a mo p) 8 := by
  obtain ⟨hT, -, hS, -⟩ := hR.2.1
  have h3 : ∀ i, i < 40 → rg (gA m 5 i) 8 := fun i hi => by
    rw [← (hT i hi).1]
    exact (hT i hi).2
  have hs : rg (gA m 4 1) 8 := by
    rw [← hS.1]
    exact hS.2
  exact (goE_eq (c := sayN kd (min n hN)) (fun i hi => rfl) h3 (fun i hi => rfl) (say_rg hB.2.2.1 hB.2.2.2.1 hB.2.2.2.2.1 p3) (sayN kd (min n hN)) 0 _ (by omega) hs).2
theorem answer {c m c0 m0 : fkS} {nb T : Nat} {B W : Nat → Int32} {v3 : Int32} (hR : RelN c0 m0 nb) (hC : EqC c0 c) (hM : EqM m0 m) (hT : T ≤ 7) (hv : v3 = -1 ∨ rg v3 T) (hB : ∀ b, b < nb → gA c 47 b = B b ∧ gA m 19 b = B b) (c1 : gI c 40 44 = nI T) (m1 : gI m 31 0 = nI T) (hW : ∀ k, k < T → gA c 45 k = W k ∧ gA m 18 k = W k ∧ rg (W k) 8) :
    Op2 (fk_bind (F2_part (nI nb) c) fun _ st18 => if v3 = (-1 : Int32) then (fk_let (gI st18 41 44) fun x19 => some (x19, st18)) else (fk_bind (F2_whomHas v3 st18) fun x20 st21 => some (x20, st21)))
      (fk_bind (F8_parts 0 0 0 (sI m 35 0 (-1))) fun _ st18 => if v3 = (-1 : Int32) then (fk_let (gI st18 35 0) fun x19 => some (x19, st18)) else (fk_chk (fk_in v3 7) <| fk_let (gA st18 21 v3.toNatClampNeg) fun x20 => some (x20, st18))) := by
  have hnb := hR.1.1
  obtain ⟨c', o1, o2, o3, o4, o5⟩ := partC_loop (B := B) (W := W) hnb hT (fun i hi => (hW i hi).2.2) T 0 fk_fuel 0 (tb 0) (sI c 41 44 0) (by omega) (by unfold fk_fuel; omega) (Nat.le_refl _) ⟨hC.sI rfl, by rw [gI_nf (by decide)]; exact c1, fun i hi => (hW i hi).1, fun b hb => by
    have : tb 0 b = false := Nat.zero_testBit b
    rw [this, if_neg (show ¬ false = true by decide)]
    exact (hB b hb).1⟩ gI_same
  have hP : PtM nb T B W (sI m 35 0 (-1)) := ⟨by rw [gI_nf (by decide), hM.1 0 0 rfl]; exact hR.1.2.2.1, by rw [gI_nf (by decide)]; exact m1, fun b hb => (hB b hb).2, fun i hi => (hW i hi).2.1⟩
  obtain ⟨m', u1, u2, u3, u4⟩ := first hnb hT T 0 12 0 0 (sI m 35 0 (-1)) (by omega) (by omega) (by decide) (Nat.le_refl _) hP gI_same
  have hM' : EqM m0 m' := by
    refine hM.tr ⟨fun f i q => ?_, fun i q => ?_, fun i => u2.2.2.1 i⟩
    · have n35 : f ≠ 35 := fun z => by rw [z] at q; cases q
      rw [u2.1 f i n35, gI_nf n35]
    · have n20 : i ≠ 20 := fun z => by rw [z] at q; cases q
      have n21 : i ≠ 21 := fun z => by rw [z] at q; cases q
      rw [u2.2.1 i n20 n21]
      rfl
  unfold F2_part F8_parts
  rw [fk_let_e, show fk_lp2 B2_part_7 fk_fuel (nI nb) 0 (sI c 41 44 0) = _ from o1, show fk_lp3 G8_parts 12 0 0 0 (sI m 35 0 (-1)) = _ from u1, fk_bind_some, fk_bind_some]
  have hF : Rel c' m' := ⟨nb, hR.keep o2 hM'⟩
  by_cases q : v3 = -1
  · rw [if_pos q, if_pos q, fk_let_e, fk_let_e, o4, u3]
    exact Op2.mk hF
  · rw [if_neg q, if_neg q]
    obtain ⟨i, hi, rfl⟩ := hv.resolve_left q
    unfold F2_whomHas
    rw [if_neg (nI_pos (by omega)), fk_let_e, o3, if_neg (show ¬ nI T ≤ nI i by rw [nI_leI (by omega) (by omega)]; omega), if_pos (show nI i < (7 : Int32) by rw [zl7, nI_ltI (by omega) (by decide)]; omega), fk_chk_in (by omega) (by decide), fk_let_e, fk_bind_some, fk_chk_in (by omega) (by decide), fk_let_e, nI_clamp (by omega), o5, u4 i hi]
    rw [grW_eq T 0 (tb 0) (gA (sI c 41 44 0) 46) (gA (sI m 35 0 (-1)) 20) (fun i hi => by omega) i (by omega)]
    exact Op2.mk hF
theorem bring_loop {c0 m0 : fkS} {nb T n : Nat} {W p : Nat → Int32} {v3 : Int32} (hR : RelN c0 m0 nb) (hT : T ≤ 7) (hv : v3 = -1 ∨ rg v3 T) (hn : n ≤ 8) (p3 : ∀ i, i < n → rg (p i) 10) : ∀ (d j fu : Nat) (B : Nat → Int32) (c m : fkS), j + d = nb → d < fu → EqC c0 c → EqM m0 m → gI c 61 38 = nI n → (∀ i, i < n → gA c 39 i = p i) → gI m 22 0 = nI n → (∀ i, i < n → gA m 14 i = p i) →
    (∀ b, b < j → gA c 47 b = B b ∧ gA m 19 b = B b) → gI c 40 44 = nI T → gI m 31 0 = nI T → (∀ k, k < T → gA c 45 k = W k ∧ gA m 18 k = W k ∧ rg (W k) 8) → Op2 (fk_lp2 B7_tribes_90 fu v3 (nI j) c) (fk_lp2 B8_tribes_73 fu v3 (nI j) m) := by
  have hnb := hR.1.1
  intro d
  induction d with
  | zero =>
    intro j fu B c m hj hf hC hM g1 g2 g3 g4 hB c1 m1 hW
    obtain ⟨w, rfl⟩ : ∃ w, fu = w + 1 := ⟨fu - 1, by omega⟩
    obtain rfl : j = nb := by omega
    have e1 : gI c 0 19 = nI j := (hC.1 0 19 rfl).trans hR.1.2.1
    have e2 : gI m 0 0 = nI j := (hM.1 0 0 rfl).trans hR.1.2.2.1
    rw [fk_lp2_s, fk_lp2_s, B7_tribes_90, B8_tribes_73, fk_let_e, fk_let_e, fk_let_e, e1, e2, if_pos Int32.le_rfl, if_pos Int32.le_rfl, fk_let_e]
    exact answer hR hC hM hT hv hB c1 m1 hW
  | succ d ih =>
    intro j fu B c m hj hf hC hM g1 g2 g3 g4 hB c1 m1 hW
    obtain ⟨w, rfl⟩ : ∃ w, fu = w + 1 := ⟨fu - 1, by omega⟩
    have hb : j < nb := by omega
    have q1 : ¬ nI nb ≤ nI j := by
      rw [nI_leI (by omega) (by omega)]
      omega
    have e1 : gI c 0 19 = nI nb := (hC.1 0 19 rfl).trans hR.1.2.1
    have e2 : gI m 0 0 = nI nb := (hM.1 0 0 rfl).trans hR.1.2.2.1
    obtain ⟨kd, hN, a, mo, hBv⟩ := hR.bv hb
    obtain ⟨c2, t1, t2, t3⟩ := take_ok (Or.inl rfl) hR hb hBv hC
    have hC2 : EqC c0 c2 := hC.tr (t2.eq (Or.inl rfl))
    obtain ⟨c3, s1, s2, s3, s4, s5, -⟩ := brgC (p := p) (n := n) hR hBv hC2 t3 hn (by rw [t2.1 61 38 (by decide)]; exact g1) (fun i hi => by rw [t2.2.1 39 (by decide)]; exact g2 i hi) p3
    obtain ⟨m3, u1, u2, u3, u4, -⟩ := brgM (p := p) (n := n) hR hBv hM hn g3 g4 p3
    have hE := endV_rg hR hBv p3
    have f44 : ∀ f, gI c3 f 44 = gI c f 44 := fun f => (s2.1 f 44 (by decide)).trans (t2.1 f 44 (by decide))
    have fA : ∀ i, i ≠ 42 → gA c3 i = gA c i := fun i z => (s2.2.1 i z).trans (t2.2.1 i z)
    have eB : F2_bringsOf (nI j) (endV m0 kd hN n a mo p) c3 = some ((), sAF c3 47 (upd (gA c3 47) j (endV m0 kd hN n a mo p))) := by
      unfold F2_bringsOf
      rw [if_neg (nI_pos (by omega)), if_neg (show ¬ (7 : Int32) ≤ nI j by rw [zl7, nI_leI (by decide) (by omega)]; omega), fk_chk_in (by omega) (by decide), fk_let_e, nI_clamp (by omega), sA_def]
    rw [fk_lp2_s, fk_lp2_s, B7_tribes_90, B8_tribes_73, fk_let_e, e1, if_neg q1, fk_let_e, e2, if_neg q1, t1, fk_bind_some, s1, fk_bind_some, fk_let_e, s5, fk_bind_some, eB, fk_bind_some, fk_chk_t (show fk_in (1 : Int32) 3 = true by decide), fk_let_e, cl1, u1, fk_bind_some, fk_let_e, u4, fk_chk_in (by omega) (by decide), fk_let_e, nI_clamp (by omega), sA_def, nI_1]
    refine ih (j + 1) w (upd B j (endV m0 kd hN n a mo p)) _ _ (by omega) (by omega) (s3.sA rfl) (u3.sA rfl) ?_ (fun i hi => ?_) ?_ (fun i hi => ?_) (fun b hb2 => ?_) ?_ ?_ (fun k hk => ?_)
    · rw [gI_sAF, s2.1 61 38 (by decide), t2.1 61 38 (by decide)]; exact g1
    · rw [gA_ne (by decide), fA 39 (by decide)]; exact g2 i hi
    · rw [gI_sAF, u2.1 22 0 (by decide) (by decide) (by decide)]; exact g3
    · rw [gA_ne (by decide), u2.2.1 14 (by decide)]; exact g4 i hi
    · rw [gA_same, gA_same]
      by_cases z : b = j
      · rw [z, upd_same, upd_same, upd_same]
        exact ⟨rfl, rfl⟩
      · rw [upd_ne z, upd_ne z, upd_ne z, fA 47 (by decide), u2.2.1 19 (by decide)]
        exact hB b (by omega)
    · rw [gI_sAF, f44]; exact c1
    · rw [gI_sAF, u2.1 31 0 (by decide) (by decide) (by decide)]; exact m1
    · rw [gA_ne (by decide), gA_ne (by decide), fA 45 (by decide), u2.2.1 18 (by decide)]; exact hW k hk
theorem op_tribes {c m : fkS} (h : Rel c m) (x y p : Int32) : Op2 (F7_tribes x y p c) (F8_tribes x y p m) := by
  have h0 := h
  obtain ⟨nb, h⟩ := h
  have k1 : ¬ (1 : Int32) = 0 := by decide
  have kr : (0 : Int32) = 0 := rfl
  unfold F7_tribes F8_tribes B7_tribes_53 B7_tribes_80 B8_tribes_37 B7_tribes_87 B8_tribes_70
  rcases rows2 h x y with ⟨s, s', hs, hs', rfl, rfl, hR1, hR2, e1, e2⟩ | ⟨code, hc, e1, e2⟩
  rotate_left
  · rw [e1, e2, fk_bind_some, fk_bind_some, if_neg hc.ref.1, if_neg hc.ref.2.1]
    exact refFC h0 hc
  · rw [e1, e2, fk_bind_some, fk_bind_some, if_pos kr, if_pos Int32.le_rfl, fk_chk_in hs (by decide), nI_clamp (show s < 2 ^ 31 by omega)]
    obtain ⟨r, c', m', t1, t2, t3, t4, t5⟩ := take2 (lo := 0) hs hR1
    rw [t1, t2, fk_bind_some, fk_bind_some]
    have hK := h.keep t3 t4
    rcases t5 with rfl | ⟨rfl, n, hn, -, g1, g2, g3⟩
    · rw [if_pos kr, if_pos kr]
      exact refF6 ⟨nb, hK⟩
    · rw [if_neg k1, if_neg k1, fk_chk_in hs' (by decide), nI_clamp (show s' < 2 ^ 31 by omega)]
      obtain ⟨r, c2, m2, w1, w2, ⟨w3, w4, w5, w6, w7, w8⟩, w9⟩ := wish2 (T := 0) hs' (hR2.keep hs' t3 t4)
      rw [w1, w2, fk_bind_some, fk_bind_some]
      have hK2 := hK.keep w3 w4
      rcases w9 with rfl | ⟨rfl, T, hT, x1, x2, x3⟩
      · rw [if_pos kr, if_pos kr]
        exact refF6 ⟨nb, hK2⟩
      · rw [if_neg k1, if_neg k1]
        have fin : (p = -1 ∨ rg p T) → Op2 (fk_lp2 B7_tribes_90 fk_fuel p 0 c2) (fk_lp2 B8_tribes_73 fk_fuel p 0 m2) := fun hv =>
          bring_loop (p := gA m' 14) (n := n) (W := rowL m' s') hK2 hT hv hn (fun i hi => by rw [← (g3 i hi).1]; exact rg10 (g3 i hi).2.1 (g3 i hi).2.2) nb 0 fk_fuel (fun _ => 0) c2 m2 (by omega) (by have := h.1.1; unfold fk_fuel; omega) EqC.rf EqM.rf (w5.trans g1) (fun i hi => by rw [w6]; exact (g3 i hi).1) (w7.trans g2) (fun i hi => by rw [w8]) (fun b hb => by omega) x1 x2 x3
        by_cases q : p = -1
        · rw [if_pos q, if_pos q]
          exact fin (Or.inl q)
        · rw [if_neg q, if_neg q, fk_let_e, fk_let_e, x1, x2]
          rcases rgQ (x := p) T with hp | hp
          · rw [within_in (by omega) hp, fk_bind_some, if_neg k1, if_neg (nneg (by omega) hp), if_pos (lt_lit (by omega) hp)]
            exact fin (Or.inr hp)
          · rw [within_out (by omega) hp, fk_bind_some, if_pos kr]
            by_cases z : p < 0
            · rw [if_pos z]
              exact refF5 ⟨nb, hK2⟩
            · rw [if_neg z, if_neg (lt_of_not_le (ge_lit (by omega) hp z))]
              exact refF5 ⟨nb, hK2⟩
