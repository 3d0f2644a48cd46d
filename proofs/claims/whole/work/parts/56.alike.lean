/-! alike -/
theorem fk_lp6_s {α1 α2 α3 α4 α5 α6 β γ : Type} (B : (α1 → α2 → α3 → α4 → α5 → α6 → β → Option γ) → α1 → α2 → α3 → α4 → α5 → α6 → β → Option γ) (n : Nat) (a : α1) (b : α2) (c : α3) (d : α4) (e : α5) (f : α6) (g : β) : fk_lp6 B (n + 1) a b c d e f g = B (fk_lp6 B n) a b c d e f g := rfl
theorem same_loop {h o K : Nat} {c : fkS} (hK : K ≤ 16) (h1 : gI c 124 h = nI K) : ∀ (d j fu : Nat), j + d = K → d < fu → fk_lp1 (B6_saysSame_15 h o) fu (nI j) c = some (alE (gA c (h + 2)) (gA c (o + 2)) d j, c) := by
  intro d
  induction d with
  | zero =>
    intro j fu hj hf
    obtain ⟨w, rfl⟩ : ∃ w, fu = w + 1 := ⟨fu - 1, by omega⟩
    obtain rfl : j = K := by omega
    rw [fk_lp1_s, B6_saysSame_15, fk_let_e, h1, if_pos Int32.le_rfl]
    rfl
  | succ d ih =>
    intro j fu hj hf
    obtain ⟨w, rfl⟩ : ∃ w, fu = w + 1 := ⟨fu - 1, by omega⟩
    have q1 : ¬ nI K ≤ nI j := by
      rw [nI_leI (by omega) (by omega)]
      omega
    have q2 : ¬ (16 : Int32) ≤ nI j := by
      rw [show (16 : Int32) = nI 16 from rfl, nI_leI (by decide) (by omega)]
      omega
    rw [fk_lp1_s, B6_saysSame_15, fk_let_e, h1, if_neg q1, if_neg q2, if_neg q2, fk_chk_in (by omega) (by decide), fk_let_e, fk_chk_in (by omega) (by decide), fk_let_e, nI_clamp (by omega), alE]
    by_cases q : gA c (h + 2) j = gA c (o + 2) j
    · rw [if_pos q, if_pos q, nI_1, ih (j + 1) w (by omega) (by omega)]
    · rw [if_neg q, if_neg q]
/-- do two say the same -/
def smV (K K2 : Nat) (f g : Nat → Int32) : Int32 := if K = K2 then alE f g K 0 else 0
theorem same_ok {h o K K2 : Nat} {c : fkS} (hK : K ≤ 16) (hK2 : K2 ≤ 16) (h1 : gI c 124 h = nI K) (h2 : gI c 124 o = nI K2) : F6_saysSame h o c = some (smV K K2 (gA c (h + 2)) (gA c (o + 2)), c) := by
  unfold F6_saysSame smV
  rw [fk_let_e, fk_let_e, h1, h2]
  by_cases q : K = K2
  · subst q
    rw [if_pos rfl, if_pos rfl]
    exact same_loop hK h1 K 0 fk_fuel (by omega) (by unfold fk_fuel; omega)
  · rw [if_neg (by rw [nI_eq (by omega) (by omega)]; exact q), if_neg q]
theorem smV_eq {K K2 : Nat} {f f' g g' : Nat → Int32} (h1 : ∀ i, i < K → f i = f' i) (h2 : ∀ i, i < K2 → g i = g' i) : smV K K2 f g = smV K K2 f' g' := by
  unfold smV
  by_cases q : K = K2
  · subst q
    rw [if_pos rfl, if_pos rfl]
    exact alE_eq h1 h2 K 0 (by omega)
  · rw [if_neg q, if_neg q]
theorem Vc.ke {h h' kd hN : Nat} {a mo : Int32} {c c' : fkS} (v : Vc h c kd hN a mo) (k : KeC h' c c') (n : h ≠ h') : Vc h c' kd hN a mo :=
  ⟨(k.1 120 h n).trans v.1, (k.1 121 h n).trans v.2.1, (k.1 122 h n).trans v.2.2.1, (k.1 123 h n).trans v.2.2.2⟩
theorem sameC {c1 : fkS} {kd hN kd2 hN2 n : Nat} {a mo a2 mo2 : Int32} {p : Nat → Int32} (V1 : Vc 40 c1 kd hN a mo) (V2 : Vc 41 c1 kd2 hN2 a2 mo2) (hn : n ≤ 8) (hhN : hN < 10) (hkd : kd < 7) (hhN2 : hN2 < 10) (hkd2 : kd2 < 7) (p1 : gI c1 61 38 = nI n) (p2 : ∀ i, i < n → gA c1 39 i = p i) :
    ∃ c2 c3, F6_speak 40 c1 = some ((), c2) ∧ F6_speak 41 c2 = some ((), c3) ∧ Vc 40 c3 kd hN a mo ∧ Vc 41 c3 kd2 hN2 a2 mo2 ∧ EqC c1 c3 ∧ F6_saysSame 40 41 c3 = some (smV (sayN kd (min n hN)) (sayN kd2 (min n hN2)) (sayF kd (min n hN) a (sg (nI hN) mo p)) (sayF kd2 (min n hN2) a2 (sg (nI hN2) mo2 p)), c3) := by
  obtain ⟨c2, e1, e2, e3, e4, e5⟩ := speakV (Or.inl rfl) V1 hn hhN hkd p1 p2
  obtain ⟨c3, f1, f2, f3, f4, f5⟩ := speakV (c := c2) (n := n) (p := p) (Or.inr rfl) (V2.ke e2 (by decide)) hn hhN2 hkd2 (by rw [e2.1 61 38 (by decide)]; exact p1) (fun i hi => by rw [e2.2.1 39 (by decide)]; exact p2 i hi)
  refine ⟨c2, c3, e1, f1, e3.ke f2 (by decide), f3, (e2.eq (Or.inl rfl)).tr (f2.eq (Or.inr rfl)), ?_⟩
  rw [same_ok (K := sayN kd (min n hN)) (K2 := sayN kd2 (min n hN2)) (sayN_le (by omega)) (sayN_le (by omega)) (by rw [f2.1 124 40 (by decide)]; exact e4) f4]
  rw [smV_eq (f' := sayF kd (min n hN) a (sg (nI hN) mo p)) (g' := sayF kd2 (min n hN2) a2 (sg (nI hN2) mo2 p)) (fun i hi => by rw [f2.2.1 (40 + 2) (by decide)]; exact e5 i hi) (fun i hi => f5 i hi)]
theorem al106 {k27 : Int32 → Int32 → Int32 → Int32 → fkS → Option (Int32 × fkS)} {K : Nat} {v1 v2 v3 v4 : Int32} {m : fkS} (hK : K ≤ 14) : ∀ (d j fu : Nat) (s0 : Int32), j + d = K → d < fu → fk_lp7 (B8_alike_106 k27) fu v1 v2 v3 v4 (nI K) s0 (nI j) m = B8_alike_148 k27 v1 v2 v3 v4 (if s0 = 0 then 0 else if d = 0 then s0 else alE (gA m 17) (gA m 15) d j) m := by
  intro d
  induction d with
  | zero =>
    intro j fu s0 hj hf
    obtain ⟨w, rfl⟩ : ∃ w, fu = w + 1 := ⟨fu - 1, by omega⟩
    obtain rfl : j = K := by omega
    rw [fk_lp7_s, B8_alike_106, if_pos Int32.le_rfl]
    by_cases z : s0 = 0
    · rw [if_pos z, z]
    · rw [if_neg z, if_pos rfl]
  | succ d ih =>
    intro j fu s0 hj hf
    obtain ⟨w, rfl⟩ : ∃ w, fu = w + 1 := ⟨fu - 1, by omega⟩
    have q1 : ¬ nI K ≤ nI j := by
      rw [nI_leI (by omega) (by omega)]
      omega
    rw [fk_lp7_s, B8_alike_106, if_neg q1]
    by_cases z : s0 = 0
    · rw [if_pos z, if_pos z, z]
    · rw [if_neg z, if_neg z, if_neg (show ¬ d + 1 = 0 by omega), fk_chk_in (by omega) (by decide), fk_let_e, fk_chk_in (by omega) (by decide), fk_let_e, nI_clamp (by omega), alE]
      by_cases q : gA m 17 j = gA m 15 j
      · rw [if_pos q, if_pos q, B8_alike_140, nI_1, ih (j + 1) w 1 (by omega) (by omega), if_neg (show ¬ (1 : Int32) = 0 by decide)]
        by_cases y : d = 0
        · rw [if_pos y, y]
          rfl
        · rw [if_neg y]
      · rw [if_neg q, if_neg q, B8_alike_140, nI_1, ih (j + 1) w 0 (by omega) (by omega), if_pos rfl]
theorem al101 {k27 : Int32 → Int32 → Int32 → Int32 → fkS → Option (Int32 × fkS)} {K K2 : Nat} {v1 v2 v3 v4 : Int32} {m : fkS} (hK : K ≤ 14) (hK2 : K2 ≤ 14) : (if nI K = nI K2 then B8_alike_101 k27 v1 v2 v3 v4 (nI K) 1 m else B8_alike_101 k27 v1 v2 v3 v4 (nI K) 0 m) = B8_alike_148 k27 v1 v2 v3 v4 (smV K K2 (gA m 17) (gA m 15)) m := by
  unfold B8_alike_101 smV
  rw [zl0, al106 hK K 0 fk_fuel (1 : Int32) (by omega) (by unfold fk_fuel; omega), al106 hK K 0 fk_fuel (nI 0) (by omega) (by unfold fk_fuel; omega), if_neg (show ¬ (1 : Int32) = 0 by decide), if_pos (show nI 0 = 0 from rfl)]
  by_cases q : K = K2
  · rw [if_pos (by rw [q]), if_pos q]
    by_cases y : K = 0
    · rw [if_pos y, y]
      rfl
    · rw [if_neg y]
  · rw [if_neg (by rw [nI_eq (by omega) (by omega)]; exact q), if_neg q]
    rfl
theorem al55 {k27 : Int32 → Int32 → Int32 → Int32 → fkS → Option (Int32 × fkS)} {K : Nat} {v1 v2 v3 v4 : Int32} (hK : K ≤ 14) : ∀ (d j fu : Nat) (m : fkS), j + d = K → d < fu → (∀ i, i < j → gA m 17 i = gA m 15 i) → ∃ arr, (∀ i, i < K → arr i = gA m 15 i) ∧
    fk_lp6 (B8_alike_55 k27) fu v1 v2 v3 v4 (nI K) (nI j) m = fk_bind (F8_tells v2 (sAF m 17 arr)) (fun _ st10 => if nI K = gI st10 24 0 then B8_alike_101 k27 v1 v2 v3 v4 (nI K) 1 st10 else B8_alike_101 k27 v1 v2 v3 v4 (nI K) 0 st10) := by
  intro d
  induction d with
  | zero =>
    intro j fu m hj hf h
    obtain ⟨w, rfl⟩ : ∃ w, fu = w + 1 := ⟨fu - 1, by omega⟩
    obtain rfl : j = K := by omega
    refine ⟨gA m 17, h, ?_⟩
    rw [fk_lp6_s, B8_alike_55, if_pos Int32.le_rfl, sAF_self]
    congr 1
  | succ d ih =>
    intro j fu m hj hf h
    obtain ⟨w, rfl⟩ : ∃ w, fu = w + 1 := ⟨fu - 1, by omega⟩
    have q1 : ¬ nI K ≤ nI j := by
      rw [nI_leI (by omega) (by omega)]
      omega
    obtain ⟨arr, e1, e2⟩ := ih (j + 1) w (sAF m 17 (upd (gA m 17) j (gA m 15 j))) (by omega) (by omega) (fun i hi => by
      rw [gA_same, gA_ne (by decide)]
      by_cases q : i = j
      · rw [q, upd_same]
      · rw [upd_ne q]
        exact h i (by omega))
    rw [gA_ne (by decide)] at e1
    rw [sAF_sAF] at e2
    refine ⟨arr, e1, ?_⟩
    rw [fk_lp6_s, B8_alike_55, if_neg q1, fk_chk_in (by omega) (by decide), fk_let_e, nI_clamp (by omega), fk_chk_in (by omega) (by decide), fk_let_e, nI_1, sA_def, e2]
theorem sayN_2 {kd m : Nat} (h : m ≤ 2) : sayN kd m ≤ 4 := by
  unfold sayN
  split
  · omega
  · split <;> omega
theorem alike_loop {c m : fkS} {nb b b2 kd hN kd2 hN2 : Nat} {a mo a2 mo2 : Int32} (hR : RelN c m nb) (hB : Bv c m b kd hN a mo) (hB2 : Bv c m b2 kd2 hN2 a2 mo2) : ∀ (d j fu : Nat) (v : Int32) (c1 m1 : fkS), j + d = 100 → d < fu → EqC c c1 → EqM m m1 → Vc 40 c1 kd hN a mo → Vc 41 c1 kd2 hN2 a2 mo2 →
    ∃ (r : Int32) (c' m' : fkS), fk_lp2 B7_alike_57 fu v (nI j) c1 = some (r, c') ∧ fk_lp4 B8_alike_27 fu (nI b) (nI b2) v (nI j) m1 = some (r, m') ∧ EqC c c' ∧ EqM m m' := by
  intro d
  induction d with
  | zero =>
    intro j fu v c1 m1 hj hf hC hM hV hV2
    obtain ⟨w, rfl⟩ : ∃ w, fu = w + 1 := ⟨fu - 1, by omega⟩
    obtain rfl : j = 100 := by omega
    rw [fk_lp2_s, fk_lp4_s, B7_alike_57, B8_alike_27, if_pos (by decide), if_pos (by decide)]
    exact ⟨v, c1, m1, rfl, rfl, hC, hM⟩
  | succ d ih =>
    intro j fu v c1 m1 hj hf hC hM hV hV2
    obtain ⟨w, rfl⟩ : ∃ w, fu = w + 1 := ⟨fu - 1, by omega⟩
    have q1 : ¬ (100 : Int32) ≤ nI j := by
      rw [show (100 : Int32) = nI 100 from rfl, nI_leI (by decide) (by omega)]
      omega
    have hK : sayN kd (min 2 hN) ≤ 4 := sayN_2 (by omega)
    have hK2 : sayN kd2 (min 2 hN2) ≤ 4 := sayN_2 (by omega)
    obtain ⟨c2, c3, s1, s2, s3, s4, s5, s6⟩ := sameC (c1 := sAF (sI c1 61 38 (nI 2)) 39 (dg 2 j (gA c1 39))) (p := dg 2 j (fun _ => 0)) (n := 2) hV hV2 (by decide) hB.2.2.1 hB.2.1 hB2.2.2.1 hB2.2.1 (by rw [gI_sAF, gI_same]) (fun i hi => by rw [gA_same]; exact dg_in hi)
    have hC3 : EqC c c3 := ((hC.sI rfl).sA rfl).tr s5
    obtain ⟨m2, u1, u2, u3, u4, u5⟩ := tellM (p := dg 2 j (fun _ => 0)) (n := 2) (m1 := sAF (sI m1 22 0 (nI 2)) 14 (dg 2 j (gA m1 14))) hB ((hM.sI rfl).sA rfl) (by decide) (by rw [gI_sAF, gI_same]) (fun i hi => by rw [gA_same]; exact dg_in hi)
    obtain ⟨arr, x1, x2⟩ := al55 (k27 := fk_lp4 B8_alike_27 w) (v1 := nI b) (v2 := nI b2) (v3 := v) (v4 := nI j) (show sayN kd (min 2 hN) ≤ 14 by omega) (sayN kd (min 2 hN)) 0 fk_fuel m2 (by omega) (by unfold fk_fuel; omega) (fun i hi => by omega)
    obtain ⟨m3, y1, y2, y3, y4, y5⟩ := tellM (p := dg 2 j (fun _ => 0)) (n := 2) (m1 := sAF m2 17 arr) hB2 (u3.sA rfl) (by decide) (by rw [gI_sAF, u2.1 22 0 (by decide) (by decide) (by decide), gI_sAF, gI_same]) (fun i hi => by rw [gA_ne (by decide), u2.2.1 14 (by decide), gA_same]; exact dg_in hi)
    rw [fk_lp2_s, fk_lp4_s, B7_alike_57, B8_alike_27, if_neg q1, if_neg q1, zl2, setNum_ok (by decide) (by omega), lays_ok (by decide) (by omega), fk_bind_some, fk_bind_some, s1, fk_bind_some, s2, fk_bind_some, s6, fk_bind_some, u1, fk_bind_some, fk_let_e, u4, show fk_lp6 (B8_alike_55 (fk_lp4 B8_alike_27 w)) fk_fuel (nI b) (nI b2) v (nI j) (nI (sayN kd (min 2 hN))) 0 m2 = _ from x2, y1, fk_bind_some, y4, al101 (by omega) (by omega)]
    rw [smV_eq (f := gA m3 17) (f' := sayF kd (min 2 hN) a (sg (nI hN) mo (dg 2 j (fun _ => 0)))) (g' := sayF kd2 (min 2 hN2) a2 (sg (nI hN2) mo2 (dg 2 j (fun _ => 0)))) (fun i hi => by rw [y2.2.1 17 (by decide), gA_same, x1 i hi]; exact u5 i hi) y5]
    generalize smV _ _ _ _ = S
    unfold B8_alike_148 B8_alike_156 B7_alike_113
    by_cases q : S = 0
    · rw [if_pos q, if_pos q, nI_1]
      exact ih (j + 1) w _ _ _ (by omega) (by omega) hC3 y3 s3 s4
    · rw [if_neg q, if_neg q, nI_1]
      exact ih (j + 1) w _ _ _ (by omega) (by omega) hC3 y3 s3 s4
theorem op_alike {c m : fkS} (h : Rel c m) (b p : Int32) : Op2 (F7_alike b p c) (F8_alike b p m) := by
  have h0 := h
  obtain ⟨nb, h⟩ := h
  have hnb := h.1.1
  have k1 : ¬ (1 : Int32) = 0 := by decide
  have kr : (0 : Int32) = 0 := rfl
  unfold F7_alike F8_alike B7_alike_22 B8_alike_16
  rcases rgQ (x := b) nb with hb | hb
  rotate_left
  · rw [lacks_out hnb h.1.2.1 hb, fk_bind_some, if_neg k1, isBird_out hnb h.1.2.2.1 hb, fk_bind_some, if_pos kr]
    exact ref1 h0
  · rw [lacks_in hnb h.1.2.1 hb, fk_bind_some, if_pos kr, isBird_in hnb h.1.2.2.1 hb, fk_bind_some, if_neg k1]
    rcases rgQ (x := p) nb with hp | hp
    rotate_left
    · rw [lacks_out hnb h.1.2.1 hp, fk_bind_some, if_neg k1, isBird_out hnb h.1.2.2.1 hp, fk_bind_some, if_pos kr]
      exact ref1 h0
    · rw [lacks_in hnb h.1.2.1 hp, fk_bind_some, if_pos kr, isBird_in hnb h.1.2.2.1 hp, fk_bind_some, if_neg k1]
      obtain ⟨bN, hb, rfl⟩ := hb
      obtain ⟨pN, hp, rfl⟩ := hp
      obtain ⟨kd, hN, a, mo, hB⟩ := h.bv hb
      obtain ⟨kd2, hN2, a2, mo2, hB2⟩ := h.bv hp
      obtain ⟨c1, t1, t2, t3⟩ := take_ok (Or.inl rfl) h hb hB EqC.rf
      obtain ⟨c2, r1, r2, r3⟩ := take_ok (Or.inr rfl) h hp hB2 (t2.eq (Or.inl rfl))
      rw [t1, fk_bind_some, r1, fk_bind_some]
      obtain ⟨r, c', m', e1, e2, e3, e4⟩ := alike_loop h hB hB2 100 0 fk_fuel 0 c2 m (by omega) (by unfold fk_fuel; omega) ((t2.eq (Or.inl rfl)).tr (r2.eq (Or.inr rfl))) EqM.rf (t3.ke r2 (by decide)) r3
      rw [zl0] at e1 e2 ⊢
      rw [e1, e2]
      exact Op2.mk ⟨nb, h.keep e3 e4⟩
