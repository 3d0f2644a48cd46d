/-! next -/
def grpL (f : Nat → Int32) : Nat → Nat → Int32 → Int32
  | 0, _, g => g
  | d + 1, j, g => grpL f d (j + 1) (g * 100 + f j)
theorem grpL_eq {f f' : Nat → Int32} {K : Nat} (h : ∀ i, i < K → f i = f' i) : ∀ (d j : Nat) (g : Int32), j + d ≤ K → grpL f d j g = grpL f' d j g := by
  intro d
  induction d with
  | zero => intro j g _; rfl
  | succ d ih =>
    intro j g hj
    unfold grpL
    rw [h j (by omega), ih (j + 1) _ (by omega)]
theorem upd_over {f : Nat → Int32} {k : Nat} {x y : Int32} : upd (upd f k x) k y = upd f k y := by
  funext i
  unfold upd
  by_cases q : i = k
  · rw [if_pos q, if_pos q]
  · rw [if_neg q, if_neg q, if_neg q]
theorem worst40 {k9 : Int32 → Int32 → Int32 → fkS → Option (Int32 × fkS)} {v1 v2 : Int32} {k K : Nat} (hk : k < 7) (hK : K ≤ 16) : ∀ (d j fu : Nat) (m : fkS), j + d = K → d < fu → gI m 24 0 = nI K →
    fk_lp4 (B8_worst_40 k9) fu v1 v2 (nI k) (nI j) m = k9 v1 v2 (nI (k + 1)) (sAF m 16 (upd (gA m 16) k (grpL (gA m 15) d j (gA m 16 k)))) := by
  intro d
  induction d with
  | zero =>
    intro j fu m hj hf h
    obtain ⟨w, rfl⟩ : ∃ w, fu = w + 1 := ⟨fu - 1, by omega⟩
    obtain rfl : j = K := by omega
    rw [fk_lp4_s, B8_worst_40, fk_let_e, h, if_pos Int32.le_rfl, nI_1, upd_self (show grpL (gA m 15) 0 j (gA m 16 k) = gA m 16 k from rfl), sAF_self]
  | succ d ih =>
    intro j fu m hj hf h
    obtain ⟨w, rfl⟩ : ∃ w, fu = w + 1 := ⟨fu - 1, by omega⟩
    have q1 : ¬ nI K ≤ nI j := by
      rw [nI_leI (by omega) (by omega)]
      omega
    rw [fk_lp4_s, B8_worst_40, fk_let_e, h, if_neg q1, fk_chk_in hk (by decide), fk_let_e, fk_chk_in (by omega) (by decide), fk_let_e, fk_chk_in hk (by decide), fk_let_e, nI_clamp (by omega), nI_clamp (by omega), nI_1, sA_def, ih (j + 1) w _ (by omega) (by omega) (by rw [gI_sAF]; exact h), sAF_sAF, gA_same, gA_ne (by decide), upd_over, upd_same]
    rfl
def mxF (L : Nat → Int32) : Nat → Nat → Int32 → Int32
  | 0, _, v => v
  | d + 1, j, v => mxF L d (j + 1) (fk_max v (L j))
theorem mxF_eq {L L' : Nat → Int32} {n : Nat} (h : ∀ i, i < n → L i = L' i) : ∀ (d j : Nat) (v : Int32), j + d ≤ n → mxF L d j v = mxF L' d j v := by
  intro d
  induction d with
  | zero => intro j v _; rfl
  | succ d ih =>
    intro j v hj
    unfold mxF
    rw [h j (by omega), ih (j + 1) _ (by omega)]
theorem cU_eq {J J' : Nat → Int32} {n : Nat} (h : ∀ i, i < n → (J i = 0 ↔ J' i = 0)) : ∀ (d j : Nat) (v : Int32), j + d ≤ n → cU J d j v = cU J' d j v := by
  intro d
  induction d with
  | zero => intro j v _; rfl
  | succ d ih =>
    intro j v hj
    rw [cU_s, cU_s]
    by_cases q : J j = 0
    · rw [if_pos q, if_pos ((h j (by omega)).mp q), ih (j + 1) _ (by omega)]
    · rw [if_neg q, if_neg (fun z => q ((h j (by omega)).mpr z)), ih (j + 1) _ (by omega)]
def grJ (G : Nat → Int32) (k e : Nat) : Int32 := if G e = G k then 1 else 0
theorem worst109 {k96 : Int32 → Int32 → fkS → Option (Int32 × fkS)} {v3 : Int32} {k : Nat} {m : fkS} (hk : k < 7) : ∀ (d j fu : Nat) (v : Int32), j + d = 7 → d < fu → fk_lp4 (B8_worst_109 k96) fu v3 (nI k) v (nI j) m = k96 (fk_max v3 (cU (grJ (gA m 16) k) d j v)) (nI (k + 1)) m := by
  intro d
  induction d with
  | zero =>
    intro j fu v hj hf
    obtain ⟨w, rfl⟩ : ∃ w, fu = w + 1 := ⟨fu - 1, by omega⟩
    obtain rfl : j = 7 := by omega
    rw [fk_lp4_s, B8_worst_109, if_pos (show (7 : Int32) ≤ nI 7 by decide), nI_1]
    rfl
  | succ d ih =>
    intro j fu v hj hf
    obtain ⟨w, rfl⟩ : ∃ w, fu = w + 1 := ⟨fu - 1, by omega⟩
    have q1 : ¬ (7 : Int32) ≤ nI j := by
      rw [show (7 : Int32) = nI 7 from rfl, nI_leI (by decide) (by omega)]
      omega
    rw [fk_lp4_s, B8_worst_109, if_neg q1, fk_chk_in (by omega) (by decide), fk_let_e, fk_chk_in hk (by decide), fk_let_e, nI_clamp (by omega), nI_clamp (by omega), cU_s, B8_worst_136, B8_worst_136, nI_1]
    have hg : grJ (gA m 16) k j = (if gA m 16 j = gA m 16 k then 1 else 0) := rfl
    rw [hg]
    by_cases q : gA m 16 j = gA m 16 k
    · rw [if_pos q, if_pos q, if_neg (show ¬ (1 : Int32) = 0 by decide)]
      exact ih (j + 1) w _ (by omega) (by omega)
    · rw [if_neg q, if_neg q, if_pos rfl]
      exact ih (j + 1) w _ (by omega) (by omega)
theorem worst96 {m : fkS} : ∀ (d j fu : Nat) (v : Int32), j + d = 7 → d < fu → fk_lp2 B8_worst_96 fu v (nI j) m = some (mxF (fun k => cU (grJ (gA m 16) k) 7 0 0) d j v, m) := by
  intro d
  induction d with
  | zero =>
    intro j fu v hj hf
    obtain ⟨w, rfl⟩ : ∃ w, fu = w + 1 := ⟨fu - 1, by omega⟩
    obtain rfl : j = 7 := by omega
    rw [fk_lp2_s, B8_worst_96, if_pos (show (7 : Int32) ≤ nI 7 by decide)]
    rfl
  | succ d ih =>
    intro j fu v hj hf
    obtain ⟨w, rfl⟩ : ∃ w, fu = w + 1 := ⟨fu - 1, by omega⟩
    have q1 : ¬ (7 : Int32) ≤ nI j := by
      rw [show (7 : Int32) = nI 7 from rfl, nI_leI (by decide) (by omega)]
      omega
    have e := worst109 (k96 := fk_lp2 B8_worst_96 w) (v3 := v) (m := m) (show j < 7 by omega) 7 0 fk_fuel 0 (by omega) (by unfold fk_fuel; omega)
    rw [fk_lp2_s, B8_worst_96, if_neg q1, show fk_lp4 (B8_worst_109 (fk_lp2 B8_worst_96 w)) fk_fuel v (nI j) 0 0 m = _ from e, ih (j + 1) w _ (by omega) (by omega)]
    rfl
theorem EqX.sA {i0 b i : Nat} {m m1 : fkS} {v : Nat → Int32} (h : EqX i0 b m m1) (hi : kMA i = false) (h0 : kMA i0 = true) : EqX i0 b m (sAF m1 i v) := by
  have hne : i0 ≠ i := fun z => by
    rw [z, hi] at h0
    cases h0
  refine ⟨h.1, fun j q n => ?_, fun k q => ?_, h.2.2.2⟩
  · rw [gA_sAF, if_neg (fun z => by rw [z, hi] at q; cases q)]
    exact h.2.1 j q n
  · rw [gA_sAF, if_neg hne]
    exact h.2.2.1 k q
/-- what a bird as one of kind k says of the pie p of one layer, as a number -/
def grV (hN : Nat) (a mo : Int32) (p : Nat → Int32) (k : Nat) : Int32 := grpL (sayF k (min 1 hN) a (sg (nI hN) mo p)) (sayN k (min 1 hN)) 0 (nI (sayN k (min 1 hN)))
theorem worst9 {c m : fkS} {b kd hN : Nat} {a mo : Int32} {p : Nat → Int32} (hB : Bv c m b kd hN a mo) : ∀ (d j fu : Nat) (m1 : fkS), j + d = 7 → d < fu → EqX 1 b m m1 → gI m1 22 0 = nI 1 → (∀ i, i < 1 → gA m1 14 i = p i) → (∀ k, k < j → gA m1 16 k = grV hN a mo p k) →
    ∃ m', fk_lp3 B8_worst_9 fu (nI b) (nI kd) (nI j) m1 = fk_lp2 B8_worst_96 fk_fuel 0 0 m' ∧ EqM m m' ∧ ∀ k, k < 7 → gA m' 16 k = grV hN a mo p k := by
  obtain ⟨hb7, hkd, hhN, ha, hmo, -, j1, j2, j3, j4⟩ := id hB
  intro d
  induction d with
  | zero =>
    intro j fu m1 hj hf hX g1 g2 g3
    obtain ⟨w, rfl⟩ : ∃ w, fu = w + 1 := ⟨fu - 1, by omega⟩
    obtain rfl : j = 7 := by omega
    rw [fk_lp3_s, B8_worst_9, if_pos (show (7 : Int32) ≤ nI 7 by decide), fk_chk_in hb7 (by decide), fk_let_e, nI_clamp (by omega)]
    refine ⟨_, rfl, hX.done j1.symm, fun k hk => ?_⟩
    rw [gA_sA, if_neg (by decide)]
    exact g3 k hk
  | succ d ih =>
    intro j fu m1 hj hf hX g1 g2 g3
    obtain ⟨w, rfl⟩ : ∃ w, fu = w + 1 := ⟨fu - 1, by omega⟩
    have q1 : ¬ (7 : Int32) ≤ nI j := by
      rw [show (7 : Int32) = nI 7 from rfl, nI_leI (by decide) (by omega)]
      omega
    have hX2 : EqX 1 b m (sA m1 1 b (nI j)) := hX.put
    have hHB : HB (sA m1 1 b (nI j)) b j a mo (nI hN) (gA (sA m1 1 b (nI j)) 14) := ⟨by rw [gA_sA, if_pos rfl, upd_same], by rw [hX2.2.1 2 rfl (by decide)]; exact j2, by rw [hX2.2.1 3 rfl (by decide)]; exact j3, by rw [hX2.2.1 4 rfl (by decide)]; exact j4, rfl⟩
    obtain ⟨arr, e1, e2⟩ := tells_ok (st := sA m1 1 b (nI j)) (n := 1) (hN := hN) hb7 (by decide) hhN (by omega) hHB g1
    have hK : sayN j (min 1 hN) ≤ 16 := sayN_le (by omega)
    have hke : KeM (sA m1 1 b (nI j)) (sAF (sI (sA m1 1 b (nI j)) 24 0 (nI (sayN j (min 1 hN)))) 15 arr) := (KeM.rf.sI (Or.inl rfl)).sA
    have hX3 := hX2.ke hke (by decide)
    generalize hmm : sAF (sI (sA m1 1 b (nI j)) 24 0 (nI (sayN j (min 1 hN)))) 15 arr = mm at e1 hke hX3
    have i24 : gI mm 24 0 = nI (sayN j (min 1 hN)) := by rw [← hmm, gI_sAF, gI_same]
    have i22 : gI mm 22 0 = nI 1 := by
      rw [hke.1 22 0 (by decide) (by decide) (by decide)]
      exact g1
    have i14 : ∀ i, i < 1 → gA mm 14 i = p i := fun i hi => by
      rw [hke.2.1 14 (by decide), gA_sA, if_neg (by decide)]
      exact g2 i hi
    have i15 : ∀ i, i < sayN j (min 1 hN) → gA mm 15 i = sayF j (min 1 hN) a (sg (nI hN) mo p) i := fun i hi => by
      rw [← hmm, gA_same, e2 i hi]
      refine sayF_eq (fun i hi => ?_) i hi
      unfold sg
      rw [gA_sA, if_neg (by decide), g2 i (by omega)]
    have i16 : ∀ k, k < j → gA mm 16 k = grV hN a mo p k := fun k hk => by
      rw [hke.2.1 16 (by decide), gA_sA, if_neg (by decide)]
      exact g3 k hk
    rw [fk_lp3_s, B8_worst_9, if_neg q1, fk_chk_in hb7 (by decide), fk_let_e, nI_clamp (by omega), e1, fk_bind_some, fk_let_e, i24, fk_chk_in (show j < 7 by omega) (by decide), fk_let_e, nI_clamp (by omega), sA_def]
    have e40 := worst40 (k9 := fk_lp3 B8_worst_9 w) (v1 := nI b) (v2 := nI kd) (show j < 7 by omega) hK (sayN j (min 1 hN)) 0 fk_fuel (sAF mm 16 (upd (gA mm 16) j (nI (sayN j (min 1 hN))))) (by omega) (by unfold fk_fuel; omega) (by rw [gI_sAF]; exact i24)
    rw [show fk_lp4 (B8_worst_40 (fk_lp3 B8_worst_9 w)) fk_fuel (nI b) (nI kd) (nI j) 0 _ = _ from e40, sAF_sAF, gA_same, gA_ne (by decide), upd_over, upd_same]
    refine ih (j + 1) w _ (by omega) (by omega) (hX3.sA rfl rfl) (by rw [gI_sAF]; exact i22) (fun i hi => by rw [gA_ne (by decide)]; exact i14 i hi) (fun k hk => ?_)
    rw [gA_same]
    by_cases q : k = j
    · rw [q, upd_same]
      exact grpL_eq i15 _ 0 _ (by omega)
    · rw [upd_ne q]
      exact i16 k (by omega)
theorem sayN_1 {kd m : Nat} (h : m ≤ 1) : sayN kd m ≤ 2 := by
  unfold sayN
  split
  · omega
  · split <;> omega
theorem grp_iff {K K2 : Nat} {f g : Nat → Int32} (hK : K ≤ 2) (hK2 : K2 ≤ 2) (hf : ∀ i, i < K → rg (f i) 20) (hg : ∀ i, i < K2 → rg (g i) 20) : (smV K K2 f g = 0 ↔ (if grpL g K2 0 (nI K2) = grpL f K 0 (nI K) then (1 : Int32) else 0) = 0) := by
  have k1 : ¬ (1 : Int32) = 0 := by decide
  have v : ∀ (K : Nat) (f : Nat → Int32), K ≤ 2 → (∀ i, i < K → rg (f i) 20) → ∃ x y : Nat, x < 20 ∧ y < 20 ∧ (0 < K → f 0 = nI x) ∧ (1 < K → f 1 = nI y) ∧ grpL f K 0 (nI K) = nI (if K = 0 then 0 else if K = 1 then 100 + x else (200 + x) * 100 + y) := by
    intro K f hK hf
    obtain rfl | rfl | rfl : K = 0 ∨ K = 1 ∨ K = 2 := by omega
    · exact ⟨0, 0, by decide, by decide, fun h => by omega, fun h => by omega, rfl⟩
    · obtain ⟨x, hx, e⟩ := hf 0 (by decide)
      refine ⟨x, 0, hx, by decide, fun _ => e, fun h => by omega, ?_⟩
      show nI 1 * 100 + f 0 = _
      rw [e, zl100, pk_mul, nI_add]
      rfl
    · obtain ⟨x, hx, e⟩ := hf 0 (by decide)
      obtain ⟨y, hy, e2⟩ := hf 1 (by decide)
      refine ⟨x, y, hx, hy, fun _ => e, fun _ => e2, ?_⟩
      show (nI 2 * 100 + f 0) * 100 + f 1 = _
      rw [e, e2, zl100, pk_mul, nI_add, pk_mul, nI_add]
      rfl
  obtain ⟨x, y, hx, hy, fx, fy, e1⟩ := v K f hK hf
  obtain ⟨x2, y2, hx2, hy2, gx, gy, e2⟩ := v K2 g hK2 hg
  rw [e1, e2]
  have gen : ∀ A B : Nat, A < 2 ^ 31 → B < 2 ^ 31 → ((if nI B = nI A then (1 : Int32) else 0) = 0 ↔ ¬ B = A) := by
    intro A B hA hB
    by_cases q : B = A
    · rw [if_pos (by rw [q])]
      exact ⟨fun h => absurd h k1, fun h => absurd q h⟩
    · rw [if_neg (by rw [nI_eq hB hA]; exact q)]
      exact ⟨fun _ => q, fun _ => rfl⟩
  rw [gen _ _ (by (repeat' split) <;> omega) (by (repeat' split) <;> omega)]
  rcases (show K = 0 ∨ K = 1 ∨ K = 2 by omega) with rfl | rfl | rfl <;> rcases (show K2 = 0 ∨ K2 = 1 ∨ K2 = 2 by omega) with rfl | rfl | rfl
  · exact ⟨fun h => absurd h k1, fun h => absurd rfl h⟩
  · exact ⟨fun _ => (show ¬ 100 + x2 = 0 by omega), fun _ => rfl⟩
  · exact ⟨fun _ => (show ¬ (200 + x2) * 100 + y2 = 0 by omega), fun _ => rfl⟩
  · exact ⟨fun _ => (show ¬ 0 = 100 + x by omega), fun _ => rfl⟩
  · show (if f 0 = g 0 then (1 : Int32) else 0) = 0 ↔ ¬ 100 + x2 = 100 + x
    rw [fx (by decide), gx (by decide)]
    by_cases q : x = x2
    · rw [if_pos (by rw [q]), q]
      exact ⟨fun h => absurd h k1, fun h => absurd rfl h⟩
    · rw [if_neg (by rw [nI_eq (by omega) (by omega)]; exact q)]
      exact ⟨fun _ => by omega, fun _ => rfl⟩
  · exact ⟨fun _ => (show ¬ (200 + x2) * 100 + y2 = 100 + x by omega), fun _ => rfl⟩
  · exact ⟨fun _ => (show ¬ 0 = (200 + x) * 100 + y by omega), fun _ => rfl⟩
  · exact ⟨fun _ => (show ¬ 100 + x2 = (200 + x) * 100 + y by omega), fun _ => rfl⟩
  · show (if f 0 = g 0 then (if f 1 = g 1 then (1 : Int32) else 0) else 0) = 0 ↔ ¬ (200 + x2) * 100 + y2 = (200 + x) * 100 + y
    rw [fx (by decide), gx (by decide), fy (by decide), gy (by decide)]
    by_cases q : x = x2
    · rw [if_pos (by rw [q])]
      by_cases q2 : y = y2
      · rw [if_pos (by rw [q2]), q, q2]
        exact ⟨fun h => absurd h k1, fun h => absurd rfl h⟩
      · rw [if_neg (by rw [nI_eq (by omega) (by omega)]; exact q2)]
        exact ⟨fun _ => by omega, fun _ => rfl⟩
    · rw [if_neg (by rw [nI_eq (by omega) (by omega)]; exact q)]
      exact ⟨fun _ => by omega, fun _ => rfl⟩
/-- the class's side: two voices that stand but for their kinds -/
def Nv (h : Nat) (c : fkS) (hN : Nat) (a mo : Int32) : Prop := gI c 121 h = a ∧ gI c 122 h = mo ∧ gI c 123 h = nI hN
def NvC (c c1 : fkS) (hN : Nat) (a mo : Int32) (p : Nat → Int32) : Prop := EqC c c1 ∧ Nv 40 c1 hN a mo ∧ Nv 41 c1 hN a mo ∧ gI c1 61 38 = nI 1 ∧ ∀ i, i < 1 → gA c1 39 i = p i
theorem NvC.sI {c c1 : fkS} {hN h : Nat} {a mo v : Int32} {p : Nat → Int32} (q : NvC c c1 hN a mo p) (hh : h = 40 ∨ h = 41) : NvC c (sI c1 120 h v) hN a mo p := by
  obtain ⟨q1, ⟨q2, q3, q4⟩, ⟨q5, q6, q7⟩, q8, q9⟩ := q
  have hk : kCI 120 h = false := by
    rcases hh with rfl | rfl <;> rfl
  refine ⟨q1.sI hk, ⟨?_, ?_, ?_⟩, ⟨?_, ?_, ?_⟩, ?_, q9⟩ <;> (rw [gI_nf (by decide)]; assumption)
theorem NvC.ke {c c1 c2 : fkS} {hN h kd : Nat} {a mo : Int32} {p : Nat → Int32} (q : NvC c c1 hN a mo p) (hh : h = 40 ∨ h = 41) (k : KeC h c1 c2) (v : Vc h c2 kd hN a mo) : NvC c c2 hN a mo p := by
  obtain ⟨q1, ⟨q2, q3, q4⟩, ⟨q5, q6, q7⟩, q8, q9⟩ := q
  refine ⟨q1.tr (k.eq hh), ?_, ?_, ?_, fun i hi => ?_⟩
  · rcases hh with rfl | rfl
    · exact v.2
    · exact ⟨by rw [k.1 121 40 (by decide)]; exact q2, by rw [k.1 122 40 (by decide)]; exact q3, by rw [k.1 123 40 (by decide)]; exact q4⟩
  · rcases hh with rfl | rfl
    · exact ⟨by rw [k.1 121 41 (by decide)]; exact q5, by rw [k.1 122 41 (by decide)]; exact q6, by rw [k.1 123 41 (by decide)]; exact q7⟩
    · exact v.2
  · rw [k.1 61 38 (by omega)]
    exact q8
  · rw [k.2.1 39 (by omega)]
    exact q9 i hi
def sayK (hN : Nat) (a mo : Int32) (p : Nat → Int32) (k : Nat) : Nat → Int32 := sayF k (min 1 hN) a (sg (nI hN) mo p)
def smJ (hN : Nat) (a mo : Int32) (p : Nat → Int32) (k e : Nat) : Int32 := smV (sayN k (min 1 hN)) (sayN e (min 1 hN)) (sayK hN a mo p k) (sayK hN a mo p e)
theorem most59 {c : fkS} {k28 : Int32 → Int32 → fkS → Option (Int32 × fkS)} {hN k : Nat} {a mo v2 v3 : Int32} {p : Nat → Int32} (hhN : hN < 10) : ∀ (d j fu : Nat) (v : Int32) (c1 : fkS), j + d = 7 → d < fu → NvC c c1 hN a mo p → gI c1 124 40 = nI (sayN k (min 1 hN)) → (∀ i, i < sayN k (min 1 hN) → gA c1 42 i = sayK hN a mo p k i) →
    ∃ c', fk_lp4 (B7_mostLeft_59 k28) fu v2 v3 v (nI j) c1 = k28 (fk_max v2 (cU (smJ hN a mo p k) d j v)) (v3 + 1) c' ∧ NvC c c' hN a mo p := by
  intro d
  induction d with
  | zero =>
    intro j fu v c1 hj hf hC g1 g2
    obtain ⟨w, rfl⟩ : ∃ w, fu = w + 1 := ⟨fu - 1, by omega⟩
    obtain rfl : j = 7 := by omega
    refine ⟨c1, ?_, hC⟩
    rw [fk_lp4_s, B7_mostLeft_59, if_pos (show (7 : Int32) ≤ nI 7 by decide)]
    rfl
  | succ d ih =>
    intro j fu v c1 hj hf hC g1 g2
    obtain ⟨w, rfl⟩ : ∃ w, fu = w + 1 := ⟨fu - 1, by omega⟩
    have q1 : ¬ (7 : Int32) ≤ nI j := by
      rw [show (7 : Int32) = nI 7 from rfl, nI_leI (by decide) (by omega)]
      omega
    have hC2 : NvC c (sI c1 120 41 (nI j)) hN a mo p := hC.sI (Or.inr rfl)
    have hV : Vc 41 (sI c1 120 41 (nI j)) j hN a mo := ⟨gI_same, hC2.2.2.1⟩
    obtain ⟨c2, f1, f2, f3, f4, f5⟩ := speakV (p := p) (Or.inr rfl) hV (n := 1) (by decide) hhN (by omega) hC2.2.2.2.1 hC2.2.2.2.2
    have hC3 : NvC c c2 hN a mo p := hC2.ke (Or.inr rfl) f2 f3
    have g1' : gI c2 124 40 = nI (sayN k (min 1 hN)) := by
      rw [f2.1 124 40 (by decide), gI_ni (by decide)]
      exact g1
    have g2' : ∀ i, i < sayN k (min 1 hN) → gA c2 42 i = sayK hN a mo p k i := fun i hi => by
      rw [f2.2.1 42 (by decide)]
      exact g2 i hi
    have hs : F6_saysSame 40 41 c2 = some (smJ hN a mo p k j, c2) := by
      rw [same_ok (K := sayN k (min 1 hN)) (K2 := sayN j (min 1 hN)) (sayN_le (by omega)) (sayN_le (by omega)) g1' f4]
      unfold smJ
      rw [smV_eq (f' := sayK hN a mo p k) (g' := sayK hN a mo p j) (fun i hi => g2' i hi) (fun i hi => f5 i hi)]
    rw [fk_lp4_s, B7_mostLeft_59, if_neg q1, fk_let_e, f1, fk_bind_some, hs, fk_bind_some, B7_mostLeft_107, B7_mostLeft_107, Int32.add_zero, nI_1, cU_s]
    by_cases q : smJ hN a mo p k j = 0
    · rw [if_pos q, if_pos q]
      exact ih (j + 1) w v c2 (by omega) (by omega) hC3 g1' g2'
    · rw [if_neg q, if_neg q]
      exact ih (j + 1) w (v + 1) c2 (by omega) (by omega) hC3 g1' g2'
theorem most28 {c : fkS} {hN : Nat} {a mo : Int32} {p : Nat → Int32} (hhN : hN < 10) : ∀ (d j fu : Nat) (v : Int32) (c1 : fkS), j + d = 7 → d < fu → NvC c c1 hN a mo p →
    ∃ c', fk_lp2 B7_mostLeft_28 fu v (nI j) c1 = some (mxF (fun k => cU (smJ hN a mo p k) 7 0 0) d j v, c') ∧ NvC c c' hN a mo p := by
  intro d
  induction d with
  | zero =>
    intro j fu v c1 hj hf hC
    obtain ⟨w, rfl⟩ : ∃ w, fu = w + 1 := ⟨fu - 1, by omega⟩
    obtain rfl : j = 7 := by omega
    refine ⟨c1, ?_, hC⟩
    rw [fk_lp2_s, B7_mostLeft_28, if_pos (show (7 : Int32) ≤ nI 7 by decide)]
    rfl
  | succ d ih =>
    intro j fu v c1 hj hf hC
    obtain ⟨w, rfl⟩ : ∃ w, fu = w + 1 := ⟨fu - 1, by omega⟩
    have q1 : ¬ (7 : Int32) ≤ nI j := by
      rw [show (7 : Int32) = nI 7 from rfl, nI_leI (by decide) (by omega)]
      omega
    have hC2 : NvC c (sI c1 120 40 (nI j)) hN a mo p := hC.sI (Or.inl rfl)
    have hV : Vc 40 (sI c1 120 40 (nI j)) j hN a mo := ⟨gI_same, hC2.2.1⟩
    obtain ⟨c2, f1, f2, f3, f4, f5⟩ := speakV (p := p) (Or.inl rfl) hV (n := 1) (by decide) hhN (by omega) hC2.2.2.2.1 hC2.2.2.2.2
    have hC3 : NvC c c2 hN a mo p := hC2.ke (Or.inl rfl) f2 f3
    obtain ⟨c3, o1, o2⟩ := most59 (k28 := fk_lp2 B7_mostLeft_28 w) (k := j) (v2 := v) (v3 := nI j) hhN 7 0 fk_fuel 0 c2 (by omega) (by unfold fk_fuel; omega) hC3 f4 f5
    obtain ⟨c4, o3, o4⟩ := ih (j + 1) w (fk_max v (cU (smJ hN a mo p j) 7 0 0)) c3 (by omega) (by omega) o2
    refine ⟨c4, ?_, o4⟩
    rw [fk_lp2_s, B7_mostLeft_28, if_neg q1, fk_let_e, f1, fk_bind_some, show fk_lp4 (B7_mostLeft_59 (fk_lp2 B7_mostLeft_28 w)) fk_fuel v (nI j) 0 0 c2 = _ from o1, nI_1, o3]
    rfl
theorem lt_iff_nle {x y : Int32} : x < y ↔ ¬ y ≤ x := by
  rw [Int32.lt_iff_toInt_lt, Int32.le_iff_toInt_le]
  omega
theorem next_loop {c m : fkS} {nb b kd hN : Nat} {a mo : Int32} (hR : RelN c m nb) (hb : b < nb) (hB : Bv c m b kd hN a mo) : ∀ (d j fu : Nat) (v2 v3 : Int32) (c1 m1 : fkS), j + d = 10 → d < fu → EqC c c1 → EqM m m1 →
    ∃ (r : Int32) (c' m' : fkS), fk_lp4 B7_next_25 fu (nI b) v2 v3 (nI j) c1 = some (r, c') ∧ fk_lp4 B8_next_22 fu (nI b) v2 v3 (nI j) m1 = some (r, m') ∧ EqC c c' ∧ EqM m m' := by
  have hhN := hB.2.2.1
  intro d
  induction d with
  | zero =>
    intro j fu v2 v3 c1 m1 hj hf hC hM
    obtain ⟨w, rfl⟩ : ∃ w, fu = w + 1 := ⟨fu - 1, by omega⟩
    obtain rfl : j = 10 := by omega
    rw [fk_lp4_s, fk_lp4_s, B7_next_25, B8_next_22, if_pos (show (10 : Int32) ≤ nI 10 by decide), if_pos (show (10 : Int32) ≤ nI 10 by decide)]
    exact ⟨v2, c1, m1, rfl, rfl, hC, hM⟩
  | succ d ih =>
    intro j fu v2 v3 c1 m1 hj hf hC hM
    obtain ⟨w, rfl⟩ : ∃ w, fu = w + 1 := ⟨fu - 1, by omega⟩
    have q1 : ¬ (10 : Int32) ≤ nI j := by
      rw [show (10 : Int32) = nI 10 from rfl, nI_leI (by decide) (by omega)]
      omega
    have hp3 : ∀ i, i < 1 → rg (dg 1 j (fun _ => 0) i) 10 := fun i hi => dg_rg hi
    have hC2 : EqC c (sAF (sI c1 61 38 (nI 1)) 39 (dg 1 j (gA c1 39))) := (hC.sI rfl).sA rfl
    have hM2 : EqM m (sAF (sI m1 22 0 (nI 1)) 14 (dg 1 j (gA m1 14))) := (hM.sI rfl).sA rfl
    obtain ⟨c2, t1, t2, t3⟩ := take_ok (Or.inl rfl) hR hb hB hC2
    obtain ⟨c3, r1, r2, r3⟩ := take_ok (Or.inr rfl) hR hb hB (hC2.tr (t2.eq (Or.inl rfl)))
    have hN3 : NvC c c3 hN a mo (dg 1 j (fun _ => 0)) := by
      refine ⟨(hC2.tr (t2.eq (Or.inl rfl))).tr (r2.eq (Or.inr rfl)), (t3.ke r2 (by decide)).2, r3.2, ?_, fun i hi => ?_⟩
      · rw [r2.1 61 38 (by decide), t2.1 61 38 (by decide), gI_sAF, gI_same]
      · rw [r2.2.1 39 (by decide), t2.2.1 39 (by decide), gA_same]
        exact dg_in hi
    obtain ⟨c4, o1, o2⟩ := most28 hhN 7 0 fk_fuel 0 c3 (by omega) (by unfold fk_fuel; omega) hN3
    obtain ⟨m3, u1, u2, u3⟩ := worst9 (p := dg 1 j (fun _ => 0)) hB 7 0 fk_fuel (sAF (sI m1 22 0 (nI 1)) 14 (dg 1 j (gA m1 14))) (by omega) (by unfold fk_fuel; omega) (hM2.x rfl) (by rw [gI_sAF, gI_same]) (fun i hi => by rw [gA_same]; exact dg_in hi) (fun k hk => by omega)
    have u4 := worst96 (m := m3) 7 0 fk_fuel 0 (by omega) (by unfold fk_fuel; omega)
    have eC : F7_mostLeft (nI b) (sAF (sI c1 61 38 (nI 1)) 39 (dg 1 j (gA c1 39))) = some (mxF (fun k => cU (smJ hN a mo (dg 1 j (fun _ => 0)) k) 7 0 0) 7 0 0, c4) := by
      unfold F7_mostLeft
      rw [t1, fk_bind_some, r1, fk_bind_some]
      exact o1
    have eM : F8_worst (nI b) (sAF (sI m1 22 0 (nI 1)) 14 (dg 1 j (gA m1 14))) = some (mxF (fun k => cU (grJ (gA m3 16) k) 7 0 0) 7 0 0, m3) := by
      unfold F8_worst
      have h1 : gA (sAF (sI m1 22 0 (nI 1)) 14 (dg 1 j (gA m1 14))) 1 b = nI kd := by
        rw [hM2.2.1 1 rfl]
        exact hB.2.2.2.2.2.2.1
      have hb7 := hB.1
      rw [fk_chk_in hB.1 (by decide), fk_let_e, nI_clamp (by omega), h1]
      exact Eq.trans u1 u4
    have hX : mxF (fun k => cU (smJ hN a mo (dg 1 j (fun _ => 0)) k) 7 0 0) 7 0 0 = mxF (fun k => cU (grJ (gA m3 16) k) 7 0 0) 7 0 0 := by
      refine mxF_eq (n := 7) (fun k hk => cU_eq (n := 7) (fun e he => ?_) 7 0 0 (by omega)) 7 0 0 (by omega)
      unfold grJ smJ
      rw [u3 e he, u3 k hk]
      refine grp_iff (sayN_1 (by omega)) (sayN_1 (by omega)) ?_ ?_
      · exact say_rg hhN hB.2.2.2.1 hB.2.2.2.2.1 hp3
      · exact say_rg hhN hB.2.2.2.1 hB.2.2.2.2.1 hp3
    rw [fk_lp4_s, fk_lp4_s, B7_next_25, B8_next_22, if_neg q1, if_neg q1, zl1, setNum_ok (by decide) (by omega), lays_ok (by decide) (by omega), fk_bind_some, fk_bind_some, eC, eM, fk_bind_some, fk_bind_some, hX, B7_next_61, B7_next_61, B8_next_58, B8_next_58, nI_1]
    generalize mxF (fun k => cU (grJ (gA m3 16) k) 7 0 0) 7 0 0 = X
    by_cases q : v3 ≤ X
    · rw [if_pos q, if_neg (fun z => lt_iff_nle.mp z q)]
      exact ih (j + 1) w v2 v3 c4 m3 (by omega) (by omega) o2.1 u2
    · rw [if_neg q, if_pos (lt_iff_nle.mpr q)]
      exact ih (j + 1) w (nI j) X c4 m3 (by omega) (by omega) o2.1 u2
theorem op_next {c m : fkS} (h : Rel c m) (b : Int32) : Op2 (F7_next b c) (F8_next b m) := by
  have h0 := h
  obtain ⟨nb, h⟩ := h
  have hnb := h.1.1
  have k1 : ¬ (1 : Int32) = 0 := by decide
  have kr : (0 : Int32) = 0 := rfl
  unfold F7_next F8_next
  rcases rgQ (x := b) nb with hb | hb
  rotate_left
  · rw [lacks_out hnb h.1.2.1 hb, fk_bind_some, if_neg k1, isBird_out hnb h.1.2.2.1 hb, fk_bind_some, if_pos kr]
    exact refF1 h0
  · rw [lacks_in hnb h.1.2.1 hb, fk_bind_some, if_pos kr, isBird_in hnb h.1.2.2.1 hb, fk_bind_some, if_neg k1]
    obtain ⟨bN, hb, rfl⟩ := hb
    obtain ⟨kd, hN, a, mo, hB⟩ := h.bv hb
    obtain ⟨r, c', m', e1, e2, e3, e4⟩ := next_loop h hb hB 10 0 fk_fuel (-1) 7 c m (by omega) (by unfold fk_fuel; omega) EqC.rf EqM.rf
    rw [show fk_lp4 B7_next_25 fk_fuel (nI bN) (-1) 7 0 c = _ from e1, show fk_lp4 B8_next_22 fk_fuel (nI bN) (-1) 7 0 m = _ from e2]
    exact Op2.mk ⟨nb, h.keep e3 e4⟩
