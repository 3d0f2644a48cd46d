/-! fits -/
def EqX (i0 b : Nat) (m m1 : fkS) : Prop := (∀ f i, kMI f = true → gI m1 f i = gI m f i) ∧ (∀ i, kMA i = true → i ≠ i0 → gA m1 i = gA m i) ∧ (∀ k, k ≠ b → gA m1 i0 k = gA m i0 k) ∧ ∀ i, gL m1 i = gL m i
theorem EqM.x {i0 b : Nat} {m m1 : fkS} (h : EqM m m1) (hi : kMA i0 = true) : EqX i0 b m m1 := ⟨h.1, fun i q _ => h.2.1 i q, fun k _ => by rw [h.2.1 i0 hi], h.2.2⟩
theorem EqX.put {i0 b : Nat} {m m1 : fkS} {v : Int32} (h : EqX i0 b m m1) : EqX i0 b m (sA m1 i0 b v) := by
  refine ⟨h.1, fun i q n => ?_, fun k n => ?_, h.2.2.2⟩
  · rw [gA_sA, if_neg n]
    exact h.2.1 i q n
  · rw [gA_sA, if_pos rfl, upd_ne n]
    exact h.2.2.1 k n
theorem EqX.ke {i0 b : Nat} {m m1 m2 : fkS} (h : EqX i0 b m m1) (k : KeM m1 m2) (h15 : i0 ≠ 15) : EqX i0 b m m2 := by
  refine ⟨fun f i q => ?_, fun i q n => ?_, fun j n => ?_, fun i => ?_⟩
  · rw [k.eq.1 f i q]
    exact h.1 f i q
  · rw [k.eq.2.1 i q]
    exact h.2.1 i q n
  · rw [k.2.1 i0 h15]
    exact h.2.2.1 j n
  · rw [k.2.2]
    exact h.2.2.2 i
theorem EqX.done {i0 b : Nat} {m m1 : fkS} {v : Int32} (h : EqX i0 b m m1) (hv : v = gA m i0 b) : EqM m (sA m1 i0 b v) := by
  refine ⟨h.1, fun i q => ?_, h.2.2.2⟩
  rw [gA_sA]
  by_cases n : i = i0
  · subst n
    rw [if_pos rfl]
    funext k
    unfold upd
    by_cases z : k = b
    · rw [if_pos z, z, hv]
    · rw [if_neg z]
      exact h.2.2.1 k z
  · rw [if_neg n]
    exact h.2.1 i q n
theorem kinds_loop {c m : fkS} {b kd hN n s nL : Nat} {a mo : Int32} {p L : Nat → Int32} (hB : Bv c m b kd hN a mo) (hs : s < 8) (hn : n ≤ 8) (hnL : nL ≤ 160) (t6 : gI c 103 (3 + s) = nI nL) (t7 : gA m 7 s = nI nL) (t8 : ∀ j, j < nL → (gL c (3 + s + 8) j).toInt32 = L j) (t9 : ∀ j, j < nL → (gL m 8 (160 * s + j)).toInt32 = L j) :
    ∀ (d j fu : Nat) (v : Int32) (c1 m1 : fkS), j + d = 7 → d < fu → EqC c c1 → EqX 1 b m m1 → Vc 40 (sI c1 120 40 (nI kd)) kd hN a mo → gI c1 61 38 = nI n → (∀ i, i < n → gA c1 39 i = p i) → gI m1 22 0 = nI n → (∀ i, i < n → gA m1 14 i = p i) →
    ∃ (r : Int32) (c' m' : fkS), fk_lp2 (B7_kindsThatSay_17 (3 + s)) fu v (nI j) c1 = some (r, c') ∧ fk_lp5 B8_kindsSo_13 fu (nI b) (nI s) (gA m 1 b) v (nI j) m1 = some (r, m') ∧ EqC c c' ∧ EqM m m' := by
  have hb7 := hB.1
  intro d
  induction d with
  | zero =>
    intro j fu v c1 m1 hj hf hC hM hV g1 g2 g3 g4
    obtain ⟨w, rfl⟩ : ∃ w, fu = w + 1 := ⟨fu - 1, by omega⟩
    obtain rfl : j = 7 := by omega
    rw [fk_lp2_s, fk_lp5_s, B7_kindsThatSay_17, B8_kindsSo_13, if_pos (by decide), if_pos (by decide), fk_chk_in hb7 (by decide), fk_let_e, show (nI b).toNatClampNeg = b from nI_clamp (by omega)]
    exact ⟨v, c1, _, rfl, rfl, hC, hM.done rfl⟩
  | succ d ih =>
    intro j fu v c1 m1 hj hf hC hM hV g1 g2 g3 g4
    obtain ⟨w, rfl⟩ : ∃ w, fu = w + 1 := ⟨fu - 1, by omega⟩
    have q1 : ¬ (7 : Int32) ≤ nI j := by
      rw [show (7 : Int32) = nI 7 from rfl, nI_leI (by decide) (by omega)]
      omega
    have hM2 : EqX 1 b m (sA m1 1 b (nI j)) := hM.put
    obtain ⟨hb7, hkd, hhN, ha, hmo, -, j1, j2, j3, j4⟩ := hB
    have hHB : HB (sA m1 1 b (nI j)) b j a mo (nI hN) (gA (sA m1 1 b (nI j)) 14) := ⟨by rw [gA_sA, if_pos rfl, upd_same], by rw [hM2.2.1 2 rfl (by decide)]; exact j2, by rw [hM2.2.1 3 rfl (by decide)]; exact j3, by rw [hM2.2.1 4 rfl (by decide)]; exact j4, rfl⟩
    have hV2 : Vc 40 (sI c1 120 40 (nI j)) j hN a mo := ⟨gI_same, by rw [gI_nf (by decide)]; have := hV.2.1; rw [gI_nf (by decide)] at this; exact this, by rw [gI_nf (by decide)]; have := hV.2.2.1; rw [gI_nf (by decide)] at this; exact this, by rw [gI_nf (by decide)]; have := hV.2.2.2; rw [gI_nf (by decide)] at this; exact this⟩
    have hC2 : EqC c (sI c1 120 40 (nI j)) := hC.sI rfl
    obtain ⟨c', s1, s2, s3, s4⟩ := jusC (h := 40) (s := s) (nL := nL) (p := p) (L := L) (Or.inl rfl) hs hV2 hn hhN (by omega) (by rw [gI_nf (by decide)]; exact g1) g2 hnL (by rw [hC2.1 _ _ (kCI_sh hs)]; exact t6) (fun i hi => by rw [hC2.2.2]; exact t8 i hi)
    obtain ⟨m', u1, u2⟩ := jusM (s := s) (nL := nL) (p := p) (L := L) hs hb7 hHB hn hhN (by omega) g3 (fun i hi => by rw [gA_sA, if_neg (by decide)]; exact g4 i hi) hnL (by rw [hM2.2.1 7 rfl (by decide)]; exact t7) (fun i hi => by rw [hM2.2.2.2]; exact t9 i hi)
    have e1 : gI c' 61 38 = nI n := by
      rw [s2.1 61 38 (by decide), gI_nf (by decide)]
      exact g1
    have e2 : ∀ i, i < n → gA c' 39 i = p i := fun i hi => by
      rw [s2.2.1 39 (by decide)]
      exact g2 i hi
    have e3 : gI m' 22 0 = nI n := by
      rw [u2.1 22 0 (by decide) (by decide) (by decide)]
      exact g3
    have e4 : ∀ i, i < n → gA m' 14 i = p i := fun i hi => by
      rw [u2.2.1 14 (by decide), gA_sA, if_neg (by decide)]
      exact g4 i hi
    have e5 : Vc 40 (sI c' 120 40 (nI kd)) kd hN a mo := ⟨gI_same, by rw [gI_nf (by decide)]; exact s3.2.1, by rw [gI_nf (by decide)]; exact s3.2.2.1, by rw [gI_nf (by decide)]; exact s3.2.2.2⟩
    have e6 : EqC c c' := hC2.tr (s2.eq (Or.inl rfl))
    have e7 := hM2.ke u2 (by decide)
    rw [fk_lp2_s, fk_lp5_s, B7_kindsThatSay_17, B8_kindsSo_13, if_neg q1, if_neg q1, fk_let_e, s1, fk_bind_some, s4, fk_bind_some, fk_chk_in hb7 (by decide), fk_let_e, show (nI b).toNatClampNeg = b from nI_clamp (by omega), u1, fk_bind_some]
    generalize jus L nL j hN n a mo p = r at *
    by_cases q : r = 0
    · rw [if_pos q, if_pos q, B7_kindsThatSay_64, B8_kindsSo_46, Int32.or_zero, nI_1]
      exact ih (j + 1) w _ _ _ (by omega) (by omega) e6 e7 e5 e1 e2 e3 e4
    · rw [if_neg q, if_neg q, B7_kindsThatSay_64, B8_kindsSo_46, nI_1]
      exact ih (j + 1) w _ _ _ (by omega) (by omega) e6 e7 e5 e1 e2 e3 e4
theorem heats_loop {c m : fkS} {b kd hN n s nL : Nat} {a mo : Int32} {p L : Nat → Int32} (hB : Bv c m b kd hN a mo) (hs : s < 8) (hn : n ≤ 8) (hnL : nL ≤ 160) (t6 : gI c 103 (3 + s) = nI nL) (t7 : gA m 7 s = nI nL) (t8 : ∀ j, j < nL → (gL c (3 + s + 8) j).toInt32 = L j) (t9 : ∀ j, j < nL → (gL m 8 (160 * s + j)).toInt32 = L j) :
    ∀ (d j fu : Nat) (v : Int32) (c1 m1 : fkS), j + d = 10 → d < fu → EqC c c1 → EqX 4 0 m m1 → Vc 40 (sI c1 123 40 (nI hN)) kd hN a mo → gI c1 61 38 = nI n → (∀ i, i < n → gA c1 39 i = p i) → gI m1 22 0 = nI n → (∀ i, i < n → gA m1 14 i = p i) →
    ∃ (r : Int32) (c' m' : fkS), fk_lp2 (B7_heatsThatSay_17 (3 + s)) fu v (nI j) c1 = some (r, c') ∧ fk_lp5 B8_heatsSo_13 fu (nI b) (nI s) (gA m 4 0) v (nI j) m1 = some (r, m') ∧ EqC c c' ∧ EqM m m' := by
  have hb7 := hB.1
  intro d
  induction d with
  | zero =>
    intro j fu v c1 m1 hj hf hC hM hV g1 g2 g3 g4
    obtain ⟨w, rfl⟩ : ∃ w, fu = w + 1 := ⟨fu - 1, by omega⟩
    obtain rfl : j = 10 := by omega
    rw [fk_lp2_s, fk_lp5_s, B7_heatsThatSay_17, B8_heatsSo_13, if_pos (by decide), if_pos (by decide), chk0 (by decide) (by decide), fk_let_e, show (0 : Int32).toNatClampNeg = 0 from rfl]
    exact ⟨v, c1, _, rfl, rfl, hC, hM.done rfl⟩
  | succ d ih =>
    intro j fu v c1 m1 hj hf hC hM hV g1 g2 g3 g4
    obtain ⟨w, rfl⟩ : ∃ w, fu = w + 1 := ⟨fu - 1, by omega⟩
    have q1 : ¬ (10 : Int32) ≤ nI j := by
      rw [show (10 : Int32) = nI 10 from rfl, nI_leI (by decide) (by omega)]
      omega
    have hM2 : EqX 4 0 m (sA m1 4 0 (nI j)) := hM.put
    obtain ⟨hb7, hkd, hhN, ha, hmo, -, j1, j2, j3, j4⟩ := hB
    have hHB : HB (sA m1 4 0 (nI j)) b kd a mo (nI j) (gA (sA m1 4 0 (nI j)) 14) := ⟨by rw [hM2.2.1 1 rfl (by decide)]; exact j1, by rw [hM2.2.1 2 rfl (by decide)]; exact j2, by rw [hM2.2.1 3 rfl (by decide)]; exact j3, by rw [gA_sA, if_pos rfl, upd_same], rfl⟩
    have hV2 : Vc 40 (sI c1 123 40 (nI j)) kd j a mo := ⟨by rw [gI_nf (by decide)]; have := hV.1; rw [gI_nf (by decide)] at this; exact this, by rw [gI_nf (by decide)]; have := hV.2.1; rw [gI_nf (by decide)] at this; exact this, by rw [gI_nf (by decide)]; have := hV.2.2.1; rw [gI_nf (by decide)] at this; exact this, gI_same⟩
    have hC2 : EqC c (sI c1 123 40 (nI j)) := hC.sI rfl
    obtain ⟨c', s1, s2, s3, s4⟩ := jusC (h := 40) (s := s) (nL := nL) (p := p) (L := L) (Or.inl rfl) hs hV2 hn (by omega) hkd (by rw [gI_nf (by decide)]; exact g1) g2 hnL (by rw [hC2.1 _ _ (kCI_sh hs)]; exact t6) (fun i hi => by rw [hC2.2.2]; exact t8 i hi)
    obtain ⟨m', u1, u2⟩ := jusM (s := s) (nL := nL) (p := p) (L := L) hs hb7 hHB hn (by omega) hkd g3 (fun i hi => by rw [gA_sA, if_neg (by decide)]; exact g4 i hi) hnL (by rw [hM2.2.1 7 rfl (by decide)]; exact t7) (fun i hi => by rw [hM2.2.2.2]; exact t9 i hi)
    have e1 : gI c' 61 38 = nI n := by
      rw [s2.1 61 38 (by decide), gI_nf (by decide)]
      exact g1
    have e2 : ∀ i, i < n → gA c' 39 i = p i := fun i hi => by
      rw [s2.2.1 39 (by decide)]
      exact g2 i hi
    have e3 : gI m' 22 0 = nI n := by
      rw [u2.1 22 0 (by decide) (by decide) (by decide)]
      exact g3
    have e4 : ∀ i, i < n → gA m' 14 i = p i := fun i hi => by
      rw [u2.2.1 14 (by decide), gA_sA, if_neg (by decide)]
      exact g4 i hi
    have e5 : Vc 40 (sI c' 123 40 (nI hN)) kd hN a mo := ⟨by rw [gI_nf (by decide)]; exact s3.1, by rw [gI_nf (by decide)]; exact s3.2.1, by rw [gI_nf (by decide)]; exact s3.2.2.1, gI_same⟩
    have e6 : EqC c c' := hC2.tr (s2.eq (Or.inl rfl))
    have e7 := hM2.ke u2 (by decide)
    rw [fk_lp2_s, fk_lp5_s, B7_heatsThatSay_17, B8_heatsSo_13, if_neg q1, if_neg q1, fk_let_e, s1, fk_bind_some, s4, fk_bind_some, chk0 (by decide) (by decide), fk_let_e, show (0 : Int32).toNatClampNeg = 0 from rfl, u1, fk_bind_some]
    generalize jus L nL kd j n a mo p = r at *
    by_cases q : r = 0
    · rw [if_pos q, if_pos q, B7_heatsThatSay_64, B8_heatsSo_46, Int32.or_zero, nI_1]
      exact ih (j + 1) w _ _ _ (by omega) (by omega) e6 e7 e5 e1 e2 e3 e4
    · rw [if_neg q, if_neg q, B7_heatsThatSay_64, B8_heatsSo_46, nI_1]
      exact ih (j + 1) w _ _ _ (by omega) (by omega) e6 e7 e5 e1 e2 e3 e4
theorem mouths_loop {c m : fkS} {b kd hN n s nL : Nat} {a mo : Int32} {p L : Nat → Int32} (hB : Bv c m b kd hN a mo) (hs : s < 8) (hn : n ≤ 8) (hnL : nL ≤ 160) (t6 : gI c 103 (3 + s) = nI nL) (t7 : gA m 7 s = nI nL) (t8 : ∀ j, j < nL → (gL c (3 + s + 8) j).toInt32 = L j) (t9 : ∀ j, j < nL → (gL m 8 (160 * s + j)).toInt32 = L j) :
    ∀ (d j fu : Nat) (v : Int32) (c1 m1 : fkS), j + d = 20 → d < fu → EqC c c1 → EqX 3 b m m1 → Vc 40 (sI c1 122 40 mo) kd hN a mo → gI c1 61 38 = nI n → (∀ i, i < n → gA c1 39 i = p i) → gI m1 22 0 = nI n → (∀ i, i < n → gA m1 14 i = p i) →
    ∃ (r : Int32) (c' m' : fkS), fk_lp2 (B7_mouthsThatSay_17 (3 + s)) fu v (nI j) c1 = some (r, c') ∧ fk_lp5 B8_mouthsSo_13 fu (nI b) (nI s) (gA m 3 b) v (nI j) m1 = some (r, m') ∧ EqC c c' ∧ EqM m m' := by
  have hb7 := hB.1
  intro d
  induction d with
  | zero =>
    intro j fu v c1 m1 hj hf hC hM hV g1 g2 g3 g4
    obtain ⟨w, rfl⟩ : ∃ w, fu = w + 1 := ⟨fu - 1, by omega⟩
    obtain rfl : j = 20 := by omega
    rw [fk_lp2_s, fk_lp5_s, B7_mouthsThatSay_17, B8_mouthsSo_13, if_pos (by decide), if_pos (by decide), fk_chk_in hb7 (by decide), fk_let_e, show (nI b).toNatClampNeg = b from nI_clamp (by omega)]
    exact ⟨v, c1, _, rfl, rfl, hC, hM.done rfl⟩
  | succ d ih =>
    intro j fu v c1 m1 hj hf hC hM hV g1 g2 g3 g4
    obtain ⟨w, rfl⟩ : ∃ w, fu = w + 1 := ⟨fu - 1, by omega⟩
    have q1 : ¬ (20 : Int32) ≤ nI j := by
      rw [show (20 : Int32) = nI 20 from rfl, nI_leI (by decide) (by omega)]
      omega
    have hM2 : EqX 3 b m (sA m1 3 b (nI j)) := hM.put
    obtain ⟨hb7, hkd, hhN, ha, hmo, -, j1, j2, j3, j4⟩ := hB
    have hHB : HB (sA m1 3 b (nI j)) b kd a (nI j) (nI hN) (gA (sA m1 3 b (nI j)) 14) := ⟨by rw [hM2.2.1 1 rfl (by decide)]; exact j1, by rw [hM2.2.1 2 rfl (by decide)]; exact j2, by rw [gA_sA, if_pos rfl, upd_same], by rw [hM2.2.1 4 rfl (by decide)]; exact j4, rfl⟩
    have hV2 : Vc 40 (sI c1 122 40 (nI j)) kd hN a (nI j) := ⟨by rw [gI_nf (by decide)]; have := hV.1; rw [gI_nf (by decide)] at this; exact this, by rw [gI_nf (by decide)]; have := hV.2.1; rw [gI_nf (by decide)] at this; exact this, gI_same, by rw [gI_nf (by decide)]; have := hV.2.2.2; rw [gI_nf (by decide)] at this; exact this⟩
    have hC2 : EqC c (sI c1 122 40 (nI j)) := hC.sI rfl
    obtain ⟨c', s1, s2, s3, s4⟩ := jusC (h := 40) (s := s) (nL := nL) (p := p) (L := L) (Or.inl rfl) hs hV2 hn hhN hkd (by rw [gI_nf (by decide)]; exact g1) g2 hnL (by rw [hC2.1 _ _ (kCI_sh hs)]; exact t6) (fun i hi => by rw [hC2.2.2]; exact t8 i hi)
    obtain ⟨m', u1, u2⟩ := jusM (s := s) (nL := nL) (p := p) (L := L) hs hb7 hHB hn hhN hkd g3 (fun i hi => by rw [gA_sA, if_neg (by decide)]; exact g4 i hi) hnL (by rw [hM2.2.1 7 rfl (by decide)]; exact t7) (fun i hi => by rw [hM2.2.2.2]; exact t9 i hi)
    have e1 : gI c' 61 38 = nI n := by
      rw [s2.1 61 38 (by decide), gI_nf (by decide)]
      exact g1
    have e2 : ∀ i, i < n → gA c' 39 i = p i := fun i hi => by
      rw [s2.2.1 39 (by decide)]
      exact g2 i hi
    have e3 : gI m' 22 0 = nI n := by
      rw [u2.1 22 0 (by decide) (by decide) (by decide)]
      exact g3
    have e4 : ∀ i, i < n → gA m' 14 i = p i := fun i hi => by
      rw [u2.2.1 14 (by decide), gA_sA, if_neg (by decide)]
      exact g4 i hi
    have e5 : Vc 40 (sI c' 122 40 mo) kd hN a mo := ⟨by rw [gI_nf (by decide)]; exact s3.1, by rw [gI_nf (by decide)]; exact s3.2.1, gI_same, by rw [gI_nf (by decide)]; exact s3.2.2.2⟩
    have e6 : EqC c c' := hC2.tr (s2.eq (Or.inl rfl))
    have e7 := hM2.ke u2 (by decide)
    rw [fk_lp2_s, fk_lp5_s, B7_mouthsThatSay_17, B8_mouthsSo_13, if_neg q1, if_neg q1, fk_let_e, s1, fk_bind_some, s4, fk_bind_some, fk_chk_in hb7 (by decide), fk_let_e, show (nI b).toNatClampNeg = b from nI_clamp (by omega), u1, fk_bind_some]
    generalize jus L nL kd hN n a (nI j) p = r at *
    by_cases q : r = 0
    · rw [if_pos q, if_pos q, B7_mouthsThatSay_64, B8_mouthsSo_46, Int32.or_zero, nI_1]
      exact ih (j + 1) w _ _ _ (by omega) (by omega) e6 e7 e5 e1 e2 e3 e4
    · rw [if_neg q, if_neg q, B7_mouthsThatSay_64, B8_mouthsSo_46, nI_1]
      exact ih (j + 1) w _ _ _ (by omega) (by omega) e6 e7 e5 e1 e2 e3 e4
theorem rg3 {x : Int32} : rg x 3 ↔ ¬ x < 0 ∧ x ≤ 2 := by
  constructor
  · rintro ⟨a, ha, rfl⟩
    refine ⟨nI_pos (by omega), ?_⟩
    rw [zl2, nI_leI (by omega) (by decide)]
    omega
  · rintro ⟨h0, h1⟩
    obtain ⟨j, hj, rfl⟩ := nI_of h0
    rw [zl2, nI_leI hj (by decide)] at h1
    exact rg_nI (by omega)
theorem within3_in {x : Int32} {st : fkS} (h : rg x 3) : F8_within x 0 2 st = some (1, st) := by
  have := within_in (st := st) (n := 3) (by decide) h
  rw [← w3] at this
  exact this
theorem within3_out {x : Int32} {st : fkS} (h : ¬ rg x 3) : F8_within x 0 2 st = some (0, st) := by
  have := within_out (st := st) (n := 3) (by decide) h
  rw [← w3] at this
  exact this
theorem op_fits {c m : fkS} (h : Rel c m) (x y b w : Int32) : Op2 (F7_fits x y b w c) (F8_fits x y b w m) := by
  have h0 := h
  obtain ⟨nb, h⟩ := h
  have hnb := h.1.1
  have k1 : ¬ (1 : Int32) = 0 := by decide
  have kr : (0 : Int32) = 0 := rfl
  unfold F7_fits F8_fits B7_fits_27 B7_fits_64
  rcases rgQ (x := b) nb with hb | hb
  rotate_left
  · rw [isBird_out hnb h.1.2.2.1 hb, fk_bind_some, if_pos kr]
    rcases rgQ (x := x) 8 with hx | hx
    · rw [noShelf_in hx, fk_bind_some, if_pos kr]
      rcases rgQ (x := y) 8 with hy | hy
      · rw [noShelf_in hy, fk_bind_some, if_pos kr, lacks_out hnb h.1.2.1 hb, fk_bind_some, if_neg k1]
        exact ref1 h0
      · rw [noShelf_out hy, fk_bind_some, if_neg k1]
        exact ref1 h0
    · rw [noShelf_out hx, fk_bind_some, if_neg k1]
      exact ref1 h0
  · rw [isBird_in hnb h.1.2.2.1 hb, fk_bind_some, if_neg k1]
    rcases rows2 h x y with ⟨s, s', hs, hs', rfl, rfl, hR1, hR2, e1, e2⟩ | ⟨code, hc, e1, e2⟩
    rotate_left
    · have hm : (fk_bind (F8_noRows x y m) fun x5 st6 => if 0 ≤ x5 then (fk_bind (F8_within w (0 : Int32) (2 : Int32) st6) fun x7 st8 => if x7 = 0 then (fk_bind (F8_no (-5 : Int32) st8) fun x9 st10 => some (x9, st10)) else (fk_bind (F8_isPie x (0 : Int32) st8) fun x11 st12 => if x11 = 0 then (fk_bind (F8_no (-6 : Int32) st12) fun x13 st14 => some (x13, st14)) else (if w = 0 then (fk_bind (F8_kindsSo b y st12) fun x15 st16 => some (x15, st16)) else (if w = (1 : Int32) then (fk_bind (F8_heatsSo b y st12) fun x17 st18 => some (x17, st18)) else (fk_bind (F8_mouthsSo b y st12) fun x19 st20 => some (x19, st20)))))) else (fk_bind (F8_no x5 st6) fun x21 st22 => some (x21, st22))) = fk_bind (F8_no code m) fun x21 st22 => some (x21, st22) := by
        rw [e2, fk_bind_some, if_neg hc.ref.2.1]
      rw [hm]
      rcases rgQ (x := x) 8 with hx | hx
      · rw [noShelf_in hx, fk_bind_some, if_pos kr]
        rcases rgQ (x := y) 8 with hy | hy
        · rw [noShelf_in hy, fk_bind_some, if_pos kr, lacks_in hnb h.1.2.1 hb, fk_bind_some, if_pos kr, e1, fk_bind_some, if_neg hc.ref.1]
          exact refC h0 hc
        · have e3 : F7_noRows x y c = some (-1, c) := by
            unfold F7_noRows
            rw [noShelf_in hx, fk_bind_some, if_pos kr, noShelf_out hy, fk_bind_some, if_neg k1]
          rw [noShelf_out hy, fk_bind_some, if_neg k1]
          have e4 := e3.symm.trans e1
          have e5 : (-1 : Int32) = code := by
            have := congrArg (fun o => o.map Prod.fst) e4
            simpa using this
          rw [← e5]
          exact ref1 h0
      · have e3 : F7_noRows x y c = some (-1, c) := by
          unfold F7_noRows
          rw [noShelf_out hx, fk_bind_some, if_neg k1]
        rw [noShelf_out hx, fk_bind_some, if_neg k1]
        have e4 := e3.symm.trans e1
        have e5 : (-1 : Int32) = code := by
          have := congrArg (fun o => o.map Prod.fst) e4
          simpa using this
        rw [← e5]
        exact ref1 h0
    · rw [noShelf_in (rg_nI hs), fk_bind_some, if_pos kr, noShelf_in (rg_nI hs'), fk_bind_some, if_pos kr, lacks_in hnb h.1.2.1 hb, fk_bind_some, if_pos kr, e1, fk_bind_some, if_pos kr, e2, fk_bind_some, if_pos Int32.le_rfl]
      rcases rgQ (x := w) 3 with hw | hw
      rotate_left
      · rw [within3_out hw, fk_bind_some, if_pos kr]
        by_cases q : w < 0
        · rw [if_pos q]
          exact ref5 h0
        · rw [if_neg q, if_neg (fun z => hw (rg3.mpr ⟨q, z⟩))]
          exact ref5 h0
      · rw [within3_in hw, fk_bind_some, if_neg k1, if_neg (rg3.mp hw).1, if_pos (rg3.mp hw).2, fk_chk_in hs (by decide), nI_clamp (by omega)]
        obtain ⟨r, c', m', t1, t2, t3, t4, t5⟩ := take2 (lo := 0) hs hR1
        rw [t1, t2, fk_bind_some, fk_bind_some]
        have hK := h.keep t3 t4
        rcases t5 with rfl | ⟨rfl, n, hn, -, g1, g2, g3⟩
        · rw [if_pos kr, if_pos kr]
          exact ref6 ⟨nb, hK⟩
        · rw [if_neg k1, if_neg k1, fk_chk_in hs' (by decide), nI_clamp (by omega)]
          obtain ⟨bN, hb, rfl⟩ := hb
          obtain ⟨kd, hN, a, mo, hB⟩ := hK.bv hb
          obtain ⟨c1, v1, v2, v3⟩ := take_ok (Or.inl rfl) hK hb hB EqC.rf
          have q1 : EqC c' c1 := v2.eq (Or.inl rfl)
          have hR2' : isR c' m' s' := by
            obtain ⟨z1, ⟨so, z2, z3, z4⟩, nL, z5, z6, z7, z8⟩ := hR2
            refine ⟨by rw [t3.1 _ _ (kCI_sh hs')]; exact z1, ⟨so, z2, by rw [t3.1 _ _ (kCI_sh hs')]; exact z3, by rw [t4.2.1 6 rfl]; exact z4⟩, nL, z5, by rw [t3.1 _ _ (kCI_sh hs')]; exact z6, by rw [t4.2.1 7 rfl]; exact z7, fun j hj => by rw [t3.2.2, t4.2.2]; exact z8 j hj⟩
          obtain ⟨-, -, nL, z5, z6, z7, z8⟩ := hR2'
          have f1 : gI c1 61 38 = nI n := by
            rw [v2.1 61 38 (by decide)]
            exact g1
          have f2 : ∀ i, i < n → gA c1 39 i = gA m' 14 i := fun i hi => by
            rw [v2.2.1 39 (by decide)]
            exact (g3 i hi).1
          have z9 : ∀ j, j < nL → (gL c' (3 + s' + 8) j).toInt32 = (gL m' 8 (160 * s' + j)).toInt32 := fun j hj => by rw [z8 j hj]
          have hb7 := hB.1
          have j1 := hB.2.2.2.2.2.2.1
          have j3 := hB.2.2.2.2.2.2.2.2.1
          have j4 := hB.2.2.2.2.2.2.2.2.2
          by_cases q : w = 0
          · obtain ⟨r, c2, m2, o1, o2, o3, o4⟩ := kinds_loop (p := gA m' 14) (L := fun j => (gL m' 8 (160 * s' + j)).toInt32) hB hs' hn z5 z6 z7 z9 (fun _ _ => rfl) 7 0 fk_fuel 0 c1 m' (by omega) (by unfold fk_fuel; omega) q1 (EqM.rf.x rfl) ⟨gI_same, by rw [gI_nf (by decide)]; exact v3.2.1, by rw [gI_nf (by decide)]; exact v3.2.2.1, by rw [gI_nf (by decide)]; exact v3.2.2.2⟩ f1 f2 g2 (fun _ _ => rfl)
            rw [if_pos q, if_pos q, F7_kindsThatSay, v1, fk_bind_some, F8_kindsSo, fk_chk_in hb7 (by decide), fk_let_e, nI_clamp (by omega), show fk_lp2 (B7_kindsThatSay_17 (3 + s')) fk_fuel 0 0 c1 = _ from o1, show fk_lp5 B8_kindsSo_13 fk_fuel (nI bN) (nI s') (gA m' 1 bN) 0 0 m' = _ from o2]
            exact Op2.mk ⟨nb, hK.keep o3 o4⟩
          · rw [if_neg q, if_neg q]
            by_cases q' : w = 1
            · obtain ⟨r, c2, m2, o1, o2, o3, o4⟩ := heats_loop (p := gA m' 14) (L := fun j => (gL m' 8 (160 * s' + j)).toInt32) hB hs' hn z5 z6 z7 z9 (fun _ _ => rfl) 10 0 fk_fuel 0 c1 m' (by omega) (by unfold fk_fuel; omega) q1 (EqM.rf.x rfl) ⟨by rw [gI_nf (by decide)]; exact v3.1, by rw [gI_nf (by decide)]; exact v3.2.1, by rw [gI_nf (by decide)]; exact v3.2.2.1, gI_same⟩ f1 f2 g2 (fun _ _ => rfl)
              rw [if_pos q', if_pos q', fk_chk_in hs' (by decide), F7_heatsThatSay, v1, fk_bind_some, F8_heatsSo, chk0 (by decide) (by decide), fk_let_e, cl0, show fk_lp2 (B7_heatsThatSay_17 (3 + s')) fk_fuel 0 0 c1 = _ from o1, show fk_lp5 B8_heatsSo_13 fk_fuel (nI bN) (nI s') (gA m' 4 0) 0 0 m' = _ from o2]
              exact Op2.mk ⟨nb, hK.keep o3 o4⟩
            · obtain ⟨r, c2, m2, o1, o2, o3, o4⟩ := mouths_loop (p := gA m' 14) (L := fun j => (gL m' 8 (160 * s' + j)).toInt32) hB hs' hn z5 z6 z7 z9 (fun _ _ => rfl) 20 0 fk_fuel 0 c1 m' (by omega) (by unfold fk_fuel; omega) q1 (EqM.rf.x rfl) ⟨by rw [gI_nf (by decide)]; exact v3.1, by rw [gI_nf (by decide)]; exact v3.2.1, gI_same, by rw [gI_nf (by decide)]; exact v3.2.2.2⟩ f1 f2 g2 (fun _ _ => rfl)
              rw [if_neg q', if_neg q', fk_chk_in hs' (by decide), F7_mouthsThatSay, v1, fk_bind_some, F8_mouthsSo, fk_chk_in hb7 (by decide), fk_let_e, nI_clamp (by omega), show fk_lp2 (B7_mouthsThatSay_17 (3 + s')) fk_fuel 0 0 c1 = _ from o1, show fk_lp5 B8_mouthsSo_13 fk_fuel (nI bN) (nI s') (gA m' 3 bN) 0 0 m' = _ from o2]
              exact Op2.mk ⟨nb, hK.keep o3 o4⟩
