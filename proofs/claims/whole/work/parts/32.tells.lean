/-! WHAT IS SAID: the reference's tells and goes -/
theorem upd_comm {f : Nat → Int32} {i j : Nat} {x y : Int32} (h : i ≠ j) : upd (upd f i x) j y = upd (upd f j y) i x := by
  funext k
  unfold upd
  by_cases h1 : k = j
  · rw [if_pos h1, if_neg (by omega), if_pos h1]
  · rw [if_neg h1]
    by_cases h2 : k = i
    · rw [if_pos h2, if_pos h2]
    · rw [if_neg h2, if_neg h2, if_neg h1]
theorem sayF_eq {kd m : Nat} {a : Int32} {b b' : Nat → Int32} (h : ∀ i, i < m → b i = b' i) : ∀ i, i < sayN kd m → sayF kd m a b i = sayF kd m a b' i := by
  intro i hi
  unfold sayN at hi
  unfold sayF
  by_cases q1 : kd = 1
  · subst q1
    rw [if_pos rfl, if_pos rfl]
    have hi : i < m := by simpa using hi
    show cn (b i) = cn (b' i)
    rw [h i hi]
  · rw [if_neg q1, if_neg q1]
    by_cases q2 : kd = 2
    · subst q2
      rw [if_pos rfl, if_pos rfl]
      have hi : i < m := by simpa using hi
      exact h _ (by omega)
    · rw [if_neg q2, if_neg q2]
      by_cases q3 : kd = 3
      · subst q3
        rw [if_pos rfl, if_pos rfl]
        have hi : i < m := by simpa using hi
        show ra a (cn (b i)) = ra a (cn (b' i))
        rw [h i hi]
      · rw [if_neg q3, if_neg q3]
        by_cases q4 : kd = 4
        · subst q4
          rw [if_pos rfl, if_pos rfl]
          have hi : i < m := by simpa using hi
          exact srt_eq (m - 1) 1 m _ _ (by omega) h i hi
        · rw [if_neg q4, if_neg q4]
          by_cases q5 : kd = 5
          · rw [if_pos q5] at hi
            rw [if_pos q5, if_pos q5]
            exact h _ (by omega)
          · rw [if_neg q5] at hi
            rw [if_neg q5, if_neg q5]
            by_cases q6 : kd = 6
            · rw [if_pos q6] at hi
              rw [if_pos q6, if_pos q6]
              show ra a (cn (b (2 * i + 1))) = ra a (cn (b' (2 * i + 1)))
              rw [h _ (by omega)]
            · rw [if_neg q6] at hi
              rw [if_neg q6, if_neg q6]
              exact h i hi
/-- what the bird bN of the reference is, and its pie -/
def HB (st : fkS) (bN kd : Nat) (a mo he : Int32) (p : Nat → Int32) : Prop := gA st 1 bN = nI kd ∧ gA st 2 bN = a ∧ gA st 3 bN = mo ∧ gA st 4 0 = he ∧ gA st 14 = p
theorem HB.sI {st : fkS} {bN kd : Nat} {a mo he : Int32} {p : Nat → Int32} {f i : Nat} {v : Int32} (h : HB st bN kd a mo he p) : HB (sI st f i v) bN kd a mo he p := h
theorem HB.sA {st : fkS} {bN kd : Nat} {a mo he : Int32} {p u : Nat → Int32} (h : HB st bN kd a mo he p) : HB (sAF st 15 u) bN kd a mo he p := by
  obtain ⟨h1, h2, h3, h4, h5⟩ := h
  exact ⟨by rw [gA_ne (by decide)]; exact h1, by rw [gA_ne (by decide)]; exact h2, by rw [gA_ne (by decide)]; exact h3, by rw [gA_ne (by decide)]; exact h4, by rw [gA_ne (by decide)]; exact h5⟩
theorem chk0 {α : Type} {n : Nat} {F : Option α} (h : 0 < n) (hn : n < 2 ^ 31) : fk_chk (fk_in (0 : Int32) n) F = F := by
  rw [zl0]
  exact fk_chk_in h hn
theorem cl0 : (0 : Int32).toNatClampNeg = 0 := rfl
theorem cl1 : (1 : Int32).toNatClampNeg = 1 := rfl
theorem cl2 : (2 : Int32).toNatClampNeg = 2 := rfl
theorem plain_ok {st : fkS} {bN kd i : Nat} {a mo he : Int32} {p : Nat → Int32} (h : HB st bN kd a mo he p) (hb : bN < 7) (hi : i < 8) : F8_plain (nI bN) (nI i) st = some (sg he mo p i, st) := by
  obtain ⟨h1, h2, h3, h4, h5⟩ := h
  unfold F8_plain
  rw [fk_chk_in hi (by decide), nI_clamp (by omega), h5]
  simp only [fk_let_e]
  rw [chk0 (by decide) (by decide), cl0, h4, fk_chk_in hb (by decide), nI_clamp (by omega), h3]
  rfl
theorem chipped_ok {st : fkS} {bN kd i : Nat} {a mo he : Int32} {p : Nat → Int32} (h : HB st bN kd a mo he p) (hb : bN < 7) (hi : i < 8) : F8_chipped (nI bN) (nI i) st = some (cn (sg he mo p i), st) := by
  unfold F8_chipped
  rw [plain_ok h hb hi, fk_bind_some]
  unfold cn
  split <;> rfl
theorem widowed_ok {st : fkS} {bN kd i : Nat} {a mo he : Int32} {p : Nat → Int32} (h : HB st bN kd a mo he p) (hb : bN < 7) (hi : i < 8) : F8_widowed (nI bN) (nI i) st = some (ra a (cn (sg he mo p i)), st) := by
  unfold F8_widowed
  rw [chipped_ok h hb hi, fk_bind_some, fk_chk_in hb (by decide), nI_clamp (by omega), h.2.1]
  rfl
def sayP (kd m : Nat) (a : Int32) (b : Nat → Int32) : Nat → Int32 := if kd = 4 then b else sayF kd m a b
def finT (kd : Nat) (s : fkS) : Option (Unit × fkS) := if nI kd = (4 : Int32) then (fk_bind (F8_sorts s) fun _ st5 => some ((), st5)) else some ((), s)
theorem tells_fin {k : Int32 → Int32 → Int32 → fkS → Option (Unit × fkS)} {st : fkS} {bN kd m : Nat} (hb : bN < 7) (h : gA st 1 bN = nI kd) : B8_tells_21 k (nI bN) (nI m) (nI m) st = finT kd st := by
  unfold B8_tells_21 finT
  rw [if_pos (Int32.le_refl _), fk_chk_in hb (by decide), nI_clamp (by omega), fk_let_e, h]
/-- one sign more -/
def put1 (st : fkS) (c : Nat) (v : Int32) : fkS := sAF (sI st 24 0 (nI (c + 1))) 15 (upd (gA st 15) c v)
theorem tells_step {k : Int32 → Int32 → Int32 → fkS → Option (Unit × fkS)} {st : fkS} {bN kd m j c : Nat} {a mo he : Int32} {p : Nat → Int32} (h : HB st bN kd a mo he p) (hb : bN < 7) (hj : j < m) (hm : m ≤ 8) (hkd : kd < 7) (hc : gI st 24 0 = nI c) (hc1 : c = sayN kd j) :
    B8_tells_21 k (nI bN) (nI m) (nI j) st = k (nI bN) (nI m) (nI (j + 1)) (if kd = 5 then put1 (put1 st c (sg he mo p (m - 1 - j))) (c + 1) (sg he mo p (m - 1 - j)) else if kd = 6 then (if j % 2 = 1 then put1 st c (ra a (cn (sg he mo p j))) else st) else if kd = 1 then put1 st c (cn (sg he mo p j)) else if kd = 2 then put1 st c (sg he mo p (m - 1 - j)) else if kd = 3 then put1 st c (ra a (cn (sg he mo p j))) else put1 st c (sg he mo p j)) := by
  have hc16 : c < 15 := by
    have : sayN kd j ≤ 2 * j := by
      unfold sayN
      split
      · omega
      · split <;> omega
    omega
  have q1 : ¬ nI m ≤ nI j := by
    rw [nI_leI (by omega) (by omega)]
    omega
  have hs : ∀ (v : Int32) (s : fkS), gA s 15 = gA st 15 → (s = sI st 24 0 (nI (c + 1))) → sA s 15 c v = put1 st c v := fun v s h1 h2 => by
    subst h2
    rfl
  have hm1 : (nI m - (1 : Int32)) - nI j = nI (m - 1 - j) := by rw [zl1, pk_sub (by omega), pk_sub (by omega)]
  have hH : ∀ v : Int32, HB (sI st 24 0 v) bN kd a mo he p := fun v => h.sI
  unfold B8_tells_21
  rw [if_neg q1, fk_chk_in hb (by decide), nI_clamp (by omega), fk_let_e, h.1]
  simp only [B8_tells_260, fk_let_e, hc, hm1, nI_1]
  rcases (show kd = 0 ∨ kd = 1 ∨ kd = 2 ∨ kd = 3 ∨ kd = 4 ∨ kd = 5 ∨ kd = 6 by omega) with rfl | rfl | rfl | rfl | rfl | rfl | rfl
  · rw [if_neg (by decide), if_neg (by decide), if_neg (by decide), if_neg (by decide), if_neg (by decide), if_neg (by decide), plain_ok (hH _) hb (by omega), fk_bind_some, fk_chk_in (by omega) (by decide), nI_clamp (by omega)]
    rfl
  · rw [if_pos (by decide), chipped_ok (hH _) hb (by omega), fk_bind_some, fk_chk_in (by omega) (by decide), nI_clamp (by omega)]
    rfl
  · rw [if_neg (by decide), if_pos (by decide), plain_ok (hH _) hb (by omega), fk_bind_some, fk_chk_in (by omega) (by decide), nI_clamp (by omega)]
    rfl
  · rw [if_neg (by decide), if_neg (by decide), if_pos (by decide), widowed_ok (hH _) hb (by omega), fk_bind_some, fk_chk_in (by omega) (by decide), nI_clamp (by omega)]
    rfl
  · rw [if_neg (by decide), if_neg (by decide), if_neg (by decide), if_pos (by decide), plain_ok (hH _) hb (by omega), fk_bind_some, fk_chk_in (by omega) (by decide), nI_clamp (by omega)]
    rfl
  · rw [if_neg (by decide), if_neg (by decide), if_neg (by decide), if_neg (by decide), if_pos (by decide), plain_ok (hH _) hb (by omega), fk_bind_some, fk_chk_in (by omega) (by decide), nI_clamp (by omega)]
    have e1 : sA (sI st 24 0 (nI (c + 1))) 15 c (sg he mo p (m - 1 - j)) = put1 st c (sg he mo p (m - 1 - j)) := rfl
    rw [e1]
    have e2 : gI (put1 st c (sg he mo p (m - 1 - j))) 24 0 = nI (c + 1) := by
      unfold put1
      rw [gI_sAF, gI_same]
    have hB : HB (put1 st c (sg he mo p (m - 1 - j))) bN 5 a mo he p := (hH _).sA
    rw [e2, nI_1, plain_ok hB.sI hb (by omega), fk_bind_some, fk_chk_in (by omega) (by decide), nI_clamp (by omega)]
    rfl
  · rw [if_neg (by decide), if_neg (by decide), if_neg (by decide), if_neg (by decide), if_neg (by decide), if_pos (by decide), zl2, fk_rem_nI (by omega) (by decide) (by decide)]
    by_cases hp : j % 2 = 1
    · rw [hp, if_pos (by decide), widowed_ok (hH _) hb (by omega), fk_bind_some, fk_chk_in (by omega) (by decide), nI_clamp (by omega)]
      rfl
    · rw [show j % 2 = 0 by omega, if_neg (by decide)]
      rfl
theorem put1_I {st : fkS} {c : Nat} {v : Int32} : gI (put1 st c v) 24 0 = nI (c + 1) := by
  unfold put1
  rw [gI_sAF, gI_same]
theorem put1_A {st : fkS} {c : Nat} {v : Int32} : gA (put1 st c v) 15 = upd (gA st 15) c v := by
  unfold put1
  rw [gA_same]
theorem put1_s {st : fkS} {c : Nat} {v w : Int32} {arr : Nat → Int32} : sAF (sI (put1 st c v) 24 0 w) 15 arr = sAF (sI st 24 0 w) 15 arr := by
  unfold put1
  rw [sI_sAF, sAF_sAF, sI_sI]
theorem upd_same {f : Nat → Int32} {j : Nat} {x : Int32} : upd f j x j = x := by
  unfold upd
  rw [if_pos rfl]
theorem upd_ne {f : Nat → Int32} {j i : Nat} {x : Int32} (h : i ≠ j) : upd f j x i = f i := by
  unfold upd
  rw [if_neg h]
theorem tells_loop {bN kd m : Nat} {a mo he : Int32} {p : Nat → Int32} (hb : bN < 7) (hm : m ≤ 8) (hkd : kd < 7) : ∀ (d j fu : Nat) (st : fkS), j + d = m → d < fu → HB st bN kd a mo he p → gI st 24 0 = nI (sayN kd j) → (∀ i, i < sayN kd j → gA st 15 i = sayP kd m a (sg he mo p) i) →
    ∃ arr : Nat → Int32, fk_lp3 B8_tells_21 fu (nI bN) (nI m) (nI j) st = finT kd (sAF (sI st 24 0 (nI (sayN kd m))) 15 arr) ∧ ∀ i, i < sayN kd m → arr i = sayP kd m a (sg he mo p) i := by
  intro d
  induction d with
  | zero =>
    intro j fu st hj hf hB hc hA
    obtain ⟨n, rfl⟩ : ∃ n, fu = n + 1 := ⟨fu - 1, by omega⟩
    obtain rfl : j = m := by omega
    refine ⟨gA st 15, ?_, hA⟩
    rw [fk_lp3_s, tells_fin hb hB.1, ← hc, sI_self, sAF_self]
  | succ d ih =>
    intro j fu st hj hf hB hc hA
    obtain ⟨n, rfl⟩ : ∃ n, fu = n + 1 := ⟨fu - 1, by omega⟩
    rw [fk_lp3_s, tells_step hB hb (by omega) hm hkd hc rfl]
    have one : ∀ (v : Int32), sayN kd (j + 1) = sayN kd j + 1 → v = sayP kd m a (sg he mo p) (sayN kd j) → ∃ arr : Nat → Int32, fk_lp3 B8_tells_21 n (nI bN) (nI m) (nI (j + 1)) (put1 st (sayN kd j) v) = finT kd (sAF (sI st 24 0 (nI (sayN kd m))) 15 arr) ∧ ∀ i, i < sayN kd m → arr i = sayP kd m a (sg he mo p) i := by
      intro v hn hv
      obtain ⟨arr, e1, e2⟩ := ih (j + 1) n (put1 st (sayN kd j) v) (by omega) (by omega) hB.sI.sA (by rw [put1_I, hn]) (fun i hi => by
        rw [put1_A]
        rw [hn] at hi
        by_cases q : i = sayN kd j
        · rw [q, upd_same, hv]
        · rw [upd_ne q]
          exact hA i (by omega))
      refine ⟨arr, ?_, e2⟩
      rw [e1, put1_s]
    rcases (show kd = 0 ∨ kd = 1 ∨ kd = 2 ∨ kd = 3 ∨ kd = 4 ∨ kd = 5 ∨ kd = 6 by omega) with rfl | rfl | rfl | rfl | rfl | rfl | rfl
    · exact one _ rfl rfl
    · exact one _ rfl rfl
    · exact one _ rfl rfl
    · exact one _ rfl rfl
    · exact one _ rfl rfl
    · have e0 : sayN 5 j = 2 * j := rfl
      have e1 : sayN 5 (j + 1) = 2 * j + 1 + 1 := by
        show 2 * (j + 1) = _
        omega
      obtain ⟨arr, q1, q2⟩ := ih (j + 1) n (put1 (put1 st (2 * j) (sg he mo p (m - 1 - j))) (2 * j + 1) (sg he mo p (m - 1 - j))) (by omega) (by omega) hB.sI.sA.sI.sA (by rw [put1_I, e1]) (fun i hi => by
        rw [put1_A, put1_A]
        rw [e1] at hi
        have hv : ∀ i, sayP 5 m a (sg he mo p) i = sg he mo p (m - 1 - i / 2) := fun _ => rfl
        by_cases q : i = 2 * j + 1
        · rw [q, upd_same, hv, show (2 * j + 1) / 2 = j by omega]
        · rw [upd_ne q]
          by_cases q2 : i = 2 * j
          · rw [q2, upd_same, hv, show (2 * j) / 2 = j by omega]
          · rw [upd_ne q2]
            exact hA i (by omega))
      refine ⟨arr, ?_, q2⟩
      rw [if_pos rfl, e0, q1, put1_s, put1_s]
    · have e0 : sayN 6 j = j / 2 := rfl
      have e1 : sayN 6 (j + 1) = (j + 1) / 2 := rfl
      rw [if_neg (by decide), if_pos rfl]
      by_cases hp : j % 2 = 1
      · rw [if_pos hp]
        refine one _ (by rw [e0, e1]; omega) ?_
        show _ = ra a (cn (sg he mo p (2 * (j / 2) + 1)))
        rw [show 2 * (j / 2) + 1 = j by omega]
      · rw [if_neg hp]
        exact ih (j + 1) n st (by omega) (by omega) hB (by rw [hc, e0, e1, show (j + 1) / 2 = j / 2 by omega]) (fun i hi => hA i (by rw [e0]; rw [e1] at hi; omega))
theorem sorts_in {k2 : Int32 → fkS → Option (Unit × fkS)} {v1 : Int32} : ∀ (k fu : Nat) (st : fkS), k < 16 → k < fu →
    fk_lp2 (B8_sorts_12 k2) fu v1 (nI k) st = k2 (v1 + 1) (sAF st 15 (ins1 k (gA st 15))) := by
  intro k
  induction k with
  | zero =>
    intro fu st h1 h2
    obtain ⟨m, rfl⟩ : ∃ m, fu = m + 1 := ⟨fu - 1, by omega⟩
    rw [fk_lp2_s]
    simp only [B8_sorts_12, B8_sorts_69]
    rw [if_pos (by decide), ins1, sAF_self]
  | succ k ih =>
    intro fu st h1 h2
    obtain ⟨m, rfl⟩ : ∃ m, fu = m + 1 := ⟨fu - 1, by omega⟩
    rw [fk_lp2_s]
    simp only [B8_sorts_12, B8_sorts_69, fk_let_e]
    rw [if_neg (nI_nle (by omega) (by omega)), nI_pred, fk_chk_in (by omega) (by omega), fk_chk_in (by omega) (by omega), nI_clamp (by omega), nI_clamp (by omega), pk_m1]
    by_cases h3 : gA st 15 k ≤ gA st 15 (k + 1)
    · rw [if_pos h3, ins1, if_pos h3, sAF_self]
    · rw [if_neg h3, ins1, if_neg h3]
      simp (disch := omega) only [fk_chk_in]
      rw [ih m _ (by omega) (by omega), sA_def, sA_def, sAF_sAF, sAF_sAF, gA_same, gA_same, upd_comm (by omega)]
theorem sorts_loop {c : Nat} (hc : c ≤ 16) : ∀ (d j fu : Nat) (st : fkS), c = j + d ∨ (d = 0 ∧ c ≤ j ∧ j ≤ 16) → d < fu → gI st 24 0 = nI c →
    fk_lp1 B8_sorts_2 fu (nI j) st = some ((), sAF st 15 (srt d j (gA st 15))) := by
  intro d
  induction d with
  | zero =>
    intro j fu st hj hf hI
    obtain ⟨m, rfl⟩ : ∃ m, fu = m + 1 := ⟨fu - 1, by omega⟩
    rw [fk_lp1_s]
    simp only [B8_sorts_2, fk_let_e, hI]
    rw [if_pos ((nI_leI (by omega) (by omega)).mpr (by omega)), srt, sAF_self]
  | succ d ih =>
    intro j fu st hj hf hI
    obtain ⟨m, rfl⟩ : ∃ m, fu = m + 1 := ⟨fu - 1, by omega⟩
    rw [fk_lp1_s]
    have h1 : ¬ nI c ≤ nI j := by
      rw [nI_leI (by omega) (by omega)]
      omega
    simp only [B8_sorts_2, fk_let_e, hI]
    rw [if_neg h1, sorts_in j fk_fuel st (by omega) (by unfold fk_fuel; omega), nI_1, ih (j + 1) m _ (by omega) (by omega) (by rw [gI_sAF]; exact hI), srt, sAF_sAF, gA_same]
theorem sorts_ok {c : Nat} {st : fkS} (hc : c ≤ 16) (hI : gI st 24 0 = nI c) : F8_sorts st = some ((), sAF st 15 (srt (c - 1) 1 (gA st 15))) := by
  unfold F8_sorts
  rw [zl1, sorts_loop hc (c - 1) 1 fk_fuel st (by omega) (by unfold fk_fuel; omega) hI]
/-- the reference's bird tells of the pie -/
theorem tells_ok {st : fkS} {bN kd n hN : Nat} {a mo : Int32} {p : Nat → Int32} (hb : bN < 7) (hn : n ≤ 8) (hhN : hN < 10) (hkd : kd < 7) (hB : HB st bN kd a mo (nI hN) p) (h1 : gI st 22 0 = nI n) :
    ∃ arr : Nat → Int32, F8_tells (nI bN) st = some ((), sAF (sI st 24 0 (nI (sayN kd (min n hN)))) 15 arr) ∧ ∀ i, i < sayN kd (min n hN) → arr i = sayF kd (min n hN) a (sg (nI hN) mo p) i := by
  have e4 := hB.2.2.2.1
  unfold F8_tells
  rw [fk_let_e, h1, chk0 (by decide) (by decide), cl0, fk_let_e, e4, fk_let_e, fk_min_nI (by omega) (by omega), zl0]
  have hz : sayN kd 0 = 0 := by
    unfold sayN
    split
    · rfl
    · split <;> rfl
  obtain ⟨arr, q1, q2⟩ := tells_loop (m := min n hN) hb (by omega) hkd (min n hN) 0 fk_fuel (sI st 24 0 (nI 0)) (by omega) (by unfold fk_fuel; omega) hB.sI (by rw [gI_same, hz]) (fun i hi => by rw [hz] at hi; omega)
  rw [q1, sI_sI]
  unfold finT
  generalize hmm : min n hN = m at q2 ⊢
  by_cases h4 : kd = 4
  · subst h4
    rw [if_pos (by decide)]
    have hm : sayN 4 m = m := rfl
    rw [hm] at q2 ⊢
    rw [sorts_ok (c := m) (by omega) (by rw [gI_sAF, gI_same]), fk_bind_some, sAF_sAF, gA_same]
    exact ⟨_, rfl, fun i hi => srt_eq (m - 1) 1 m _ _ (by omega) q2 i hi⟩
  · rw [if_neg (by
      rw [zl4, nI_eq (by omega) (by decide)]
      exact h4)]
    refine ⟨arr, rfl, fun i hi => ?_⟩
    rw [q2 i hi]
    unfold sayP
    rw [if_neg h4]

theorem sI_comm {f f' i i' : Nat} {s : fkS} {u v : Int32} (h : f ≠ f') : sI (sI s f i u) f' i' v = sI (sI s f' i' v) f i u := by
  simp only [sI, Prod.mk.injEq, and_true]
  funext x y
  by_cases h1 : x = f' ∧ y = i'
  · rw [if_pos h1, if_neg (fun q => h (q.1.symm.trans h1.1)), if_pos h1]
  · rw [if_neg h1]
    by_cases h2 : x = f ∧ y = i
    · rw [if_pos h2, if_pos h2]
    · rw [if_neg h2, if_neg h2, if_neg h1]
/-! what it brings -/
theorem has_ok {tr s : Int32} {st : fkS} : F8_has tr s st = some ((tr >>> (s &&& 31)) &&& 1, st) := by
  unfold F8_has
  obtain ⟨j, hj, e⟩ := pk_andE (tr >>> (s &&& 31)) (m := 1) 1 (by decide)
  rw [e]
  rcases (show j = 0 ∨ j = 1 by omega) with rfl | rfl
  · rw [if_neg (by decide)]
    rfl
  · rw [if_pos (by decide)]
    rfl
theorem bit01 (tr s : Int32) : (tr >>> (s &&& 31)) &&& 1 = 0 ∨ (tr >>> (s &&& 31)) &&& 1 = 1 := by
  obtain ⟨j, hj, e⟩ := pk_andE (tr >>> (s &&& 31)) (m := 1) 1 (by decide)
  rw [e]
  rcases (show j = 0 ∨ j = 1 by omega) with rfl | rfl
  · exact Or.inl rfl
  · exact Or.inr rfl
theorem goes_loop {c : Nat} (hc : c ≤ 16) {f tb : Nat → Int32} {tr : Int32} (h2 : ∀ i, i < c → rg (f i) 20) (h3 : ∀ i, i < 40 → rg (tb i) 8) : ∀ (d j fu : Nat) (st : fkS) (s acc : Int32), j + d = c → d < fu → gI st 24 0 = nI c → gA st 15 = f → gA st 5 = tb → gA st 4 2 = tr → gI st 26 0 = s → gI st 27 0 = acc → rg s 8 →
    fk_lp1 B8_goes_17 fu (nI j) st = some ((), sI (sI st 26 0 (goE tb f d j s)) 27 0 (ilE tb tr f d j s acc)) := by
  intro d
  induction d with
  | zero =>
    intro j fu st s acc hj hf hI hA hT hR hs ha hr
    obtain ⟨m, rfl⟩ : ∃ m, fu = m + 1 := ⟨fu - 1, by omega⟩
    obtain rfl : j = c := by omega
    rw [fk_lp1_s]
    rw [B8_goes_17, fk_let_e, hI, if_pos (Int32.le_refl _)]
    unfold goE ilE
    rw [sI_eq (s := st) (f := 26) (i := 0) hs.symm, sI_eq ha.symm]
  | succ d ih =>
    intro j fu st s acc hj hf hI hA hT hR hs ha hr
    obtain ⟨m, rfl⟩ : ∃ m, fu = m + 1 := ⟨fu - 1, by omega⟩
    have q1 : ¬ nI c ≤ nI j := by
      rw [nI_leI (by omega) (by omega)]
      omega
    have r5 : rg (fk_rem (f j) 5) 5 := rem_rg (h2 j (by omega)) (by decide) (by decide) (by decide)
    have ec : (5 : Int32) * s = s * 5 := Int32.mul_comm _ _
    have hx : ∃ y, y < 40 ∧ (s * 5) + fk_rem (f j) 5 = nI y := by
      obtain ⟨a, ha, e1⟩ := hr
      obtain ⟨b, hb, e2⟩ := r5
      exact ⟨a * 5 + b, by omega, by rw [e1, e2, zl5, pk_mul, nI_add]⟩
    obtain ⟨y, hy, ey⟩ := hx
    rw [fk_lp1_s]
    rw [B8_goes_17, fk_let_e, hI, if_neg q1, fk_let_e, hs, fk_chk_in (by omega) (by decide), fk_let_e, hA, nI_clamp (by omega), ec, ey, fk_chk_in hy (by decide), fk_let_e, hT, nI_clamp (by omega), fk_let_e]
    rw [zl2, fk_chk_in (by decide) (by decide), nI_clamp (by decide), fk_let_e, gA_sI, hR, fk_let_e, gI_same, has_ok, fk_bind_some]
    have e1 : goE tb f (d + 1) j s = goE tb f d (j + 1) (tb y) := by
      show goE tb f d (j + 1) (tb ((s * 5) + fk_rem (f j) 5).toNatClampNeg) = _
      rw [ey, nI_clamp (by omega)]
    have e2 : ilE tb tr f (d + 1) j s acc = ilE tb tr f d (j + 1) (tb y) (acc + ((tr >>> (tb y &&& 31)) &&& 1)) := by
      show ilE tb tr f d (j + 1) (tb ((s * 5) + fk_rem (f j) 5).toNatClampNeg) (acc + ((tr >>> (tb ((s * 5) + fk_rem (f j) 5).toNatClampNeg &&& 31)) &&& 1)) = _
      rw [ey, nI_clamp (by omega)]
    rw [e1, e2]
    rcases bit01 tr (tb y) with hz | hz
    · rw [hz, if_pos rfl]
      unfold B8_goes_75
      rw [nI_1, ih (j + 1) m (sI st 26 0 (tb y)) (tb y) acc (by omega) (by omega) (by rw [gI_nf (by decide)]; exact hI) hA hT hR gI_same (by rw [gI_nf (by decide)]; exact ha) (h3 y hy), sI_sI, show acc + (0 : Int32) = acc from Int32.add_zero _]
    · rw [hz, if_neg (by decide), fk_let_e, fk_let_e, gI_nf (by decide), ha]
      unfold B8_goes_75
      rw [nI_1, ih (j + 1) m (sI (sI st 26 0 (tb y)) 27 0 (acc + 1)) (tb y) (acc + 1) (by omega) (by omega) (by rw [gI_nf (by decide), gI_nf (by decide)]; exact hI) hA hT hR (by rw [gI_nf (by decide), gI_same]) gI_same (h3 y hy)]
      rw [sI_comm (by decide) (s := sI st 26 0 (tb y)), sI_sI, sI_sI]
theorem goes_ok {st : fkS} {bN kd n hN : Nat} {a mo s : Int32} {p tb : Nat → Int32} {tr : Int32} (hb : bN < 7) (hn : n ≤ 8) (hhN : hN < 10) (hkd : kd < 7) (hB : HB st bN kd a mo (nI hN) p) (h1 : gI st 22 0 = nI n) (ha : rg a 10) (hmo : rg mo 20) (hp : ∀ i, i < n → rg (p i) 10)
    (hT : gA st 5 = tb) (h3 : ∀ i, i < 40 → rg (tb i) 8) (hR : gA st 4 2 = tr) (hs : rg s 8) :
    ∃ arr : Nat → Int32, F8_goes (nI bN) s st = some ((), sI (sI (sAF (sI st 24 0 (nI (sayN kd (min n hN)))) 15 arr) 26 0 (goE tb (sayF kd (min n hN) a (sg (nI hN) mo p)) (sayN kd (min n hN)) 0 s)) 27 0 (ilE tb tr (sayF kd (min n hN) a (sg (nI hN) mo p)) (sayN kd (min n hN)) 0 s 0)) ∧
      ∀ i, i < sayN kd (min n hN) → arr i = sayF kd (min n hN) a (sg (nI hN) mo p) i := by
  obtain ⟨arr, q1, q2⟩ := tells_ok hb hn hhN hkd hB h1
  have hr : ∀ i, i < sayN kd (min n hN) → rg (sayF kd (min n hN) a (sg (nI hN) mo p) i) 20 := sayF_rg ha (fun i hi => sg_rg (rg_nI hhN) hmo (hp i (by omega)))
  have hr' : ∀ i, i < sayN kd (min n hN) → rg (arr i) 20 := fun i hi => by
    rw [q2 i hi]
    exact hr i hi
  refine ⟨arr, ?_, q2⟩
  unfold F8_goes
  have hle : sayN kd (min n hN) ≤ 16 := sayN_le (by omega)
  rw [q1, fk_bind_some, fk_let_e, fk_let_e, zl0, goes_loop (tr := tr) (tb := tb) hle hr' h3 (sayN kd (min n hN)) 0 fk_fuel _ s (nI 0) (by omega) (by unfold fk_fuel; omega) (by rw [gI_nf (by decide), gI_nf (by decide), gI_sAF, gI_same]) (by rw [gA_sI, gA_sI, gA_same]) (by rw [gA_sI, gA_sI, gA_ne (by decide), gA_sI]; exact hT) (by rw [gA_sI, gA_sI, gA_ne (by decide), gA_sI]; exact hR) (by rw [gI_nf (by decide), gI_same]) gI_same hs]
  rw [(goE_eq (tb' := tb) (fun _ _ => rfl) h3 q2 hr' _ 0 s (by omega) hs).1, ilE_eq (tb' := tb) (tr := tr) (fun _ _ => rfl) h3 q2 hr' _ 0 s _ (by omega) hs]
  rw [sI_comm (by decide) (s := sI (sAF (sI st 24 0 (nI (sayN kd (min n hN)))) 15 arr) 26 0 s), sI_sI, sI_sI]
