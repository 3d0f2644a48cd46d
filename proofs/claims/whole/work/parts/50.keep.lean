/-! the reference's image: what is kept -/
def KP (st : fkS) (arr : Nat → Int32) : Prop := (∀ i, i < 7 → arr i = gA st 1 i ∧ arr (7 + i) = gA st 2 i ∧ arr (14 + i) = gA st 3 i) ∧ (∀ i, i < 40 → arr (21 + i) = gA st 5 i) ∧ (∀ i, i < 3 → arr (61 + i) = gA st 4 i) ∧ arr 64 = gI st 0 0 ∧ arr 65 = gI st 6 0 ∧ arr 66 = gI st 7 0
theorem keep75 {st : fkS} : ∀ (d j fu : Nat) (u : Nat → Int32), j + d = 3 → d < fu → (∀ i, i < 7 → u i = gA st 1 i ∧ u (7 + i) = gA st 2 i ∧ u (14 + i) = gA st 3 i) → (∀ i, i < 40 → u (21 + i) = gA st 5 i) → (∀ i, i < j → u (61 + i) = gA st 4 i) →
    ∃ arr, fk_lp1 (B8_keep_75 13) fu (nI j) (sAF st 13 u) = some ((), sAF st 13 arr) ∧ KP st arr := by
  intro d
  induction d with
  | zero =>
    intro j fu u hj hf h1 h2 h3
    obtain ⟨w, rfl⟩ : ∃ w, fu = w + 1 := ⟨fu - 1, by omega⟩
    obtain rfl : j = 3 := by omega
    refine ⟨upd (upd (upd u 64 (gI st 0 0)) 65 (gI st 6 0)) 66 (gI st 7 0), ?_, ?_⟩
    · rw [fk_lp1_s, B8_keep_75, if_pos (show (3 : Int32) ≤ nI 3 by decide), fk_let_e, fk_chk_t (show fk_in (64 : Int32) 67 = true by decide), fk_let_e, fk_let_e, fk_chk_t (show fk_in (65 : Int32) 67 = true by decide), fk_let_e, fk_let_e, fk_chk_t (show fk_in (66 : Int32) 67 = true by decide), fk_let_e, sA_def, sA_def, sA_def, gA_same, gA_same, sAF_sAF, sAF_sAF, gA_same, sAF_sAF]
      rfl
    · refine ⟨fun i hi => ?_, fun i hi => ?_, fun i hi => ?_, rfl, rfl, rfl⟩
      · rw [upd_ne (by omega), upd_ne (by omega), upd_ne (by omega), upd_ne (by omega), upd_ne (by omega), upd_ne (by omega), upd_ne (by omega), upd_ne (by omega), upd_ne (by omega)]
        exact h1 i hi
      · rw [upd_ne (by omega), upd_ne (by omega), upd_ne (by omega)]
        exact h2 i hi
      · rw [upd_ne (by omega), upd_ne (by omega), upd_ne (by omega)]
        exact h3 i hi
  | succ d ih =>
    intro j fu u hj hf h1 h2 h3
    obtain ⟨w, rfl⟩ : ∃ w, fu = w + 1 := ⟨fu - 1, by omega⟩
    have q1 : ¬ (3 : Int32) ≤ nI j := by
      rw [show (3 : Int32) = nI 3 from rfl, nI_leI (by decide) (by omega)]
      omega
    rw [fk_lp1_s, B8_keep_75, if_neg q1, fk_chk_in (by omega) (by decide), fk_let_e, nI_clamp (by omega), show (61 : Int32) = nI 61 from rfl, nI_add, fk_chk_in (by omega) (by decide), fk_let_e, nI_clamp (by omega), sA_def, gA_same, sAF_sAF, nI_1]
    refine ih (j + 1) w _ (by omega) (by omega) (fun i hi => ?_) (fun i hi => ?_) (fun i hi => ?_)
    · rw [upd_ne (by omega), upd_ne (by omega), upd_ne (by omega)]
      exact h1 i hi
    · rw [upd_ne (by omega)]
      exact h2 i hi
    · by_cases q : i = j
      · subst q
        rw [upd_same]
        rfl
      · rw [upd_ne (by omega)]
        exact h3 i (by omega)
theorem keep49 {st : fkS} : ∀ (d j fu : Nat) (u : Nat → Int32), j + d = 40 → d < fu → (∀ i, i < 7 → u i = gA st 1 i ∧ u (7 + i) = gA st 2 i ∧ u (14 + i) = gA st 3 i) → (∀ i, i < j → u (21 + i) = gA st 5 i) →
    ∃ arr, fk_lp1 (B8_keep_49 13) fu (nI j) (sAF st 13 u) = some ((), sAF st 13 arr) ∧ KP st arr := by
  intro d
  induction d with
  | zero =>
    intro j fu u hj hf h1 h2
    obtain ⟨w, rfl⟩ : ∃ w, fu = w + 1 := ⟨fu - 1, by omega⟩
    obtain rfl : j = 40 := by omega
    rw [fk_lp1_s, B8_keep_49, if_pos (show (40 : Int32) ≤ nI 40 by decide)]
    exact keep75 3 0 fk_fuel u (by omega) (by unfold fk_fuel; omega) h1 h2 (fun i hi => by omega)
  | succ d ih =>
    intro j fu u hj hf h1 h2
    obtain ⟨w, rfl⟩ : ∃ w, fu = w + 1 := ⟨fu - 1, by omega⟩
    have q1 : ¬ (40 : Int32) ≤ nI j := by
      rw [show (40 : Int32) = nI 40 from rfl, nI_leI (by decide) (by omega)]
      omega
    rw [fk_lp1_s, B8_keep_49, if_neg q1, fk_chk_in (by omega) (by decide), fk_let_e, nI_clamp (by omega), show (21 : Int32) = nI 21 from rfl, nI_add, fk_chk_in (by omega) (by decide), fk_let_e, nI_clamp (by omega), sA_def, gA_same, sAF_sAF, nI_1]
    refine ih (j + 1) w _ (by omega) (by omega) (fun i hi => ?_) (fun i hi => ?_)
    · rw [upd_ne (by omega), upd_ne (by omega), upd_ne (by omega)]
      exact h1 i hi
    · by_cases q : i = j
      · subst q
        rw [upd_same]
        rfl
      · rw [upd_ne (by omega)]
        exact h2 i (by omega)
theorem keep2 {st : fkS} : ∀ (d j fu : Nat) (u : Nat → Int32), j + d = 7 → d < fu → (∀ i, i < j → u i = gA st 1 i ∧ u (7 + i) = gA st 2 i ∧ u (14 + i) = gA st 3 i) →
    ∃ arr, fk_lp1 (B8_keep_2 13) fu (nI j) (sAF st 13 u) = some ((), sAF st 13 arr) ∧ KP st arr := by
  intro d
  induction d with
  | zero =>
    intro j fu u hj hf h1
    obtain ⟨w, rfl⟩ : ∃ w, fu = w + 1 := ⟨fu - 1, by omega⟩
    obtain rfl : j = 7 := by omega
    rw [fk_lp1_s, B8_keep_2, if_pos (show (7 : Int32) ≤ nI 7 by decide)]
    exact keep49 40 0 fk_fuel u (by omega) (by unfold fk_fuel; omega) h1 (fun i hi => by omega)
  | succ d ih =>
    intro j fu u hj hf h1
    obtain ⟨w, rfl⟩ : ∃ w, fu = w + 1 := ⟨fu - 1, by omega⟩
    have q1 : ¬ (7 : Int32) ≤ nI j := by
      rw [show (7 : Int32) = nI 7 from rfl, nI_leI (by decide) (by omega)]
      omega
    have e : B8_keep_2 13 (fk_lp1 (B8_keep_2 13) w) (nI j) (sAF st 13 u) = fk_lp1 (B8_keep_2 13) w (nI (j + 1)) (sAF st 13 (upd (upd (upd u j (gA st 1 j)) (7 + j) (gA st 2 j)) (14 + j) (gA st 3 j))) := by
      rw [B8_keep_2, if_neg q1, show (7 : Int32) = nI 7 from rfl, show (14 : Int32) = nI 14 from rfl, nI_add, nI_add]
      simp (disch := omega) only [fk_chk_in, fk_let_e, nI_clamp, nI_1, sA_def, gA_same, sAF_sAF]
      rfl
    rw [fk_lp1_s, e]
    refine ih (j + 1) w _ (by omega) (by omega) (fun i hi => ?_)
    by_cases q : i = j
    · subst q
      refine ⟨?_, ?_, ?_⟩
      · rw [upd_ne (by omega), upd_ne (by omega), upd_same]
      · rw [upd_ne (by omega), upd_same]
      · rw [upd_same]
    · rw [upd_ne (by omega), upd_ne (by omega), upd_ne q, upd_ne (by omega), upd_ne (by omega), upd_ne (by omega), upd_ne (by omega), upd_ne (by omega), upd_ne (by omega)]
      exact h1 i (by omega)
theorem keepM_ok {st : fkS} : ∃ arr, F8_keep 13 st = some ((), sAF st 13 arr) ∧ KP st arr := by
  have := keep2 (st := st) 7 0 fk_fuel (gA st 13) (by omega) (by unfold fk_fuel; omega) (fun i hi => by omega)
  rw [sAF_self] at this
  exact this
