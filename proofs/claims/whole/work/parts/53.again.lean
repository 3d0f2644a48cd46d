/-! again: all is as the image has it -/
def AgF (m s : fkS) : Prop := (∀ f i, f ≠ 0 → f ≠ 6 → f ≠ 7 → gI s f i = gI m f i) ∧ (∀ i, 6 ≤ i → gA s i = gA m i) ∧ ∀ i, gL s i = gL m i
def AgA (o : Nat) (m s : fkS) (n : Nat) : Prop := ∀ i, i < n → gA s 1 i = gA m o i ∧ gA s 2 i = gA m o (7 + i) ∧ gA s 3 i = gA m o (14 + i)
def AgT (o : Nat) (m s : fkS) (n : Nat) : Prop := ∀ i, i < n → gA s 5 i = gA m o (21 + i)
def AgW (o : Nat) (m s : fkS) (n : Nat) : Prop := ∀ i, i < n → gA s 4 i = gA m o (61 + i)
def AgD (o : Nat) (m s : fkS) : Prop := AgF m s ∧ AgA o m s 7 ∧ AgT o m s 40 ∧ AgW o m s 3 ∧ gI s 0 0 = gA m o 64 ∧ gI s 6 0 = gA m o 65 ∧ gI s 7 0 = gA m o 66
theorem AgF.sA {m s : fkS} {k j : Nat} {v : Int32} (h : AgF m s) (hk : k < 6) : AgF m (sA s k j v) := by
  refine ⟨h.1, fun i hi => ?_, h.2.2⟩
  rw [gA_sA, if_neg (by omega)]
  exact h.2.1 i hi
theorem AgF.sI {m s : fkS} {f i : Nat} {v : Int32} (h : AgF m s) (hf : f = 0 ∨ f = 6 ∨ f = 7) : AgF m (sI s f i v) := by
  refine ⟨fun f' i' n0 n6 n7 => ?_, h.2.1, h.2.2⟩
  rw [gI_nf (by omega)]
  exact h.1 f' i' n0 n6 n7
theorem again75 {m : fkS} {o : Nat} (ho : 6 ≤ o) : ∀ (d j fu : Nat) (s : fkS), j + d = 3 → d < fu → AgF m s → AgA o m s 7 → AgT o m s 40 → AgW o m s j → ∃ s', fk_lp1 (B8_again_75 o) fu (nI j) s = some ((), s') ∧ AgD o m s' := by
  intro d
  induction d with
  | zero =>
    intro j fu s hj hf hF h1 h2 h3
    obtain ⟨w, rfl⟩ : ∃ w, fu = w + 1 := ⟨fu - 1, by omega⟩
    obtain rfl : j = 3 := by omega
    refine ⟨sI (sI (sI s 0 0 (gA s o 64)) 6 0 (gA s o 65)) 7 0 (gA s o 66), ?_, ((hF.sI (Or.inl rfl)).sI (Or.inr (Or.inl rfl))).sI (Or.inr (Or.inr rfl)), h1, h2, h3, ?_, ?_, ?_⟩
    · rw [fk_lp1_s, B8_again_75, if_pos (show (3 : Int32) ≤ nI 3 by decide), fk_chk_t (show fk_in (64 : Int32) 67 = true by decide), fk_let_e, fk_let_e, fk_chk_t (show fk_in (65 : Int32) 67 = true by decide), fk_let_e, fk_let_e, fk_chk_t (show fk_in (66 : Int32) 67 = true by decide), fk_let_e, fk_let_e]
      rfl
    · rw [gI_nf (by decide), gI_nf (by decide), gI_same, hF.2.1 o ho]
    · rw [gI_nf (by decide), gI_same, hF.2.1 o ho]
    · rw [gI_same, hF.2.1 o ho]
  | succ d ih =>
    intro j fu s hj hf hF h1 h2 h3
    obtain ⟨w, rfl⟩ : ∃ w, fu = w + 1 := ⟨fu - 1, by omega⟩
    have q1 : ¬ (3 : Int32) ≤ nI j := by
      rw [show (3 : Int32) = nI 3 from rfl, nI_leI (by decide) (by omega)]
      omega
    rw [fk_lp1_s, B8_again_75, if_neg q1, show (61 : Int32) = nI 61 from rfl, nI_add, fk_chk_in (by omega) (by decide), fk_let_e, nI_clamp (by omega), fk_chk_in (by omega) (by decide), fk_let_e, nI_clamp (by omega), nI_1]
    refine ih (j + 1) w _ (by omega) (by omega) (hF.sA (by decide)) (fun i hi => ?_) (fun i hi => ?_) (fun i hi => ?_)
    · rw [gA_sA, if_neg (by decide), gA_sA, if_neg (by decide), gA_sA, if_neg (by decide)]
      exact h1 i hi
    · rw [gA_sA, if_neg (by decide)]
      exact h2 i hi
    · rw [gA_sA, if_pos rfl]
      by_cases q : i = j
      · rw [q, upd_same, hF.2.1 o ho]
      · rw [upd_ne q]
        exact h3 i (by omega)
theorem again49 {m : fkS} {o : Nat} (ho : 6 ≤ o) : ∀ (d j fu : Nat) (s : fkS), j + d = 40 → d < fu → AgF m s → AgA o m s 7 → AgT o m s j → ∃ s', fk_lp1 (B8_again_49 o) fu (nI j) s = some ((), s') ∧ AgD o m s' := by
  intro d
  induction d with
  | zero =>
    intro j fu s hj hf hF h1 h2
    obtain ⟨w, rfl⟩ : ∃ w, fu = w + 1 := ⟨fu - 1, by omega⟩
    obtain rfl : j = 40 := by omega
    rw [fk_lp1_s, B8_again_49, if_pos (show (40 : Int32) ≤ nI 40 by decide)]
    exact again75 ho 3 0 fk_fuel s (by omega) (by unfold fk_fuel; omega) hF h1 h2 (fun i hi => by omega)
  | succ d ih =>
    intro j fu s hj hf hF h1 h2
    obtain ⟨w, rfl⟩ : ∃ w, fu = w + 1 := ⟨fu - 1, by omega⟩
    have q1 : ¬ (40 : Int32) ≤ nI j := by
      rw [show (40 : Int32) = nI 40 from rfl, nI_leI (by decide) (by omega)]
      omega
    rw [fk_lp1_s, B8_again_49, if_neg q1, show (21 : Int32) = nI 21 from rfl, nI_add, fk_chk_in (by omega) (by decide), fk_let_e, nI_clamp (by omega), fk_chk_in (by omega) (by decide), fk_let_e, nI_clamp (by omega), nI_1]
    refine ih (j + 1) w _ (by omega) (by omega) (hF.sA (by decide)) (fun i hi => ?_) (fun i hi => ?_)
    · rw [gA_sA, if_neg (by decide), gA_sA, if_neg (by decide), gA_sA, if_neg (by decide)]
      exact h1 i hi
    · rw [gA_sA, if_pos rfl]
      by_cases q : i = j
      · rw [q, upd_same, hF.2.1 o ho]
      · rw [upd_ne q]
        exact h2 i (by omega)
theorem again2 {m : fkS} {o : Nat} (ho : 6 ≤ o) : ∀ (d j fu : Nat) (s : fkS), j + d = 7 → d < fu → AgF m s → AgA o m s j → ∃ s', fk_lp1 (B8_again_2 o) fu (nI j) s = some ((), s') ∧ AgD o m s' := by
  intro d
  induction d with
  | zero =>
    intro j fu s hj hf hF h1
    obtain ⟨w, rfl⟩ : ∃ w, fu = w + 1 := ⟨fu - 1, by omega⟩
    obtain rfl : j = 7 := by omega
    rw [fk_lp1_s, B8_again_2, if_pos (show (7 : Int32) ≤ nI 7 by decide)]
    exact again49 ho 40 0 fk_fuel s (by omega) (by unfold fk_fuel; omega) hF h1 (fun i hi => by omega)
  | succ d ih =>
    intro j fu s hj hf hF h1
    obtain ⟨w, rfl⟩ : ∃ w, fu = w + 1 := ⟨fu - 1, by omega⟩
    have q1 : ¬ (7 : Int32) ≤ nI j := by
      rw [show (7 : Int32) = nI 7 from rfl, nI_leI (by decide) (by omega)]
      omega
    have e : B8_again_2 o (fk_lp1 (B8_again_2 o) w) (nI j) s = fk_lp1 (B8_again_2 o) w (nI (j + 1)) (sA (sA (sA s 1 j (gA s o j)) 2 j (gA s o (7 + j))) 3 j (gA s o (14 + j))) := by
      have z1 : ∀ (u : fkS) (k j : Nat) (v : Int32), k < 6 → gA (sA u k j v) o = gA u o := fun u k j v hk => by
        rw [gA_sA, if_neg (by omega)]
      rw [B8_again_2, if_neg q1, show (7 : Int32) = nI 7 from rfl, show (14 : Int32) = nI 14 from rfl, nI_add, nI_add]
      simp (disch := omega) only [fk_chk_in, fk_let_e, nI_clamp, nI_1, z1]
    rw [fk_lp1_s, e]
    refine ih (j + 1) w _ (by omega) (by omega) (((hF.sA (by decide)).sA (by decide)).sA (by decide)) (fun i hi => ?_)
    rw [gA_sA, if_neg (by decide), gA_sA, if_neg (by decide), gA_sA, if_pos rfl, gA_sA, if_neg (by decide), gA_sA, if_pos rfl, gA_sA, if_neg (by decide), gA_sA, if_pos rfl, gA_sA, if_neg (by decide), gA_sA, if_neg (by decide)]
    by_cases q : i = j
    · rw [q, upd_same, upd_same, upd_same, hF.2.1 o ho]
      exact ⟨rfl, rfl, rfl⟩
    · rw [upd_ne q, upd_ne q, upd_ne q]
      exact h1 i (by omega)
theorem again_ok {m : fkS} {o : Nat} (ho : 6 ≤ o) : ∃ s', F8_again o m = some ((), s') ∧ AgD o m s' :=
  again2 ho 7 0 fk_fuel m (by omega) (by unfold fk_fuel; omega) ⟨fun _ _ _ _ _ => rfl, fun _ _ => rfl, fun _ => rfl⟩ (fun i hi => by omega)
