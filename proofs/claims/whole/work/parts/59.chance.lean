/-! chance -/
theorem fk_lp8_s {α1 α2 α3 α4 α5 α6 α7 α8 β γ : Type} (B : (α1 → α2 → α3 → α4 → α5 → α6 → α7 → α8 → β → Option γ) → α1 → α2 → α3 → α4 → α5 → α6 → α7 → α8 → β → Option γ) (n : Nat) (a : α1) (b : α2) (c : α3) (d : α4) (e : α5) (f : α6) (g : α7) (h : α8) (i : β) : fk_lp8 B (n + 1) a b c d e f g h i = B (fk_lp8 B n) a b c d e f g h i := rfl
theorem fk_lp10_s {α1 α2 α3 α4 α5 α6 α7 α8 α9 α10 β γ : Type} (B : (α1 → α2 → α3 → α4 → α5 → α6 → α7 → α8 → α9 → α10 → β → Option γ) → α1 → α2 → α3 → α4 → α5 → α6 → α7 → α8 → α9 → α10 → β → Option γ) (n : Nat) (a : α1) (b : α2) (c : α3) (d : α4) (e : α5) (f : α6) (g : α7) (h : α8) (i : α9) (j : α10) (k : β) : fk_lp10 B (n + 1) a b c d e f g h i j k = B (fk_lp10 B n) a b c d e f g h i j k := rfl
theorem isR.keep {c m c' m' : fkS} {s : Nat} (hs : s < 8) (h : isR c m s) (hC : EqC c c') (hM : EqM m m') : isR c' m' s := by
  unfold isR at h ⊢
  rw [hC.1 100 (3 + s) (kCI_sh hs), hC.1 102 (3 + s) (kCI_sh hs), hC.1 103 (3 + s) (kCI_sh hs), hM.2.1 6 rfl, hM.2.1 7 rfl, hC.2.2, hM.2.2]
  exact h
/-- the row's elements, as a pie reads them -/
def rowL (m : fkS) (s : Nat) (k : Nat) : Int32 := (gL m 8 (160 * s + k)).toInt32
theorem takeV_loop {s n : Nat} {lo : Int32} {c0 m0 : fkS} (hs : s < 8) (hn : n ≤ 8) (t6 : gI c0 103 (3 + s) = nI n) (t8 : ∀ j, j < n → gL c0 (3 + s + 8) j = gL m0 8 (160 * s + j)) : ∀ (d j fu : Nat) (c m : fkS), j + d = n → d < fu → EqC c0 c → EqM m0 m → (∀ f i, i ≠ 38 → gI c f i = gI c0 f i) → gI c 61 38 = nI n → gI m 22 0 = nI n → (∀ k, k < j → gA c 39 k = rowL m0 s k ∧ gA m 14 k = rowL m0 s k ∧ ¬ rowL m0 s k < lo ∧ rowL m0 s k < 10) →
    ∃ (r : Int32) (c' m' : fkS), fk_lp2 (B3_take_21 (3 + s)) fu lo (nI j) c = some (r, c') ∧ fk_lp3 B8_isPie_23 fu (nI s) lo (nI j) m = some (r, m') ∧ EqC c0 c' ∧ EqM m0 m' ∧ (∀ f i, i ≠ 38 → gI c' f i = gI c0 f i) ∧
      ((r = 0 ∧ ∃ k, k < n ∧ ¬ (¬ rowL m0 s k < lo ∧ rowL m0 s k < 10)) ∨ (r = 1 ∧ gI c' 61 38 = nI n ∧ gI m' 22 0 = nI n ∧ ∀ k, k < n → gA c' 39 k = rowL m0 s k ∧ gA m' 14 k = rowL m0 s k ∧ ¬ rowL m0 s k < lo ∧ rowL m0 s k < 10)) := by
  intro d
  induction d with
  | zero =>
    intro j fu c m hj hf hC hM hI h1 h2 h3
    obtain ⟨w, rfl⟩ : ∃ w, fu = w + 1 := ⟨fu - 1, by omega⟩
    have hj : j = n := by omega
    subst hj
    rw [fk_lp2_s, fk_lp3_s, B3_take_21, B8_isPie_23, fk_let_e, fk_let_e, h1, h2, if_pos Int32.le_rfl, if_pos Int32.le_rfl]
    exact ⟨1, c, m, rfl, rfl, hC, hM, hI, Or.inr ⟨rfl, h1, h2, h3⟩⟩
  | succ d ih =>
    intro j fu c m hj hf hC hM hI h1 h2 h3
    obtain ⟨w, rfl⟩ : ∃ w, fu = w + 1 := ⟨fu - 1, by omega⟩
    have q1 : ¬ nI n ≤ nI j := by
      rw [nI_leI (by omega) (by omega)]
      omega
    have q2 : ¬ (8 : Int32) ≤ nI j := by
      rw [zl8, nI_leI (by decide) (by omega)]
      omega
    have hL : (gL c (3 + s + 8) j).toInt32 = rowL m0 s j := by
      unfold rowL
      rw [hC.2.2, t8 j (by omega)]
    have eT : F8_toldAt (nI s) (nI j) m = some (rowL m0 s j, m) := by
      rw [told_ok hs (by omega), hM.2.2]
      rfl
    rw [fk_lp2_s, fk_lp3_s, B3_take_21, B8_isPie_23, fk_let_e, fk_let_e, h1, h2, if_neg q1, if_neg q1, if_neg q2, number_in (show gI c 103 (3 + s) = nI n by rw [hC.1 _ _ (kCI_sh hs)]; exact t6) (by omega) (by omega), eT, fk_bind_some, fk_bind_some, hL, fk_chk_in (show j < 8 by omega) (by decide), fk_chk_in (show j < 8 by omega) (by decide), fk_let_e, fk_let_e, fk_chk_in (show j < 8 by omega) (by decide), fk_let_e, nI_clamp (by omega), sA_def m, gA_same, upd_same, within_c, fk_bind_some]
    have hM' : EqM m0 (sAF m 14 (upd (gA m 14) j (rowL m0 s j))) := hM.sA rfl
    by_cases q3 : rowL m0 s j < lo
    · rw [if_pos q3, if_pos q3, if_pos rfl]
      exact ⟨0, _, _, rfl, rfl, hC, hM', hI, Or.inl ⟨rfl, j, by omega, fun z => z.1 q3⟩⟩
    · rw [if_neg q3, if_neg q3]
      by_cases q4 : rowL m0 s j < 10
      · rw [if_pos q4, if_neg (lt10.mpr q4), if_neg (show ¬ (1 : Int32) = 0 by decide), sA_def, nI_1]
        refine ih (j + 1) w _ _ (by omega) (by omega) (hC.sA rfl) hM' hI ?_ ?_ ?_
        · rw [gI_sAF]
          exact h1
        · rw [gI_sAF]
          exact h2
        · intro k hk
          rw [gA_same, gA_same]
          by_cases e : k = j
          · subst e
            rw [upd_same, upd_same]
            exact ⟨rfl, rfl, q3, q4⟩
          · rw [upd_ne e, upd_ne e]
            exact h3 k (by omega)
      · rw [if_neg q4, if_pos (Classical.not_not.mp (fun z => q4 (lt10.mp z))), if_pos rfl]
        exact ⟨0, _, _, rfl, rfl, hC, hM', hI, Or.inl ⟨rfl, j, by omega, fun z => q4 z.2⟩⟩
theorem takeV {s n : Nat} {lo : Int32} {c m : fkS} (hs : s < 8) (h : isR c m s) (hn : gI c 103 (3 + s) = nI n) (hn160 : n ≤ 160) :
    ∃ (r : Int32) (c' m' : fkS), F3_take (3 + s) lo c = some (r, c') ∧ F8_isPie (nI s) lo m = some (r, m') ∧ EqC c c' ∧ EqM m m' ∧ (∀ f i, i ≠ 38 → gI c' f i = gI c f i) ∧
      ((r = 0 ∧ ¬ (n ≤ 8 ∧ ∀ k, k < n → ¬ rowL m s k < lo ∧ rowL m s k < 10)) ∨ (r = 1 ∧ n ≤ 8 ∧ gI c' 61 38 = nI n ∧ gI m' 22 0 = nI n ∧ ∀ k, k < n → gA c' 39 k = rowL m s k ∧ gA m' 14 k = rowL m s k ∧ ¬ rowL m s k < lo ∧ rowL m s k < 10)) := by
  obtain ⟨t1, -, n', t5, t6, t7, t8⟩ := h
  have e : n' = n := by
    rw [t6, nI_eq (by omega) (by omega)] at hn
    exact hn
  subst e
  unfold F3_take F8_isPie
  rw [zl8, fk_let_e, fk_let_e, t6, fk_chk_in hs (by decide), fk_let_e, nI_clamp (by omega), t7, fk_let_e, fk_let_e, gI_same, fk_let_e]
  have hM' : EqM m (sI m 22 0 (nI n')) := EqM.rf.sI rfl
  by_cases q : n' ≤ 8
  · rw [if_pos ((nI_leI (by omega) (by decide)).mpr q), if_pos ((nI_leI (by omega) (by decide)).mpr q)]
    obtain ⟨r, c', m', e1, e2, e3, e4, e5, e6⟩ := takeV_loop (lo := lo) (c0 := c) (m0 := m) hs q t6 t8 n' 0 fk_fuel (sI c 61 38 (nI n')) (sI m 22 0 (nI n')) (by omega) (by unfold fk_fuel; omega) (EqC.rf.sI rfl) hM' (fun f i z => gI_ni z) gI_same gI_same (fun k hk => by omega)
    refine ⟨r, c', m', e1, e2, e3, e4, e5, ?_⟩
    rcases e6 with ⟨e6, k, e7, e8⟩ | ⟨e6, e7, e8, e9⟩
    · exact Or.inl ⟨e6, fun z => e8 (z.2 k e7)⟩
    · exact Or.inr ⟨e6, q, e7, e8, e9⟩
  · rw [if_neg (fun z => q ((nI_leI (by omega) (by decide)).mp z)), if_neg (fun z => q ((nI_leI (by omega) (by decide)).mp z))]
    exact ⟨0, _, _, rfl, rfl, EqC.rf, hM', fun _ _ _ => rfl, Or.inl ⟨rfl, fun z => q z.1⟩⟩
/-- how many layers aren't known -/
def ukN (p : Nat → Int32) : Nat → Nat → Nat → Nat
  | 0, _, v => v
  | d + 1, j, v => ukN p d (j + 1) (if p j = -1 then v + 1 else v)
theorem ukN_eq {p p' : Nat → Int32} {n : Nat} (h : ∀ i, i < n → p i = p' i) : ∀ (d j v : Nat), j + d ≤ n → ukN p d j v = ukN p' d j v := by
  intro d
  induction d with
  | zero => intro j v _; rfl
  | succ d ih =>
    intro j v hj
    unfold ukN
    rw [h j (by omega), ih (j + 1) _ (by omega)]
theorem ukN_le {p : Nat → Int32} : ∀ (d j v : Nat), ukN p d j v ≤ v + d := by
  intro d
  induction d with
  | zero => intro j v; exact Nat.le_refl _
  | succ d ih =>
    intro j v
    unfold ukN
    have h1 := ih (j + 1) v
    have h2 := ih (j + 1) (v + 1)
    by_cases q : p j = -1
    · rw [if_pos q]
      omega
    · rw [if_neg q]
      omega
theorem ukC_loop {n : Nat} {c : fkS} (hn : n ≤ 8) (h : gI c 61 38 = nI n) : ∀ (d j fu v : Nat), j + d = n → d < fu → v ≤ j → fk_lp2 B3_unknowns_4 fu (nI v) (nI j) c = some (nI (ukN (gA c 39) d j v), c) := by
  intro d
  induction d with
  | zero =>
    intro j fu v hj hf hv
    obtain ⟨w, rfl⟩ : ∃ w, fu = w + 1 := ⟨fu - 1, by omega⟩
    obtain rfl : j = n := by omega
    rw [fk_lp2_s, B3_unknowns_4, fk_let_e, h, if_pos Int32.le_rfl]
    rfl
  | succ d ih =>
    intro j fu v hj hf hv
    obtain ⟨w, rfl⟩ : ∃ w, fu = w + 1 := ⟨fu - 1, by omega⟩
    have q1 : ¬ nI n ≤ nI j := by
      rw [nI_leI (by omega) (by omega)]
      omega
    have q2 : ¬ (8 : Int32) ≤ nI j := by
      rw [zl8, nI_leI (by decide) (by omega)]
      omega
    rw [fk_lp2_s, B3_unknowns_4, fk_let_e, h, if_neg q1, if_neg q2, fk_chk_in (by omega) (by decide), fk_let_e, nI_clamp (by omega), B3_unknowns_37, B3_unknowns_37, Int32.add_zero, nI_1, nI_1, ukN]
    by_cases q : gA c 39 j = -1
    · rw [if_pos q, if_pos q]
      exact ih (j + 1) w (v + 1) (by omega) (by omega) (by omega)
    · rw [if_neg q, if_neg q]
      exact ih (j + 1) w v (by omega) (by omega) (by omega)
theorem ukM_loop {n : Nat} {m : fkS} (hn : n ≤ 8) (h : gI m 22 0 = nI n) : ∀ (d j fu v : Nat), j + d = n → d < fu → v ≤ j → fk_lp2 B8_unknown_4 fu (nI v) (nI j) m = some (nI (ukN (gA m 14) d j v), m) := by
  intro d
  induction d with
  | zero =>
    intro j fu v hj hf hv
    obtain ⟨w, rfl⟩ : ∃ w, fu = w + 1 := ⟨fu - 1, by omega⟩
    obtain rfl : j = n := by omega
    rw [fk_lp2_s, B8_unknown_4, fk_let_e, h, if_pos Int32.le_rfl]
    rfl
  | succ d ih =>
    intro j fu v hj hf hv
    obtain ⟨w, rfl⟩ : ∃ w, fu = w + 1 := ⟨fu - 1, by omega⟩
    have q1 : ¬ nI n ≤ nI j := by
      rw [nI_leI (by omega) (by omega)]
      omega
    rw [fk_lp2_s, B8_unknown_4, fk_let_e, h, if_neg q1, fk_chk_in (by omega) (by decide), fk_let_e, nI_clamp (by omega), B8_unknown_25, B8_unknown_25, nI_1, nI_1, ukN]
    by_cases q : gA m 14 j = -1
    · rw [if_pos q, if_pos q]
      exact ih (j + 1) w (v + 1) (by omega) (by omega) (by omega)
    · rw [if_neg q, if_neg q]
      exact ih (j + 1) w v (by omega) (by omega) (by omega)
theorem ukC {n : Nat} {c : fkS} (hn : n ≤ 8) (h : gI c 61 38 = nI n) : F3_unknowns c = some (nI (ukN (gA c 39) n 0 0), c) := ukC_loop hn h n 0 fk_fuel 0 (by omega) (by unfold fk_fuel; omega) (by omega)
theorem ukM {n : Nat} {m : fkS} (hn : n ≤ 8) (h : gI m 22 0 = nI n) : F8_unknown m = some (nI (ukN (gA m 14) n 0 0), m) := ukM_loop hn h n 0 fk_fuel 0 (by omega) (by unfold fk_fuel; omega) (by omega)
/-- the unknown layers by the digits of a number, the last digit first -/
def fil : Nat → Nat → Nat → (Nat → Int32) → Nat → Int32
  | 0, _, _, p => p
  | d + 1, j, r, p => if p j = -1 then fil d (j + 1) (r / 10) (upd p j (nI (r % 10))) else fil d (j + 1) r p
theorem fil_s (d j r : Nat) (p : Nat → Int32) : fil (d + 1) j r p = (if p j = -1 then fil d (j + 1) (r / 10) (upd p j (nI (r % 10))) else fil d (j + 1) r p) := rfl
theorem fil_eq : ∀ (d j r n : Nat) (p p' : Nat → Int32), j + d ≤ n → (∀ i, i < n → p i = p' i) → ∀ i, i < n → fil d j r p i = fil d j r p' i := by
  intro d
  induction d with
  | zero => intro j r n p p' _ h i hi; exact h i hi
  | succ d ih =>
    intro j r n p p' hj h i hi
    rw [fil_s, fil_s, h j (by omega)]
    by_cases q : p' j = -1
    · rw [if_pos q, if_pos q]
      refine ih (j + 1) (r / 10) n _ _ (by omega) (fun k hk => ?_) i hi
      by_cases z : k = j
      · rw [z, upd_same, upd_same]
      · rw [upd_ne z, upd_ne z]
        exact h k hk
    · rw [if_neg q, if_neg q]
      exact ih (j + 1) r n _ _ (by omega) h i hi
theorem fil_rg : ∀ (d j r n : Nat) (p : Nat → Int32), j + d = n → (∀ i, i < n → p i = -1 ∨ rg (p i) 10) → (∀ i, i < j → rg (p i) 10) → ∀ i, i < n → rg (fil d j r p i) 10 := by
  intro d
  induction d with
  | zero => intro j r n p hj _ h i hi; exact h i (by omega)
  | succ d ih =>
    intro j r n p hj h1 h2 i hi
    rw [fil_s]
    by_cases q : p j = -1
    · rw [if_pos q]
      refine ih (j + 1) (r / 10) n _ (by omega) (fun k hk => ?_) (fun k hk => ?_) i hi
      · by_cases z : k = j
        · rw [z, upd_same]
          exact Or.inr (rg_nI (Nat.mod_lt _ (by decide)))
        · rw [upd_ne z]
          exact h1 k hk
      · by_cases z : k = j
        · rw [z, upd_same]
          exact rg_nI (Nat.mod_lt _ (by decide))
        · rw [upd_ne z]
          exact h2 k (by omega)
    · rw [if_neg q]
      refine ih (j + 1) r n p (by omega) h1 (fun k hk => ?_) i hi
      by_cases z : k = j
      · rw [z]
        exact (h1 j (by omega)).resolve_left q
      · exact h2 k (by omega)
theorem filC_loop {n : Nat} (hn : n ≤ 8) : ∀ (d j fu r : Nat) (c : fkS), j + d = n → d < fu → r < 2 ^ 31 → gI c 61 38 = nI n → fk_lp2 B3_fillUnknowns_4 fu (nI r) (nI j) c = some ((), sAF c 39 (fil d j r (gA c 39))) := by
  intro d
  induction d with
  | zero =>
    intro j fu r c hj hf hr h
    obtain ⟨w, rfl⟩ : ∃ w, fu = w + 1 := ⟨fu - 1, by omega⟩
    obtain rfl : j = n := by omega
    rw [fk_lp2_s, B3_fillUnknowns_4, fk_let_e, h, if_pos Int32.le_rfl, show fil 0 j r (gA c 39) = gA c 39 from rfl, sAF_self]
  | succ d ih =>
    intro j fu r c hj hf hr h
    obtain ⟨w, rfl⟩ : ∃ w, fu = w + 1 := ⟨fu - 1, by omega⟩
    have q1 : ¬ nI n ≤ nI j := by
      rw [nI_leI (by omega) (by omega)]
      omega
    have q2 : ¬ (8 : Int32) ≤ nI j := by
      rw [zl8, nI_leI (by decide) (by omega)]
      omega
    rw [fk_lp2_s, B3_fillUnknowns_4, fk_let_e, h, if_neg q1, if_neg q2, fk_chk_in (by omega) (by decide), fk_let_e, nI_clamp (by omega), B3_fillUnknowns_46, fil_s]
    by_cases q : gA c 39 j = -1
    · rw [if_pos q, if_pos q, fk_chk_in (by omega) (by decide), fk_let_e, B3_fillUnknowns_46, nI_1, zl10, fk_rem_nI hr (by decide) (by decide), pk_div hr (by decide) (by decide), sA_def, ih (j + 1) w (r / 10) _ (by omega) (by omega) (by omega) (by rw [gI_sAF]; exact h), sAF_sAF, gA_same]
    · rw [if_neg q, if_neg q, nI_1, ih (j + 1) w r c (by omega) (by omega) hr h]
theorem filM_loop {n : Nat} {k88 : Int32 → Int32 → Int32 → Int32 → Int32 → Int32 → Int32 → Int32 → fkS → Option (Int32 × fkS)} {v1 v2 v3 v4 v6 v7 v8 v9 : Int32} (hn : n ≤ 8) : ∀ (d j fu r : Nat) (m : fkS), j + d = n → d < fu → r < 2 ^ 31 → gI m 22 0 = nI n →
    fk_lp10 (B8_chance_112 k88) fu v1 v2 v3 v4 v6 v7 v8 v9 (nI r) (nI j) m = fk_bind (F8_goes v2 (gA (sAF m 14 (fil d j r (gA m 14))) 4 1) (sAF m 14 (fil d j r (gA m 14)))) (fun _ st31 => if gI st31 26 0 = v3 then k88 v1 v2 v3 v4 v6 (v7 + 1) (v8 + gI st31 27 0) (v9 + 1) st31 else k88 v1 v2 v3 v4 v6 v7 (v8 + gI st31 27 0) (v9 + 1) st31) := by
  intro d
  induction d with
  | zero =>
    intro j fu r m hj hf hr h
    obtain ⟨w, rfl⟩ : ∃ w, fu = w + 1 := ⟨fu - 1, by omega⟩
    obtain rfl : j = n := by omega
    rw [fk_lp10_s, B8_chance_112, fk_let_e, h, if_pos Int32.le_rfl, show fil 0 j r (gA m 14) = gA m 14 from rfl, sAF_self, fk_chk_t (show fk_in (1 : Int32) 3 = true by decide), fk_let_e, cl1]
    rfl
  | succ d ih =>
    intro j fu r m hj hf hr h
    obtain ⟨w, rfl⟩ : ∃ w, fu = w + 1 := ⟨fu - 1, by omega⟩
    have q1 : ¬ nI n ≤ nI j := by
      rw [nI_leI (by omega) (by omega)]
      omega
    rw [fk_lp10_s, B8_chance_112, fk_let_e, h, if_neg q1, fk_chk_in (by omega) (by decide), fk_let_e, nI_clamp (by omega), B8_chance_154, fil_s]
    by_cases q : gA m 14 j = -1
    · rw [if_pos q, if_pos q, fk_chk_in (by omega) (by decide), fk_let_e, B8_chance_154, nI_1, zl10, fk_rem_nI hr (by decide) (by decide), pk_div hr (by decide) (by decide), sA_def, ih (j + 1) w (r / 10) _ (by omega) (by omega) (by omega) (by rw [gI_sAF]; exact h), sAF_sAF, gA_same]
    · rw [if_neg q, if_neg q, nI_1, ih (j + 1) w r m (by omega) (by omega) hr h]
theorem chq : ∀ (u : Fin 4) (k : Fin 1001), nI k.1 * ((1000000 : Int32) / nI (10 ^ u.1)) = (((1000000 : Int64) * (nI k.1).toInt64) / (nI (10 ^ u.1)).toInt64).toInt32 := by
  decide +kernel
theorem ten_nz {U : Nat} (h : U ≤ 3) : fk_nz (nI (10 ^ U)) = true ∧ fk_nzL (nI (10 ^ U)).toInt64 = true ∧ fk_max 1 (nI (10 ^ U)) = nI (10 ^ U) := by
  obtain rfl | rfl | rfl | rfl : U = 0 ∨ U = 1 ∨ U = 2 ∨ U = 3 := by omega
  · exact ⟨by decide, by decide, by decide⟩
  · exact ⟨by decide, by decide, by decide⟩
  · exact ⟨by decide, by decide, by decide⟩
  · exact ⟨by decide, by decide, by decide⟩
theorem lay_val {x : Int32} (h1 : ¬ x < -1) (h2 : x < 10) : x = -1 ∨ rg x 10 := by
  by_cases q : x < 0
  · refine Or.inl ?_
    rw [Int32.lt_iff_toInt_lt] at q h1
    have e0 : (0 : Int32).toInt = 0 := by decide
    have e1 : (-1 : Int32).toInt = -1 := by decide
    exact Int32.toInt_inj.mp (by rw [e1]; omega)
  · exact Or.inr (rg10 q h2)
theorem chance_loop {c m : fkS} {nb b kd hN n s U : Nat} {a mo v3 v4 : Int32} (hR : RelN c m nb) (hB : Bv c m b kd hN a mo) (hs : s < 8) (hS : isR c m s) (hn : n ≤ 8) (t6 : gI c 103 (3 + s) = nI n) (hL : ∀ k, k < n → ¬ rowL m s k < -1 ∧ rowL m s k < 10) (hU : U ≤ 3) :
    ∀ (d j fu : Nat) (v7 w7 w8 : Int32) (c1 m1 : fkS), j + d = 10 ^ U → d < fu → EqC c c1 → EqM m m1 → Vc 40 c1 kd hN a mo → ((v4 = 0 ∧ v7 = w7 ∧ ∃ k, k ≤ j ∧ w7 = nI k) ∨ (v4 = 1 ∧ v7 = w8)) →
    ∃ r c' m', fk_lp6 B7_chance_153 fu (nI s) v3 v4 (nI (10 ^ U)) v7 (nI j) c1 = some (r, c') ∧ fk_lp8 B8_chance_88 fu (nI s) (nI b) v3 v4 (nI U) w7 w8 (nI j) m1 = some (r, m') ∧ EqC c c' ∧ EqM m m' := by
  have hten := ten1000 hU
  have k10 : ¬ (1 : Int32) = 0 := by decide
  have k01 : ¬ (0 : Int32) = 1 := by decide
  intro d
  induction d with
  | zero =>
    intro j fu v7 w7 w8 c1 m1 hj hf hC hM hV hI
    obtain ⟨w, rfl⟩ : ∃ w, fu = w + 1 := ⟨fu - 1, by omega⟩
    obtain rfl : j = 10 ^ U := by omega
    rw [fk_lp6_s, fk_lp8_s, B7_chance_153, B8_chance_88, if_pos Int32.le_rfl, pow_ok (by omega), fk_bind_some, if_pos Int32.le_rfl, pow_ok (by omega), fk_bind_some, fk_bind_some, fk_chk_t (ten_nz hU).1, fk_chk_t (ten_nz hU).1, fk_chk_t (ten_nz hU).2.1, fk_chk_t (ten_nz hU).1]
    rcases hI with ⟨h4, h7, k, hk, hw⟩ | ⟨h4, h7⟩
    · rw [if_pos h4, if_pos h4, h7, hw, ← chq ⟨U, by omega⟩ ⟨k, by omega⟩]
      exact ⟨_, _, _, rfl, rfl, hC, hM⟩
    · rw [if_neg (by rw [h4]; exact k10), if_neg (by rw [h4]; exact k10), h7, Int32.mul_comm]
      exact ⟨_, _, _, rfl, rfl, hC, hM⟩
  | succ d ih =>
    intro j fu v7 w7 w8 c1 m1 hj hf hC hM hV hI
    obtain ⟨w, rfl⟩ : ∃ w, fu = w + 1 := ⟨fu - 1, by omega⟩
    have q1 : ¬ nI (10 ^ U) ≤ nI j := by
      rw [nI_leI (by omega) (by omega)]
      omega
    have hrow : ∀ k, rowL m1 s k = rowL m s k := fun k => by
      unfold rowL
      rw [hM.2.2]
    obtain ⟨r, c2, m2, e1, e2, e3, e4, e5, e6⟩ := takeV (lo := -1) (c := c1) (m := m1) (n := n) hs (hS.keep hs hC hM) (by rw [hC.1 _ _ (kCI_sh hs)]; exact t6) (by omega)
    rcases e6 with ⟨-, e6⟩ | ⟨rfl, -, g1, g2, g3⟩
    · exact absurd ⟨hn, fun k hk => by rw [hrow]; exact hL k hk⟩ e6
    · have hV2 : Vc 40 c2 kd hN a mo := ⟨(e5 120 40 (by decide)).trans hV.1, (e5 121 40 (by decide)).trans hV.2.1, (e5 122 40 (by decide)).trans hV.2.2.1, (e5 123 40 (by decide)).trans hV.2.2.2⟩
      have hp3 : ∀ i, i < n → rg (fil n 0 j (rowL m s) i) 10 := fil_rg n 0 j n (rowL m s) (by omega) (fun i hi => lay_val (hL i hi).1 (hL i hi).2) (fun i hi => by omega)
      have hC2 : EqC c c2 := hC.tr e3
      have hM2 : EqM m m2 := hM.tr e4
      obtain ⟨c3, s1, s2, s3, s4, s5, s6⟩ := brgC (p := fil n 0 j (rowL m s)) (n := n) (c1 := sAF c2 39 (fil n 0 j (gA c2 39))) hR hB (hC2.sA rfl) hV2 hn (by rw [gI_sAF]; exact g1) (fun i hi => by rw [gA_same]; exact fil_eq n 0 j n _ _ (by omega) (fun k hk => ((g3 k hk).1).trans (hrow k)) i hi) hp3
      obtain ⟨m3, u1, u2, u3, u4, u5⟩ := brgM (p := fil n 0 j (rowL m s)) (n := n) (m1 := sAF m2 14 (fil n 0 j (gA m2 14))) hR hB (hM2.sA rfl) hn (by rw [gI_sAF]; exact g2) (fun i hi => by rw [gA_same]; exact fil_eq n 0 j n _ _ (by omega) (fun k hk => ((g3 k hk).2.1).trans (hrow k)) i hi) hp3
      rw [fk_lp6_s, fk_lp8_s, B7_chance_153, B8_chance_88, if_neg q1, pow_ok (by omega), fk_bind_some, if_neg q1, fk_chk_in hs (by decide), nI_clamp (show s < 2 ^ 31 by omega), e1, e2, fk_bind_some, fk_bind_some, F3_fillUnknowns, show fk_lp2 B3_fillUnknowns_4 fk_fuel (nI j) 0 c2 = _ from filC_loop hn n 0 fk_fuel j c2 (by omega) (by unfold fk_fuel; omega) (by omega) g1, fk_bind_some, show fk_lp10 (B8_chance_112 (fk_lp8 B8_chance_88 w)) fk_fuel (nI s) (nI b) v3 v4 (nI U) w7 w8 (nI j) (nI j) 0 m2 = _ from filM_loop hn n 0 fk_fuel j m2 (by omega) (by unfold fk_fuel; omega) (by omega) g2, s1, fk_bind_some, u1, fk_bind_some, u4, u5, nI_1]
      unfold B7_chance_245
      rw [nI_1]
      rcases hI with ⟨h4, h7, k, hk, hw⟩ | ⟨h4, h7⟩
      · rw [if_neg (by rw [h4]; exact k01), fk_let_e, s5, fk_bind_some]
        by_cases q : endV m kd hN n a mo (fil n 0 j (rowL m s)) = v3
        · rw [if_pos q, if_pos q]
          exact ih (j + 1) w _ _ _ c3 m3 (by omega) (by omega) s3 u3 s4 (Or.inl ⟨h4, by rw [h7], k + 1, by omega, by rw [hw, nI_1]⟩)
        · rw [if_neg q, if_neg q]
          exact ih (j + 1) w _ _ _ c3 m3 (by omega) (by omega) s3 u3 s4 (Or.inl ⟨h4, h7, k, by omega, hw⟩)
      · rw [if_pos h4, s6, fk_bind_some]
        by_cases q : endV m kd hN n a mo (fil n 0 j (rowL m s)) = v3
        · rw [if_pos q]
          exact ih (j + 1) w _ _ _ c3 m3 (by omega) (by omega) s3 u3 s4 (Or.inr ⟨h4, by rw [h7]⟩)
        · rw [if_neg q]
          exact ih (j + 1) w _ _ _ c3 m3 (by omega) (by omega) s3 u3 s4 (Or.inr ⟨h4, by rw [h7]⟩)
theorem chance_both {c m c' m' : fkS} {nb b s n : Nat} {v3 v4 : Int32} (hR : RelN c m nb) (hC : EqC c c') (hM : EqM m m') (hb : b < nb) (hs : s < 8) (hS : isR c m s) (hn : n ≤ 8) (t6 : gI c 103 (3 + s) = nI n) (hL : ∀ k, k < n → ¬ rowL m s k < -1 ∧ rowL m s k < 10) (g1 : gI c' 61 38 = nI n) (g2 : gI m' 22 0 = nI n)
    (g3 : ∀ k, k < n → gA c' 39 k = rowL m s k ∧ gA m' 14 k = rowL m s k) (hU : ukN (rowL m s) n 0 0 ≤ 3) (h4 : v4 = 0 ∨ v4 = 1) : Op2 (B7_chance_119 (nI s) (nI b) v3 v4 c') (B8_chance_73 (nI s) (nI b) v3 v4 m') := by
  obtain ⟨kd, hN, a, mo, hB⟩ := hR.bv hb
  obtain ⟨c1, v1, v2, vV⟩ := take_ok (Or.inl rfl) hR hb hB hC
  have eU : ukN (gA c' 39) n 0 0 = ukN (rowL m s) n 0 0 := ukN_eq (fun i hi => (g3 i hi).1) n 0 0 (by omega)
  have eU2 : ukN (gA m' 14) n 0 0 = ukN (rowL m s) n 0 0 := ukN_eq (fun i hi => (g3 i hi).2) n 0 0 (by omega)
  unfold B7_chance_119 B8_chance_73
  rw [ukC hn g1, ukM hn g2, eU, eU2, fk_bind_some, fk_bind_some, ten_ok hU, fk_bind_some, v1, fk_bind_some, (ten_nz hU).2.2]
  obtain ⟨r, c2, m2, o1, o2, o3, o4⟩ := chance_loop (v3 := v3) (v4 := v4) hR hB hs hS hn t6 hL hU (10 ^ ukN (rowL m s) n 0 0) 0 fk_fuel 0 0 0 c1 m' (by omega) (by have := ten1000 hU; unfold fk_fuel; omega) (hC.tr (v2.eq (Or.inl rfl))) hM vV (by
    rcases h4 with h4 | h4
    · exact Or.inl ⟨h4, rfl, 0, Nat.le_refl _, rfl⟩
    · exact Or.inr ⟨h4, rfl⟩)
  rw [show fk_lp6 B7_chance_153 fk_fuel (nI s) v3 v4 (nI (10 ^ ukN (rowL m s) n 0 0)) 0 0 c1 = _ from o1, show fk_lp8 B8_chance_88 fk_fuel (nI s) (nI b) v3 v4 (nI (ukN (rowL m s) n 0 0)) 0 0 0 m' = _ from o2]
  exact Op2.mk ⟨nb, hR.keep o3 o4⟩
theorem op_chance {c m : fkS} (h : Rel c m) (x b p q : Int32) : Op2 (F7_chance x b p q c) (F8_chance x b p q m) := by
  have h0 := h
  obtain ⟨nb, h⟩ := h
  have hnb := h.1.1
  have k1 : ¬ (1 : Int32) = 0 := by decide
  have k01 : ¬ (0 : Int32) = 1 := by decide
  have kn : ¬ (0 : Int32) ≤ -1 := by decide
  have kr : (0 : Int32) = 0 := rfl
  unfold F7_chance F8_chance B7_chance_19 F8_noPie
  rcases rgQ (x := x) 8 with hx | hx
  rotate_left
  · rw [noShelf_out hx, fk_bind_some, if_neg k1, within8_out hx, fk_bind_some, if_pos kr, fk_bind_some, if_neg kn]
    exact ref1 h0
  · rw [noShelf_in hx, fk_bind_some, if_pos kr, within8_in hx, fk_bind_some, if_neg k1]
    rcases rgQ (x := b) nb with hb | hb
    rotate_left
    · rw [lacks_out hnb h.1.2.1 hb, fk_bind_some, if_neg k1, isBird_out hnb h.1.2.2.1 hb, fk_bind_some, if_pos kr, fk_bind_some, if_neg kn]
      exact ref1 h0
    · rw [lacks_in hnb h.1.2.1 hb, fk_bind_some, if_pos kr, isBird_in hnb h.1.2.2.1 hb, fk_bind_some, if_neg k1]
      rcases row1 h x with ⟨s, hs, rfl, hR, e1, e2⟩ | ⟨code, hc, e1, e2⟩
      rotate_left
      · rw [e1, e2, fk_bind_some, fk_bind_some, fk_bind_some, if_neg hc.ref.1, if_neg hc.ref.2.1]
        exact refC h0 hc
      · rw [e1, e2, fk_bind_some, fk_bind_some, fk_bind_some, if_pos kr, if_pos Int32.le_rfl]
        rcases rgQ (x := q) 2 with hq | hq
        rotate_left
        · rw [within2_out hq, fk_bind_some, if_pos kr, if_neg (show ¬ q = 0 from fun z => hq ⟨0, by decide, z⟩), if_neg (show ¬ q = 1 from fun z => hq ⟨1, by decide, z⟩)]
          exact ref5 h0
        · have hq4 : q = 0 ∨ q = 1 := by
            obtain ⟨k, hk, rfl⟩ := hq
            obtain rfl | rfl : k = 0 ∨ k = 1 := by omega
            · exact Or.inl rfl
            · exact Or.inr rfl
          obtain ⟨bN, hb, rfl⟩ := hb
          obtain ⟨t1, -, n, t5, t6, -⟩ := id hR
          obtain ⟨r, c', m', f1, f2, f3, f4, -, f6⟩ := takeV (lo := -1) hs hR t6 t5
          have hK : Rel c' m' := ⟨nb, h.keep f3 f4⟩
          have eC : (if q = 0 then B7_chance_62 (nI s) (nI bN) p q c else if q = 1 then B7_chance_62 (nI s) (nI bN) p q c else fk_bind (F7_refuse (-5) c) fun x7 st8 => some (x7, st8)) = B7_chance_62 (nI s) (nI bN) p q c := by
            by_cases z : q = 0
            · rw [if_pos z]
            · rw [if_neg z, if_pos (hq4.resolve_left z)]
          rw [within2_in hq, fk_bind_some, if_neg k1, f2, fk_bind_some, eC, B7_chance_62, fk_chk_in hs (by decide), nI_clamp (by omega), f1, fk_bind_some]
          unfold B7_chance_90 B7_chance_112 B8_chance_66
          rcases f6 with ⟨rfl, -⟩ | ⟨rfl, hn, g1, g2, g3⟩
          · rw [if_pos kr, if_pos kr]
            exact ref6 hK
          · have eU : ukN (gA c' 39) n 0 0 = ukN (rowL m s) n 0 0 := ukN_eq (fun i hi => (g3 i hi).1) n 0 0 (by omega)
            have eU2 : ukN (gA m' 14) n 0 0 = ukN (rowL m s) n 0 0 := ukN_eq (fun i hi => (g3 i hi).2.1) n 0 0 (by omega)
            have hle := ukN_le (p := rowL m s) n 0 0
            have both := fun hU => chance_both (v3 := p) (v4 := q) h f3 f4 hb hs hR hn t6 (fun k hk => (g3 k hk).2.2) g1 g2 (fun k hk => ⟨(g3 k hk).1, (g3 k hk).2.1⟩) hU hq4
            rw [if_neg k1, if_neg k1, ukC hn g1, ukM hn g2, eU, eU2, fk_bind_some, fk_bind_some]
            by_cases hU : ukN (rowL m s) n 0 0 ≤ 3
            rotate_left
            · rw [if_neg (show ¬ nI (ukN (rowL m s) n 0 0) ≤ 3 by rw [show (3 : Int32) = nI 3 from rfl, nI_leI (by omega) (by decide)]; exact hU), if_pos (show (3 : Int32) < nI (ukN (rowL m s) n 0 0) by rw [show (3 : Int32) = nI 3 from rfl, nI_ltI (by decide) (by omega)]; omega)]
              exact ref6 hK
            · rw [if_pos (show nI (ukN (rowL m s) n 0 0) ≤ 3 by rw [show (3 : Int32) = nI 3 from rfl, nI_leI (by omega) (by decide)]; exact hU), if_neg (show ¬ (3 : Int32) < nI (ukN (rowL m s) n 0 0) by rw [show (3 : Int32) = nI 3 from rfl, nI_ltI (by decide) (by omega)]; omega)]
              by_cases z : q = 0
              · rw [if_pos z, if_pos z]
                rcases rgQ (x := p) 8 with hp | hp
                · rw [isState_in hp, fk_bind_some, if_neg k1, if_neg (nneg (by decide) hp), if_pos (show p < 8 from lt_lit (by decide) hp)]
                  exact both hU
                · rw [isState_out hp, fk_bind_some, if_pos kr]
                  by_cases y : p < 0
                  · rw [if_pos y]
                    exact ref6 hK
                  · rw [if_neg y, if_neg (show ¬ p < 8 from lt_of_not_le (show (8 : Int32) ≤ p from ge_lit (by decide) hp y))]
                    exact ref6 hK
              · rw [if_neg z, if_neg z]
                exact both hU
