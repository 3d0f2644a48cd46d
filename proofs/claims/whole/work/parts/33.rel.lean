/-! THE TWO STATES TOGETHER: c the class's, m the reference's -/
def Bd (c m : fkS) (nb : Nat) : Prop := nb ≤ 7 ∧ gI c 0 19 = nI nb ∧ gI m 0 0 = nI nb ∧ (∀ b, b < 7 → gA c 22 b = gA m 1 b ∧ rg (gA c 22 b) 7) ∧ (∀ b, b < 7 → gA c 25 b = gA m 2 b ∧ rg (gA c 25 b) 10) ∧ (∀ b, b < 7 → gA c 28 b = gA m 3 b ∧ rg (gA c 28 b) 20)
def Tb (c m : fkS) : Prop := (∀ j, j < 40 → gA c 31 j = gA m 5 j ∧ rg (gA c 31 j) 8) ∧ (gI c 5 19 = gA m 4 0 ∧ rg (gI c 5 19) 10) ∧ (gI c 6 19 = gA m 4 1 ∧ rg (gI c 6 19) 8) ∧ gI c 7 19 = gA m 4 2
def Cn (c m : fkS) : Prop := gI c 8 19 = gI m 6 0 ∧ gI c 9 19 = gI m 7 0 ∧ gI c 10 19 = gI m 8 0
def isE (c m : fkS) (s : Nat) : Prop := gI c 100 (3 + s) = 0 ∧ gA m 6 s = -1
def isB (c m : fkS) (nb s : Nat) : Prop := gI c 100 (3 + s) = 1 ∧ ∃ b, b < nb ∧ gI c 101 (3 + s) = nI b ∧ gA m 6 s = nI b
def isR (c m : fkS) (s : Nat) : Prop := gI c 100 (3 + s) = 2 ∧ (∃ so, so < 4 ∧ gI c 102 (3 + s) = nI so ∧ gA m 6 s = nI (100 + so)) ∧ ∃ n, n ≤ 160 ∧ gI c 103 (3 + s) = nI n ∧ gA m 7 s = nI n ∧ ∀ j, j < n → gL c (3 + s + 8) j = gL m 8 (160 * s + j)
def Sh (c m : fkS) (nb : Nat) : Prop := ∀ s, s < 8 → isE c m s ∨ isB c m nb s ∨ isR c m s
def Mv (c m : fkS) : Prop := gI c 80 34 = gI m 15 0 ∧ (∃ r, r < 1000000 ∧ gI c 21 36 = nI r ∧ gI m 17 0 = nI r) ∧ (∀ j, j < 20 → gA c 37 j = gA m 11 j) ∧ ∀ j, j < 8 → gA c 1 j = gA m 12 j
def Kp (c m : fkS) : Prop := (∃ nb, nb ≤ 7 ∧ gI c 0 21 = nI nb ∧ gA m 13 64 = nI nb) ∧ (∀ b, b < 7 → (gA c 24 b = gA m 13 b ∧ rg (gA c 24 b) 7) ∧ (gA c 27 b = gA m 13 (7 + b) ∧ rg (gA c 27 b) 10) ∧ (gA c 30 b = gA m 13 (14 + b) ∧ rg (gA c 30 b) 20)) ∧ (∀ j, j < 40 → gA c 33 j = gA m 13 (21 + j) ∧ rg (gA c 33 j) 8) ∧
  (gI c 5 21 = gA m 13 61 ∧ rg (gI c 5 21) 10) ∧ (gI c 6 21 = gA m 13 62 ∧ rg (gI c 6 21) 8) ∧ gI c 7 21 = gA m 13 63 ∧ gI c 8 21 = gA m 13 65 ∧ gI c 9 21 = gA m 13 66 ∧ gI c 10 21 = gI m 36 0
def Im (c m : fkS) : Prop := gI c 144 0 = gI m 20 0 ∧ (gI c 144 0 = 0 ∨ (gI c 144 0 = 1 ∧ Kp c m))
def RelN (c m : fkS) (nb : Nat) : Prop := Bd c m nb ∧ Tb c m ∧ Cn c m ∧ Sh c m nb ∧ Mv c m ∧ Im c m
def Rel (c m : fkS) : Prop := ∃ nb, RelN c m nb
/-- what is no scratch of the class's, of the reference's -/
def kCI (f i : Nat) : Bool := i == 0 || (3 ≤ i && i ≤ 10) || i == 19 || i == 21 || i == 36 || (i == 34 && f == 80)
def kCA (i : Nat) : Bool := i == 1 || i == 22 || i == 25 || i == 28 || i == 31 || i == 24 || i == 27 || i == 30 || i == 33 || i == 37
def kMI (f : Nat) : Bool := f == 0 || f == 6 || f == 7 || f == 8 || f == 15 || f == 17 || f == 20 || f == 36
def kMA (i : Nat) : Bool := (1 ≤ i && i ≤ 7) || i == 11 || i == 12 || i == 13
def EqC (c c' : fkS) : Prop := (∀ f i, kCI f i = true → gI c' f i = gI c f i) ∧ (∀ i, kCA i = true → gA c' i = gA c i) ∧ ∀ i, gL c' i = gL c i
def EqM (m m' : fkS) : Prop := (∀ f i, kMI f = true → gI m' f i = gI m f i) ∧ (∀ i, kMA i = true → gA m' i = gA m i) ∧ ∀ i, gL m' i = gL m i
theorem EqC.rf {c : fkS} : EqC c c := ⟨fun _ _ _ => rfl, fun _ _ => rfl, fun _ => rfl⟩
theorem EqM.rf {c : fkS} : EqM c c := ⟨fun _ _ _ => rfl, fun _ _ => rfl, fun _ => rfl⟩
theorem EqC.tr {a b c : fkS} (h : EqC a b) (h2 : EqC b c) : EqC a c := ⟨fun f i q => (h2.1 f i q).trans (h.1 f i q), fun i q => (h2.2.1 i q).trans (h.2.1 i q), fun i => (h2.2.2 i).trans (h.2.2 i)⟩
theorem EqM.tr {a b c : fkS} (h : EqM a b) (h2 : EqM b c) : EqM a c := ⟨fun f i q => (h2.1 f i q).trans (h.1 f i q), fun i q => (h2.2.1 i q).trans (h.2.1 i q), fun i => (h2.2.2 i).trans (h.2.2 i)⟩
theorem EqC.sI {c c' : fkS} {f i : Nat} {v : Int32} (h : EqC c c') (hk : kCI f i = false) : EqC c (sI c' f i v) := by
  refine ⟨fun f' i' q => ?_, h.2.1, h.2.2⟩
  rw [gI_sI, if_neg (fun z => ?_)]
  · exact h.1 f' i' q
  · rw [z.1, z.2, hk] at q
    cases q
theorem EqC.sA {c c' : fkS} {i : Nat} {v : Nat → Int32} (h : EqC c c') (hk : kCA i = false) : EqC c (sAF c' i v) := by
  refine ⟨h.1, fun i' q => ?_, h.2.2⟩
  rw [gA_sAF, if_neg (fun z => ?_)]
  · exact h.2.1 i' q
  · rw [z, hk] at q
    cases q
theorem EqC.sT {c c' : fkS} {t : Option Nat} (h : EqC c c') : EqC c (sT c' t) := h
theorem EqM.sI {c c' : fkS} {f i : Nat} {v : Int32} (h : EqM c c') (hk : kMI f = false) : EqM c (sI c' f i v) := by
  refine ⟨fun f' i' q => ?_, h.2.1, h.2.2⟩
  rw [gI_sI, if_neg (fun z => ?_)]
  · exact h.1 f' i' q
  · rw [z.1, hk] at q
    cases q
theorem EqM.sA {c c' : fkS} {i : Nat} {v : Nat → Int32} (h : EqM c c') (hk : kMA i = false) : EqM c (sAF c' i v) := by
  refine ⟨h.1, fun i' q => ?_, h.2.2⟩
  rw [gA_sAF, if_neg (fun z => ?_)]
  · exact h.2.1 i' q
  · rw [z, hk] at q
    cases q
theorem kCI_sh {f s : Nat} (h : s < 8) : kCI f (3 + s) = true := by
  unfold kCI
  simp only [Bool.or_eq_true, Bool.and_eq_true, beq_iff_eq, decide_eq_true_eq]
  omega
theorem RelN.keep {c c' m m' : fkS} {nb : Nat} (h : RelN c m nb) (hC : EqC c c') (hM : EqM m m') : RelN c' m' nb := by
  obtain ⟨c1, c2, c3⟩ := hC
  obtain ⟨m1, m2, m3⟩ := hM
  obtain ⟨⟨a1, a2, a3, a4, a5, a6⟩, ⟨b1, b2, b3, b4⟩, ⟨d1, d2, d3⟩, hs, ⟨e1, e2, e3, e4⟩, ⟨f1, f2⟩⟩ := h
  refine ⟨⟨a1, ?_, ?_, ?_, ?_, ?_⟩, ⟨?_, ?_, ?_, ?_⟩, ⟨?_, ?_, ?_⟩, ?_, ⟨?_, ?_, ?_, ?_⟩, ⟨?_, ?_⟩⟩
  · rw [c1 0 19 rfl]; exact a2
  · rw [m1 0 0 rfl]; exact a3
  · rw [c2 22 rfl, m2 1 rfl]; exact a4
  · rw [c2 25 rfl, m2 2 rfl]; exact a5
  · rw [c2 28 rfl, m2 3 rfl]; exact a6
  · rw [c2 31 rfl, m2 5 rfl]; exact b1
  · rw [c1 5 19 rfl, m2 4 rfl]; exact b2
  · rw [c1 6 19 rfl, m2 4 rfl]; exact b3
  · rw [c1 7 19 rfl, m2 4 rfl]; exact b4
  · rw [c1 8 19 rfl, m1 6 0 rfl]; exact d1
  · rw [c1 9 19 rfl, m1 7 0 rfl]; exact d2
  · rw [c1 10 19 rfl, m1 8 0 rfl]; exact d3
  · intro s hs8
    have := hs s hs8
    unfold isE isB isR at this ⊢
    rw [c1 100 (3 + s) (kCI_sh hs8), c1 101 (3 + s) (kCI_sh hs8), c1 102 (3 + s) (kCI_sh hs8), c1 103 (3 + s) (kCI_sh hs8), m2 6 rfl, m2 7 rfl, c3, m3]
    exact this
  · rw [c1 80 34 rfl, m1 15 0 rfl]; exact e1
  · rw [c1 21 36 rfl, m1 17 0 rfl]; exact e2
  · rw [c2 37 rfl, m2 11 rfl]; exact e3
  · rw [c2 1 rfl, m2 12 rfl]; exact e4
  · rw [c1 144 0 rfl, m1 20 0 rfl]; exact f1
  · rw [c1 144 0 rfl]
    unfold Kp at f2 ⊢
    rw [c1 0 21 rfl, c2 24 rfl, c2 27 rfl, c2 30 rfl, c2 33 rfl, c1 5 21 rfl, c1 6 21 rfl, c1 7 21 rfl, c1 8 21 rfl, c1 9 21 rfl, c1 10 21 rfl, m2 13 rfl, m1 36 0 rfl]
    exact f2
theorem Rel.keep {c c' m m' : fkS} (h : Rel c m) (hC : EqC c c') (hM : EqM m m') : Rel c' m' := by
  obtain ⟨nb, h⟩ := h
  exact ⟨nb, h.keep hC hM⟩
/-- two answers, the same, the states together behind them -/
def Op2 {ρ : Type} (A B : Option (ρ × fkS)) : Prop := ∃ (r : ρ) (c m : fkS), A = some (r, c) ∧ B = some (r, m) ∧ Rel c m
theorem Op2.mk {ρ : Type} {r : ρ} {c m : fkS} (h : Rel c m) : Op2 (some (r, c)) (some (r, m)) := ⟨r, c, m, rfl, rfl, h⟩
theorem bind_id {α β : Type} {o : Option (α × β)} : fk_bind o (fun a b => some (a, b)) = o := by
  cases o with
  | none => rfl
  | some x => rfl
theorem rf_ok {c m : fkS} (h : Rel c m) (k : Nat) (h1 : 1 ≤ k) (h7 : k ≤ 7) {code : Int32} (hc : -code = nI k) : ∃ c' m', F7_refuse code c = some (code, c') ∧ F8_no code m = some (code, m') ∧ Rel c' m' := by
  obtain ⟨nb, ha, hb, hd, hs, ⟨e1, e2, e3, e4⟩, hi⟩ := h
  refine ⟨sA c 1 k (gA c 1 k + 1), sA m 12 k (gA m 12 k + 1), ?_, ?_, nb, ?_⟩
  · unfold F7_refuse
    rw [hc, if_neg (nI_nle (by omega) (by omega)), if_neg (by rw [zl8, nI_leI (by omega) (by omega)]; omega), fk_chk_in (by omega) (by decide), fk_let_e, nI_clamp (by omega), fk_chk_in (by omega) (by decide), fk_let_e]
  · unfold F8_no
    rw [hc, fk_chk_in (by omega) (by decide), fk_let_e, nI_clamp (by omega), fk_chk_in (by omega) (by decide), fk_let_e]
  · refine ⟨?_, ?_, hd, ?_, ⟨e1, e2, ?_, ?_⟩, hi⟩
    · exact ha
    · exact hb
    · exact hs
    · exact e3
    · intro j hj
      rw [gA_sA, if_pos rfl, gA_sA, if_pos rfl]
      unfold upd
      by_cases q : j = k
      · rw [if_pos q, if_pos q, e4 k (by omega)]
      · rw [if_neg q, if_neg q]
        exact e4 j hj
theorem refuse2 {c m : fkS} (h : Rel c m) (k : Nat) (h1 : 1 ≤ k) (h7 : k ≤ 7) {code : Int32} (hc : -code = nI k) : Op2 (F7_refuse code c) (F8_no code m) := by
  obtain ⟨c', m', q1, q2, q3⟩ := rf_ok h k h1 h7 hc
  rw [q1, q2]
  exact Op2.mk q3
theorem refuse10 {c m : fkS} (h : Rel c m) (k : Nat) (h1 : 1 ≤ k) (h7 : k ≤ 7) {code : Int32} (hc : -code = nI k) : Op2 (F7_refuseFar code c) (F8_no10 code m) := by
  obtain ⟨c', m', q1, q2, q3⟩ := rf_ok h k h1 h7 hc
  unfold F7_refuseFar F8_no10
  rw [q1, q2, fk_bind_some, fk_bind_some]
  exact Op2.mk q3
/-! guards -/
theorem not_rg {x : Int32} {n : Nat} (hn : n < 2 ^ 31) (h : ¬ rg x n) : x < 0 ∨ nI n ≤ x := by
  rcases pk_ix x hn with q | q | ⟨j, hj, q⟩
  · exact Or.inl q
  · exact Or.inr q
  · exact absurd ⟨j, hj, q⟩ h
theorem nI_sub1 {n : Nat} (hn : n < 2 ^ 31) : (nI n - 1).toInt = (n : Int) - 1 := by
  rcases Nat.eq_zero_or_pos n with h | h
  · subst h
    decide
  · obtain ⟨k, rfl⟩ : ∃ k, n = k + 1 := ⟨n - 1, by omega⟩
    rw [nI_pred, nI_toInt (by omega)]
    omega
theorem within_in {x : Int32} {n : Nat} {st : fkS} (hn : n < 2 ^ 31) (h : rg x n) : F8_within x 0 (nI n - 1) st = some (1, st) := by
  obtain ⟨a, ha, rfl⟩ := h
  unfold F8_within
  rw [if_neg (nI_pos (by omega)), if_neg]
  rw [Int32.lt_iff_toInt_lt, nI_sub1 hn, nI_toInt (by omega)]
  omega
theorem within_out {x : Int32} {n : Nat} {st : fkS} (hn : n < 2 ^ 31) (h : ¬ rg x n) : F8_within x 0 (nI n - 1) st = some (0, st) := by
  unfold F8_within
  rcases not_rg hn h with q | q
  · rw [if_pos q]
  · by_cases q0 : x < 0
    · rw [if_pos q0]
    · rw [if_neg q0, if_pos]
      rw [Int32.le_iff_toInt_le, nI_toInt hn] at q
      rw [Int32.lt_iff_toInt_lt, nI_sub1 hn]
      omega
theorem w8 : (7 : Int32) = nI 8 - 1 := by decide
theorem w4 : (3 : Int32) = nI 4 - 1 := by decide
theorem w7 : (6 : Int32) = nI 7 - 1 := by decide
theorem w10 : (9 : Int32) = nI 10 - 1 := by decide
theorem w20 : ((20 : Int32) - 1) = nI 20 - 1 := by decide
theorem w19 : (19 : Int32) = nI 20 - 1 := by decide
theorem w5 : (4 : Int32) = nI 5 - 1 := by decide
theorem w3 : (2 : Int32) = nI 3 - 1 := by decide
theorem w2 : (1 : Int32) = nI 2 - 1 := by decide
theorem w41 : (40 : Int32) = nI 41 - 1 := by decide
theorem w256 : (255 : Int32) = nI 256 - 1 := by decide
theorem noShelf_in {x : Int32} {st : fkS} (h : rg x 8) : F7_noShelf x st = some (0, st) := by
  obtain ⟨a, ha, rfl⟩ := h
  unfold F7_noShelf
  rw [if_neg (nI_pos (by omega)), if_neg (by rw [zl8, nI_leI (by omega) (by omega)]; omega), fk_chk_in ha (by decide)]
theorem lt_of_not_le {x y : Int32} (h : y ≤ x) : ¬ x < y := by
  rw [Int32.lt_iff_toInt_lt]
  rw [Int32.le_iff_toInt_le] at h
  omega
theorem noShelf_out {x : Int32} {st : fkS} (h : ¬ rg x 8) : F7_noShelf x st = some (1, st) := by
  unfold F7_noShelf
  rcases not_rg (by decide) h with q | q
  · rw [if_pos q]
  · by_cases q0 : x < 0
    · rw [if_pos q0]
    · rw [if_neg q0, zl8, if_pos q]
theorem lacks_in {o nb : Nat} {x : Int32} {st : fkS} (hn : nb ≤ 7) (hI : gI st 0 o = nI nb) (h : rg x nb) : F0_lacks o x st = some (0, st) := by
  obtain ⟨a, ha, rfl⟩ := h
  unfold F0_lacks
  rw [if_neg (nI_pos (by omega)), fk_let_e, hI, if_neg (by rw [nI_leI (by omega) (by omega)]; omega), if_pos (by rw [zl7, nI_ltI (by omega) (by omega)]; omega)]
theorem lacks_out {o nb : Nat} {x : Int32} {st : fkS} (hn : nb ≤ 7) (hI : gI st 0 o = nI nb) (h : ¬ rg x nb) : F0_lacks o x st = some (1, st) := by
  unfold F0_lacks
  rcases not_rg (by omega) h with q | q
  · rw [if_pos q]
  · by_cases q0 : x < 0
    · rw [if_pos q0]
    · rw [if_neg q0, fk_let_e, hI, if_pos q]
theorem bool0 : fk_bool 0 = true := rfl
theorem bool1 : fk_bool 1 = true := rfl
theorem isBird_in {nb : Nat} {x : Int32} {st : fkS} (hn : nb ≤ 7) (hI : gI st 0 0 = nI nb) (h : rg x nb) : F8_isBird x st = some (1, st) := by
  unfold F8_isBird
  rw [fk_let_e, hI, within_in (by omega) h, fk_bind_some, fk_chk_t bool1]
theorem isBird_out {nb : Nat} {x : Int32} {st : fkS} (hn : nb ≤ 7) (hI : gI st 0 0 = nI nb) (h : ¬ rg x nb) : F8_isBird x st = some (0, st) := by
  unfold F8_isBird
  rw [fk_let_e, hI, within_out (by omega) h, fk_bind_some, fk_chk_t bool0]
theorem isState_in {x : Int32} {st : fkS} (h : rg x 8) : F8_isState x st = some (1, st) := by
  unfold F8_isState
  rw [w8, within_in (by omega) h, fk_bind_some, fk_chk_t bool1]
theorem isState_out {x : Int32} {st : fkS} (h : ¬ rg x 8) : F8_isState x st = some (0, st) := by
  unfold F8_isState
  rw [w8, within_out (by omega) h, fk_bind_some, fk_chk_t bool0]
/-- a shelf's row, seen from either side -/
theorem isRow_R {c m : fkS} {s : Nat} (hs : s < 8) (h : isR c m s) : F8_isRow (nI s) m = some (1, m) := by
  obtain ⟨-, ⟨so, h1, -, h2⟩, -⟩ := h
  unfold F8_isRow
  rw [fk_chk_in hs (by decide), fk_let_e, nI_clamp (by omega), h2, if_neg]
  rw [show (100 : Int32) = nI 100 from rfl, nI_ltI (by omega) (by omega)]
  omega
theorem isRow_B {c m : fkS} {nb s : Nat} (hs : s < 8) (hnb : nb ≤ 7) (h : isB c m nb s) : F8_isRow (nI s) m = some (0, m) := by
  obtain ⟨-, b, h1, -, h2⟩ := h
  unfold F8_isRow
  rw [fk_chk_in hs (by decide), fk_let_e, nI_clamp (by omega), h2, if_pos]
  rw [show (100 : Int32) = nI 100 from rfl, nI_ltI (by omega) (by omega)]
  omega
theorem isRow_E {c m : fkS} {s : Nat} (hs : s < 8) (h : isE c m s) : F8_isRow (nI s) m = some (0, m) := by
  obtain ⟨-, h2⟩ := h
  unfold F8_isRow
  rw [fk_chk_in hs (by decide), fk_let_e, nI_clamp (by omega), h2, if_pos (by decide)]
theorem noRow_R {c m : fkS} {s : Nat} (hs : s < 8) (h : isR c m s) : F8_noRow (nI s) m = some (0, m) := by
  have h0 := isRow_R hs h
  obtain ⟨-, ⟨so, h1, -, h2⟩, -⟩ := h
  unfold F8_noRow
  rw [w8, within_in (by decide) (rg_nI hs), fk_bind_some, if_neg (by decide), fk_chk_in hs (by decide), fk_let_e, nI_clamp (by omega), h2, if_neg (nI_pos (by omega)), h0, fk_bind_some, if_neg (by decide)]
  unfold B8_noRow_32
  rw [fk_chk_in hs (by decide), fk_let_e, nI_clamp (by omega), h2, if_pos (nI_pos' (by omega))]
theorem noRow_B {c m : fkS} {nb s : Nat} (hs : s < 8) (hnb : nb ≤ 7) (h : isB c m nb s) : F8_noRow (nI s) m = some (-2, m) := by
  have h0 := isRow_B hs hnb h
  obtain ⟨-, b, h1, -, h2⟩ := h
  unfold F8_noRow
  rw [w8, within_in (by decide) (rg_nI hs), fk_bind_some, if_neg (by decide), fk_chk_in hs (by decide), fk_let_e, nI_clamp (by omega), h2, if_neg (nI_pos (by omega)), h0, fk_bind_some, if_pos rfl]
theorem noRow_E {c m : fkS} {s : Nat} (hs : s < 8) (h : isE c m s) : F8_noRow (nI s) m = some (-3, m) := by
  obtain ⟨-, h2⟩ := h
  unfold F8_noRow
  rw [w8, within_in (by decide) (rg_nI hs), fk_bind_some, if_neg (by decide), fk_chk_in hs (by decide), fk_let_e, nI_clamp (by omega), h2, if_pos (by decide)]
  unfold B8_noRow_32
  rw [fk_chk_in hs (by decide), fk_let_e, nI_clamp (by omega), h2, if_neg (by decide)]
theorem noRow_out {m : fkS} {x : Int32} (h : ¬ rg x 8) : F8_noRow x m = some (-1, m) := by
  unfold F8_noRow
  rw [w8, within_out (by decide) h, fk_bind_some, if_pos rfl]
/-- why two shelves aren't read as rows: the same on either side -/
def RC (code : Int32) : Prop := code = -1 ∨ code = -2 ∨ code = -3
theorem RC.ref {code : Int32} (h : RC code) : ¬ code = 0 ∧ ¬ 0 ≤ code ∧ ∃ k, 1 ≤ k ∧ k ≤ 7 ∧ -code = nI k := by
  rcases h with rfl | rfl | rfl
  · exact ⟨by decide, by decide, 1, by decide, by decide, by decide⟩
  · exact ⟨by decide, by decide, 2, by decide, by decide, by decide⟩
  · exact ⟨by decide, by decide, 3, by decide, by decide, by decide⟩
theorem rows2 {c m : fkS} {nb : Nat} (h : RelN c m nb) (x y : Int32) : (∃ s p, s < 8 ∧ p < 8 ∧ x = nI s ∧ y = nI p ∧ isR c m s ∧ isR c m p ∧ F7_noRows x y c = some (0, c) ∧ F8_noRows x y m = some (0, m)) ∨
    ∃ code, RC code ∧ F7_noRows x y c = some (code, c) ∧ F8_noRows x y m = some (code, m) := by
  have hnb : nb ≤ 7 := h.1.1
  have hSh := h.2.2.2.1
  refine Classical.byCases (p := ¬ rg x 8) (fun hx => ?_) (fun hx => ?_)
  · refine Or.inr ⟨-1, Or.inl rfl, ?_, ?_⟩
    · unfold F7_noRows
      rw [noShelf_out hx, fk_bind_some, if_neg (by decide)]
    · unfold F8_noRows
      rw [w8, within_out (by decide) hx, fk_bind_some, if_pos rfl]
  have hx := Classical.not_not.mp hx
  refine Classical.byCases (p := ¬ rg y 8) (fun hy => ?_) (fun hy => ?_)
  · refine Or.inr ⟨-1, Or.inl rfl, ?_, ?_⟩
    · unfold F7_noRows
      rw [noShelf_in hx, fk_bind_some, if_pos rfl, noShelf_out hy, fk_bind_some, if_neg (by decide)]
    · unfold F8_noRows
      rw [w8, within_in (by decide) hx, fk_bind_some, if_neg (by decide), within_out (by decide) hy, fk_bind_some, if_pos rfl]
  obtain ⟨s, hs, rfl⟩ := hx
  obtain ⟨p, hp, rfl⟩ := Classical.not_not.mp hy
  have eC : F7_noRows (nI s) (nI p) c = (if gI c 100 (3 + s) = (1 : Int32) then some ((-2 : Int32), c) else if gI c 100 (3 + p) = (1 : Int32) then some ((-2 : Int32), c) else if gI c 100 (3 + s) = 0 then some ((-3 : Int32), c) else if gI c 100 (3 + p) = 0 then some ((-3 : Int32), c) else some ((0 : Int32), c)) := by
    unfold F7_noRows
    rw [noShelf_in (rg_nI hs), fk_bind_some, if_pos rfl, noShelf_in (rg_nI hp), fk_bind_some, if_pos rfl]
    simp (disch := omega) only [fk_chk_in, fk_let_e, nI_clamp]
  have eM : ∀ a b : Int32, F8_noRow (nI s) m = some (a, m) → F8_noRow (nI p) m = some (b, m) → F8_noRows (nI s) (nI p) m = (if a = (-2 : Int32) then some ((-2 : Int32), m) else if b = (-2 : Int32) then some ((-2 : Int32), m) else if 0 ≤ a then some (b, m) else some (a, m)) := by
    intro a b ha hb
    unfold F8_noRows
    rw [w8, within_in (by decide) (rg_nI hs), fk_bind_some, if_neg (by decide), within_in (by decide) (rg_nI hp), fk_bind_some, if_neg (by decide), ha, fk_bind_some, hb, fk_bind_some]
  rcases hSh s hs with h1 | h1 | h1 <;> rcases hSh p hp with h2 | h2 | h2
  · refine Or.inr ⟨-3, Or.inr (Or.inr rfl), ?_, ?_⟩
    · rw [eC, h1.1, h2.1]; rfl
    · rw [eM _ _ (noRow_E hs h1) (noRow_E hp h2)]; rfl
  · refine Or.inr ⟨-2, Or.inr (Or.inl rfl), ?_, ?_⟩
    · rw [eC, h1.1, h2.1]; rfl
    · rw [eM _ _ (noRow_E hs h1) (noRow_B hp hnb h2)]; rfl
  · refine Or.inr ⟨-3, Or.inr (Or.inr rfl), ?_, ?_⟩
    · rw [eC, h1.1, h2.1]; rfl
    · rw [eM _ _ (noRow_E hs h1) (noRow_R hp h2)]; rfl
  · refine Or.inr ⟨-2, Or.inr (Or.inl rfl), ?_, ?_⟩
    · rw [eC, h1.1]; rfl
    · rw [eM _ _ (noRow_B hs hnb h1) (noRow_E hp h2)]; rfl
  · refine Or.inr ⟨-2, Or.inr (Or.inl rfl), ?_, ?_⟩
    · rw [eC, h1.1]; rfl
    · rw [eM _ _ (noRow_B hs hnb h1) (noRow_B hp hnb h2)]; rfl
  · refine Or.inr ⟨-2, Or.inr (Or.inl rfl), ?_, ?_⟩
    · rw [eC, h1.1]; rfl
    · rw [eM _ _ (noRow_B hs hnb h1) (noRow_R hp h2)]; rfl
  · refine Or.inr ⟨-3, Or.inr (Or.inr rfl), ?_, ?_⟩
    · rw [eC, h1.1, h2.1]; rfl
    · rw [eM _ _ (noRow_R hs h1) (noRow_E hp h2)]; rfl
  · refine Or.inr ⟨-2, Or.inr (Or.inl rfl), ?_, ?_⟩
    · rw [eC, h1.1, h2.1]; rfl
    · rw [eM _ _ (noRow_R hs h1) (noRow_B hp hnb h2)]; rfl
  · refine Or.inl ⟨s, p, hs, hp, rfl, rfl, h1, h2, ?_, ?_⟩
    · rw [eC, h1.1, h2.1]; rfl
    · rw [eM _ _ (noRow_R hs h1) (noRow_R hp h2)]; rfl
theorem row1 {c m : fkS} {nb : Nat} (h : RelN c m nb) (x : Int32) : (∃ s, s < 8 ∧ x = nI s ∧ isR c m s ∧ F7_noRow x c = some (0, c) ∧ F8_noRow x m = some (0, m)) ∨
    ∃ code, RC code ∧ F7_noRow x c = some (code, c) ∧ F8_noRow x m = some (code, m) := by
  have hnb : nb ≤ 7 := h.1.1
  have hSh := h.2.2.2.1
  have e : F7_noRow x c = F7_noRows x x c := by
    unfold F7_noRow
    exact bind_id
  refine Classical.byCases (p := ¬ rg x 8) (fun hx => ?_) (fun hx => ?_)
  · refine Or.inr ⟨-1, Or.inl rfl, ?_, noRow_out hx⟩
    rw [e]
    unfold F7_noRows
    rw [noShelf_out hx, fk_bind_some, if_neg (by decide)]
  obtain ⟨s, hs, rfl⟩ := Classical.not_not.mp hx
  have eC : F7_noRows (nI s) (nI s) c = (if gI c 100 (3 + s) = (1 : Int32) then some ((-2 : Int32), c) else if gI c 100 (3 + s) = (1 : Int32) then some ((-2 : Int32), c) else if gI c 100 (3 + s) = 0 then some ((-3 : Int32), c) else if gI c 100 (3 + s) = 0 then some ((-3 : Int32), c) else some ((0 : Int32), c)) := by
    unfold F7_noRows
    rw [noShelf_in (rg_nI hs), fk_bind_some, if_pos rfl, noShelf_in (rg_nI hs), fk_bind_some, if_pos rfl]
    simp (disch := omega) only [fk_chk_in, fk_let_e, nI_clamp]
  rw [e, eC]
  rcases hSh s hs with h1 | h1 | h1
  · exact Or.inr ⟨-3, Or.inr (Or.inr rfl), by rw [h1.1]; rfl, noRow_E hs h1⟩
  · exact Or.inr ⟨-2, Or.inr (Or.inl rfl), by rw [h1.1]; rfl, noRow_B hs hnb h1⟩
  · exact Or.inl ⟨s, hs, rfl, h1, by rw [h1.1]; rfl, noRow_R hs h1⟩
