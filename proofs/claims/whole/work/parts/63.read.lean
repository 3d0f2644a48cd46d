/-! bakery: the text, letter by letter, on both sides -/
def Tx0 (c0 m0 : fkS) (s n : Nat) : Prop := s < 8 ∧ n ≤ 160 ∧ gI c0 103 (3 + s) = nI n ∧ gA m0 7 s = nI n ∧ ∀ j, j < n → gL c0 (3 + s + 8) j = gL m0 8 (160 * s + j)
def TX (m0 : fkS) (s n pos : Nat) : Int32 := if pos < n then rowL m0 s pos else -1
def RdC (c0 c : fkS) (s n pos : Nat) : Prop := gT c = some (3 + s) ∧ gI c 81 34 = nI pos ∧ pos ≤ n ∧ (∀ f i, i ≠ 20 → i ≠ 34 → gI c f i = gI c0 f i) ∧ (∀ i, i ≠ 23 → i ≠ 26 → i ≠ 29 → i ≠ 32 → i ≠ 35 → gA c i = gA c0 i) ∧ ∀ i, gL c i = gL c0 i
def RdM (m0 m : fkS) (s pos : Nat) : Prop := gI m 12 0 = nI s ∧ gI m 13 0 = nI pos ∧ (∀ f i, f ≠ 0 → f ≠ 13 → gI m f i = gI m0 f i) ∧ (∀ i, 6 ≤ i → i ≠ 9 → gA m i = gA m0 i) ∧ ∀ i, gL m i = gL m0 i
def RdD (c m : fkS) : Prop := (∃ nb, nb ≤ 7 ∧ gI c 0 20 = nI nb ∧ gI m 0 0 = nI nb ∧ ∃ b0, b0 ≤ nb ∧ gI c 0 19 = nI b0) ∧ (∀ b, b < 7 → (gA c 23 b = gA m 1 b ∧ rg (gA c 23 b) 7) ∧ (gA c 26 b = gA m 2 b ∧ rg (gA c 26 b) 10) ∧ (gA c 29 b = gA m 3 b ∧ rg (gA c 29 b) 20)) ∧ (∀ j, j < 40 → gA c 32 j = gA m 5 j ∧ rg (gA c 32 j) 8) ∧
  (gI c 5 20 = gA m 4 0 ∧ rg (gI c 5 20) 10) ∧ (gI c 6 20 = gA m 4 1 ∧ rg (gI c 6 20) 8) ∧ gI c 7 20 = gA m 4 2 ∧ gI c 8 20 = gI m 6 0 ∧ gI c 9 20 = gI m 7 0 ∧ gI c 10 20 = gI m 8 0
def Lv (c0 m0 : fkS) (s n pos : Nat) (c m : fkS) : Prop := RdC c0 c s n pos ∧ gI c 80 34 = -1 ∧ RdM m0 m s pos ∧ RdD c m
def DdC (c0 c : fkS) (s n f : Nat) : Prop := f ≤ n ∧ gI c 80 34 = nI f ∧ ∃ pos, RdC c0 c s n pos
theorem txt_some {α : Type} {s : Nat} {F1 : Option α} {F2 : Nat → Option α} (hs : s < 8) : fk_txt (some (3 + s)) F1 F2 = F2 (3 + s) := by
  rcases s with _ | _ | _ | _ | _ | _ | _ | _ | s <;> first | rfl | (exfalso; omega)
theorem letter_ok {c0 m0 c : fkS} {s n pos : Nat} (hx : Tx0 c0 m0 s n) (h : RdC c0 c s n pos) : F4_letter c = some (TX m0 s n pos, c) := by
  obtain ⟨hs, hn, t6, t7, t8⟩ := hx
  obtain ⟨h1, h2, h3, h4, h5, h6⟩ := h
  have e : gI c 103 (3 + s) = nI n := (h4 103 (3 + s) (by omega) (by omega)).trans t6
  unfold F4_letter TX
  rw [h1, txt_some hs, fk_let_e, fk_let_e, h2, if_neg (nI_pos (by omega)), txt_some hs, fk_let_e, e, txt_some hs, fk_let_e]
  by_cases q : pos < n
  · rw [if_pos ((nI_ltI (by omega) (by omega)).mpr q), if_pos q, fk_chk_in (by omega) (by decide), fk_let_e, nI_clamp (by omega), h6, t8 pos q]
    rfl
  · rw [if_neg (fun z => q ((nI_ltI (by omega) (by omega)).mp z)), if_neg q]
theorem rsign_ok {c0 m0 m : fkS} {s n pos : Nat} (hx : Tx0 c0 m0 s n) (h : RdM m0 m s pos) (hp : pos ≤ n) : F8_sign m = some (TX m0 s n pos, m) := by
  obtain ⟨hs, hn, t6, t7, t8⟩ := hx
  obtain ⟨h1, h2, h3, h4, h5⟩ := h
  unfold F8_sign TX
  rw [fk_let_e, fk_let_e, h1, h2, fk_chk_in hs (by decide), fk_let_e, nI_clamp (by omega), h4 7 (by decide) (by decide), t7]
  by_cases q : pos < n
  · rw [if_neg (show ¬ nI n ≤ nI pos by rw [nI_leI (by omega) (by omega)]; omega), if_pos q, fk_let_e, fk_let_e, zl160, pk_mul, nI_add, fk_chk_in (by omega) (by decide), fk_let_e, nI_clamp (by omega), h5]
    rfl
  · rw [if_pos (show nI n ≤ nI pos by rw [nI_leI (by omega) (by omega)]; omega), if_neg q]
theorem TX_lt {m0 : fkS} {s n pos : Nat} {ch : Int32} (h : TX m0 s n pos = ch) (hch : ¬ ch = -1) : pos < n := by
  unfold TX at h
  by_cases q : pos < n
  · exact q
  · rw [if_neg q] at h
    exact absurd h.symm hch
theorem RdC.step {c0 c : fkS} {s n pos p : Nat} (h : RdC c0 c s n pos) (hp : p ≤ n) : RdC c0 (sI c 81 34 (nI p)) s n p := by
  obtain ⟨h1, h2, h3, h4, h5, h6⟩ := h
  refine ⟨h1, gI_same, hp, fun f i n1 n2 => ?_, h5, h6⟩
  rw [gI_ni n2]
  exact h4 f i n1 n2
theorem RdC.flt {c0 c : fkS} {s n pos : Nat} {v : Int32} (h : RdC c0 c s n pos) : RdC c0 (sI c 80 34 v) s n pos := by
  obtain ⟨h1, h2, h3, h4, h5, h6⟩ := h
  refine ⟨h1, ?_, h3, fun f i n1 n2 => ?_, h5, h6⟩
  · rw [gI_nf (by decide)]
    exact h2
  · rw [gI_ni n2]
    exact h4 f i n1 n2
theorem RdC.num {c0 c : fkS} {s n pos i : Nat} {v : Int32} (h : RdC c0 c s n pos) : RdC c0 (sA c 35 i v) s n pos := by
  obtain ⟨h1, h2, h3, h4, h5, h6⟩ := h
  refine ⟨h1, h2, h3, h4, fun i n1 n2 n3 n4 n5 => ?_, h6⟩
  rw [gA_sA, if_neg n5]
  exact h5 i n1 n2 n3 n4 n5
theorem RdM.step {m0 m : fkS} {s pos p : Nat} (h : RdM m0 m s pos) : RdM m0 (sI m 13 0 (nI p)) s p := by
  obtain ⟨h1, h2, h3, h4, h5⟩ := h
  refine ⟨?_, gI_same, fun f i n1 n2 => ?_, h4, h5⟩
  · rw [gI_nf (by decide)]
    exact h1
  · rw [gI_nf n2]
    exact h3 f i n1 n2
theorem RdM.num {m0 m : fkS} {s pos i : Nat} {v : Int32} (h : RdM m0 m s pos) : RdM m0 (sA m 9 i v) s pos := by
  obtain ⟨h1, h2, h3, h4, h5⟩ := h
  refine ⟨h1, h2, h3, fun i n1 n2 => ?_, h5⟩
  rw [gA_sA, if_neg n2]
  exact h4 i n1 n2
theorem RdD.c {c c' m m' : fkS} (h : RdD c m) (h0 : gI c' 0 19 = gI c 0 19) (h1 : ∀ f, gI c' f 20 = gI c f 20) (h2 : ∀ i, i ≠ 35 → gA c' i = gA c i) (h3 : ∀ f, f ≠ 13 → gI m' f 0 = gI m f 0) (h4 : ∀ i, i ≠ 9 → gA m' i = gA m i) : RdD c' m' := by
  unfold RdD at h ⊢
  rw [h0, h1 0, h1 5, h1 6, h1 7, h1 8, h1 9, h1 10, h2 23 (by decide), h2 26 (by decide), h2 29 (by decide), h2 32 (by decide), h3 0 (by decide), h3 6 (by decide), h3 7 (by decide), h3 8 (by decide), h4 1 (by decide), h4 2 (by decide), h4 3 (by decide), h4 4 (by decide), h4 5 (by decide)]
  exact h
theorem Lv.step {c0 m0 c m : fkS} {s n pos p : Nat} (h : Lv c0 m0 s n pos c m) (hp : p ≤ n) : Lv c0 m0 s n p (sI c 81 34 (nI p)) (sI m 13 0 (nI p)) := by
  obtain ⟨h1, h2, h3, h4⟩ := h
  refine ⟨h1.step hp, ?_, h3.step, h4.c ?_ (fun f => ?_) (fun _ _ => rfl) (fun f z => ?_) (fun _ _ => rfl)⟩
  · rw [gI_nf (by decide)]
    exact h2
  · rw [gI_ni (by decide)]
  · rw [gI_ni (by decide)]
  · rw [gI_nf z]
theorem Lv.die {c0 m0 c m : fkS} {s n pos f : Nat} (h : Lv c0 m0 s n pos c m) (hf : f ≤ n) : DdC c0 (sI c 80 34 (nI f)) s n f := ⟨hf, gI_same, pos, h.1.flt⟩
theorem fail_live {c : fkS} {v : Int32} (h : gI c 80 34 = -1) : F4_fail v c = some ((), sI c 80 34 v) := by
  unfold F4_fail
  rw [fk_let_e, h, if_pos rfl, fk_let_e]
theorem m1_nI {n : Nat} (h : n ≤ 160) : ¬ nI n = (-1 : Int32) := m1_rg (n := 161) (by decide) (rg_nI (by omega))
theorem fail_dead {c0 c : fkS} {s n f : Nat} {v : Int32} (hn : n ≤ 160) (h : DdC c0 c s n f) : F4_fail v c = some ((), c) := by
  have hf := h.1
  unfold F4_fail
  rw [fk_let_e, h.2.1, if_neg (m1_nI (by omega))]
theorem expect_dead {c0 c : fkS} {s n f : Nat} {v : Int32} (hn : n ≤ 160) (h : DdC c0 c s n f) : F4_expect v c = some ((), c) := by
  have hf := h.1
  unfold F4_expect
  rw [fk_let_e, h.2.1, if_neg (m1_nI (by omega))]
theorem expect2 {c0 m0 c m : fkS} {s n pos : Nat} {ch : Int32} (hx : Tx0 c0 m0 s n) (h : Lv c0 m0 s n pos c m) (hch : ¬ ch = -1) :
    (F4_expect ch c = some ((), sI c 81 34 (nI (pos + 1))) ∧ F8_is ch m = some (1, sI m 13 0 (nI (pos + 1))) ∧ pos < n ∧ Lv c0 m0 s n (pos + 1) (sI c 81 34 (nI (pos + 1))) (sI m 13 0 (nI (pos + 1)))) ∨
    (F4_expect ch c = some ((), sI c 80 34 (nI pos)) ∧ F8_is ch m = some (0, m) ∧ DdC c0 (sI c 80 34 (nI pos)) s n pos) := by
  have hp := h.1.2.2.1
  unfold F4_expect F8_is
  rw [fk_let_e, h.2.1, if_pos rfl, letter_ok hx h.1, fk_bind_some, rsign_ok hx h.2.2.1 hp, fk_bind_some]
  by_cases q : TX m0 s n pos = ch
  · have hlt := TX_lt q hch
    refine Or.inl ?_
    rw [if_pos q, if_pos q, fk_let_e, fk_let_e, fk_let_e, fk_let_e, h.1.2.1, h.2.2.1.2.1, nI_1]
    exact ⟨rfl, rfl, hlt, h.step (by omega)⟩
  · refine Or.inr ?_
    rw [if_neg q, if_neg q, fk_let_e, fail_live h.2.1, fk_bind_some, h.1.2.1]
    exact ⟨rfl, rfl, h.die hp⟩
/-! words -/
def wl (q : Nat) : Nat := fk_len.getD q 0
def wch (q i : Nat) : Int32 := ((((fk_byt.getD q []).getD i 0) &&& 255).toUInt32 % 65536).toInt32
theorem len_ok {q : Nat} {st : fkS} (hq : q < 7) : FS_len q st = some (nI (wl q), st) := by
  rcases q with _ | _ | _ | _ | _ | _ | _ | q <;> (try (exfalso; omega)) <;> rfl
theorem empty_ok {q : Nat} {st : fkS} (hq : q < 6) : FS_empty q st = some (0, st) := by
  rcases q with _ | _ | _ | _ | _ | _ | q <;> (try (exfalso; omega)) <;> rfl
theorem char_ok {q i : Nat} {st : fkS} (hq : q < 6) (hi : i < wl q) : FS_char q (nI i) st = some (wch q i, st) ∧ ¬ wch q i = -1 := by
  have h5 : wl q ≤ 5 := by
    rcases q with _ | _ | _ | _ | _ | _ | q <;> (try (exfalso; omega)) <;> decide
  rcases q with _ | _ | _ | _ | _ | _ | q <;> (try (exfalso; omega)) <;> rcases i with _ | _ | _ | _ | _ | i <;> first | (exfalso; omega) | (exfalso; revert hi; decide) | exact ⟨rfl, by decide⟩
theorem word_dead {c0 c : fkS} {s n f q : Nat} {v2 v3 : Int32} (hn : n ≤ 160) (hq : q < 6) (h : DdC c0 c s n f) : ∀ (d i fu : Nat), i + d = wl q → d < fu → fk_lp4 (B4_readItem_19 20) fu v2 v3 q (nI i) c = B4_readItem_62 20 v2 v3 c := by
  have h5 : wl q ≤ 5 := by
    rcases q with _ | _ | _ | _ | _ | _ | q <;> (try (exfalso; omega)) <;> decide
  intro d
  induction d with
  | zero =>
    intro i fu hi hf
    obtain ⟨w, rfl⟩ : ∃ w, fu = w + 1 := ⟨fu - 1, by omega⟩
    obtain rfl : i = wl q := by omega
    rw [fk_lp4_s, B4_readItem_19, len_ok (by omega), fk_bind_some, if_pos Int32.le_rfl, empty_ok hq, fk_bind_some, if_pos rfl]
  | succ d ih =>
    intro i fu hi hf
    obtain ⟨w, rfl⟩ : ∃ w, fu = w + 1 := ⟨fu - 1, by omega⟩
    have q1 : ¬ nI (wl q) ≤ nI i := by
      rw [nI_leI (by omega) (by omega)]
      omega
    rw [fk_lp4_s, B4_readItem_19, len_ok (by omega), fk_bind_some, if_neg q1, (char_ok hq (by omega)).1, fk_bind_some, expect_dead hn h, fk_bind_some, nI_1]
    exact ih (i + 1) w (by omega) (by omega)
theorem word2 {c0 m0 : fkS} {s n q : Nat} {v2 v3 : Int32} (hx : Tx0 c0 m0 s n) (hq : q < 6) : ∀ (d i fu fv pos : Nat) (c m : fkS), i + d = wl q → d < fu → d < fv → Lv c0 m0 s n pos c m →
    (∃ c' m', fk_lp4 (B4_readItem_19 20) fu v2 v3 q (nI i) c = B4_readItem_62 20 v2 v3 c' ∧ fk_lp1 (B8_word_2 q) fv (nI i) m = some (1, m') ∧ Lv c0 m0 s n (pos + d) c' m' ∧ gI m' 0 0 = gI m 0 0) ∨
    (∃ c' m' f, fk_lp4 (B4_readItem_19 20) fu v2 v3 q (nI i) c = B4_readItem_62 20 v2 v3 c' ∧ fk_lp1 (B8_word_2 q) fv (nI i) m = some (0, m') ∧ DdC c0 c' s n f ∧ RdM m0 m' s f) := by
  have hn := hx.2.1
  have h5 : wl q ≤ 5 := by
    rcases q with _ | _ | _ | _ | _ | _ | q <;> (try (exfalso; omega)) <;> decide
  intro d
  induction d with
  | zero =>
    intro i fu fv pos c m hi hf hf2 h
    obtain ⟨w, rfl⟩ : ∃ w, fu = w + 1 := ⟨fu - 1, by omega⟩
    obtain ⟨v, rfl⟩ : ∃ v, fv = v + 1 := ⟨fv - 1, by omega⟩
    obtain rfl : i = wl q := by omega
    rw [fk_lp4_s, fk_lp1_s, B4_readItem_19, B8_word_2, len_ok (by omega), len_ok (by omega), fk_bind_some, fk_bind_some, if_pos Int32.le_rfl, if_pos Int32.le_rfl, empty_ok hq, fk_bind_some, if_pos rfl]
    exact Or.inl ⟨c, m, rfl, rfl, h, rfl⟩
  | succ d ih =>
    intro i fu fv pos c m hi hf hf2 h
    obtain ⟨w, rfl⟩ : ∃ w, fu = w + 1 := ⟨fu - 1, by omega⟩
    obtain ⟨v, rfl⟩ : ∃ v, fv = v + 1 := ⟨fv - 1, by omega⟩
    have q1 : ¬ nI (wl q) ≤ nI i := by
      rw [nI_leI (by omega) (by omega)]
      omega
    have hc := fun st => char_ok (st := st) hq (show i < wl q by omega)
    rw [fk_lp4_s, fk_lp1_s, B4_readItem_19, B8_word_2, len_ok (by omega), len_ok (by omega), fk_bind_some, fk_bind_some, if_neg q1, if_neg q1, (hc c).1, (hc m).1, fk_bind_some, fk_bind_some]
    rcases expect2 hx h (hc c).2 with ⟨e1, e2, e3, e4⟩ | ⟨e1, e2, e3⟩
    · rw [e1, e2, fk_bind_some, fk_bind_some, if_neg (show ¬ (1 : Int32) = 0 by decide), nI_1]
      rcases ih (i + 1) w v (pos + 1) _ _ (by omega) (by omega) (by omega) e4 with ⟨c', m', o1, o2, o3, o4⟩ | o
      · refine Or.inl ⟨c', m', o1, o2, ?_, ?_⟩
        · rw [show pos + (d + 1) = pos + 1 + d by omega]
          exact o3
        · rw [o4, gI_nf (by decide)]
      · exact Or.inr o
    · rw [e1, e2, fk_bind_some, fk_bind_some, if_pos rfl, nI_1, word_dead hn hq e3 d (i + 1) w (by omega) (by omega)]
      exact Or.inr ⟨_, m, pos, rfl, rfl, e3, h.2.2.1⟩
/-! numbers -/
def dgt (x : Int32) : Int32 := if x < 48 then -1 else if x ≤ 57 then x - 48 else -1
theorem digit_ok {c0 m0 c : fkS} {s n pos : Nat} (hx : Tx0 c0 m0 s n) (h : RdC c0 c s n pos) : F4_digit c = some (dgt (TX m0 s n pos), c) := by
  unfold F4_digit dgt
  rw [letter_ok hx h, fk_bind_some]
  by_cases q : TX m0 s n pos < 48
  · rw [if_pos q, if_pos q]
  · rw [if_neg q, if_neg q]
    by_cases q2 : TX m0 s n pos ≤ 57
    · rw [if_pos q2, if_pos q2]
    · rw [if_neg q2, if_neg q2]
theorem dgt_cases (x : Int32) : (dgt x = -1 ∧ (x < 48 ∨ (¬ x < 48 ∧ 57 < x))) ∨ ∃ a, a < 10 ∧ x = nI (48 + a) ∧ dgt x = nI a := by
  unfold dgt
  by_cases q : x < 48
  · rw [if_pos q]
    exact Or.inl ⟨rfl, Or.inl q⟩
  · rw [if_neg q]
    by_cases q2 : x ≤ 57
    · rw [if_pos q2]
      refine Or.inr ?_
      have h0 : ¬ x < 0 := by
        rw [Int32.lt_iff_toInt_lt] at q ⊢
        have e0 : (0 : Int32).toInt = 0 := by decide
        have e1 : (48 : Int32).toInt = 48 := by decide
        omega
      obtain ⟨j, hj, rfl⟩ := nI_of h0
      rw [show (48 : Int32) = nI 48 from rfl, nI_ltI hj (by decide)] at q
      rw [show (57 : Int32) = nI 57 from rfl, nI_leI hj (by decide)] at q2
      refine ⟨j - 48, by omega, by rw [show 48 + (j - 48) = j by omega], ?_⟩
      rw [show (48 : Int32) = nI 48 from rfl, pk_sub (by omega)]
    · rw [if_neg q2]
      exact Or.inl ⟨rfl, Or.inr ⟨q, lt_iff_nle.mpr q2⟩⟩
theorem number_dead {c0 m0 c : fkS} {s n f : Nat} {hi : Int32} (hx : Tx0 c0 m0 s n) (h : DdC c0 c s n f) : ∃ x c', F4_readNumber hi c = some (x, c') ∧ DdC c0 c' s n f := by
  have hn := hx.2.1
  have h65 : ∀ (v2 v3 : Int32) (c : fkS), DdC c0 c s n f → B4_readNumber_65 hi v2 v3 c = some (v3, c) := fun v2 v3 c hd => by
    unfold B4_readNumber_65
    by_cases q : v3 ≤ hi
    · rw [if_pos q]
    · rw [if_neg q, fail_dead hn hd, fk_bind_some]
  have stp : ∀ (c : fkS) (pos : Nat), RdC c0 c s n pos → gI c 80 34 = nI f → ¬ dgt (TX m0 s n pos) = -1 → DdC c0 (sI c 81 34 (gI c 81 34 + 1)) s n f ∧ RdC c0 (sI c 81 34 (gI c 81 34 + 1)) s n (pos + 1) := fun c pos hr hf hd => by
    have hlt : pos < n := by
      rcases dgt_cases (TX m0 s n pos) with ⟨z, -⟩ | ⟨a, ha, z, -⟩
      · exact absurd z hd
      · exact TX_lt z (m1_nI (by omega))
    rw [hr.2.1, nI_1]
    have := hr.step (p := pos + 1) (by omega)
    exact ⟨⟨h.1, by rw [gI_nf (by decide)]; exact hf, pos + 1, this⟩, this⟩
  obtain ⟨hf, h8, pos, hr⟩ := id h
  unfold F4_readNumber
  rw [fk_let_e, digit_ok hx hr, fk_bind_some]
  by_cases q : dgt (TX m0 s n pos) = -1
  · rw [if_pos q, fk_let_e, fail_dead hn h, fk_bind_some]
    exact ⟨0, c, rfl, h⟩
  · obtain ⟨d1, d2⟩ := stp c pos hr h8 q
    rw [if_neg q, fk_let_e, fk_let_e, digit_ok hx d2, fk_bind_some]
    by_cases q2 : dgt (TX m0 s n (pos + 1)) = -1
    · rw [if_pos q2, h65 _ _ _ d1]
      exact ⟨_, _, rfl, d1⟩
    · obtain ⟨d3, d4⟩ := stp _ (pos + 1) d2 d1.2.1 q2
      rw [if_neg q2, fk_let_e, fk_let_e, h65 _ _ _ d3]
      exact ⟨_, _, rfl, d3⟩
theorem num77 {m0 m : fkS} {s pos fr i h v : Nat} (hi : i < 3) (hr : RdM m0 m s pos) (hfr : fr < pos) (hpos : pos ≤ 160) (hh : h < 100) (hv : v < 100) : B8_number_77 (nI i) 0 (nI h) (nI fr) (nI v) m = if v ≤ h then some (1, sA m 9 i (nI v)) else some (0, sI (sA m 9 i (nI v)) 13 0 (nI fr)) := by
  have e : nI h = nI (h + 1) - 1 := by
    rw [zl1, pk_sub (by omega)]
    rfl
  unfold B8_number_77
  rw [fk_let_e, hr.2.1, if_neg (show ¬ nI pos = nI fr by rw [nI_eq (by omega) (by omega)]; omega), fk_chk_in hi (by decide), fk_let_e, nI_clamp (by omega), e]
  by_cases q : v ≤ h
  · rw [within_in (by omega) (rg_nI (by omega)), fk_bind_some, if_neg (show ¬ (1 : Int32) = 0 by decide), fk_chk_t bool1, if_pos q]
  · have : ¬ rg (nI v) (h + 1) := by
      rintro ⟨a, ha, z⟩
      rw [nI_eq (by omega) (by omega)] at z
      omega
    rw [within_out (by omega) this, fk_bind_some, if_pos rfl, fk_let_e, fk_chk_t bool0, if_neg q]
