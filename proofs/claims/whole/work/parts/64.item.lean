/-! bakery: numbers, items -/
theorem num20_stop {m0 m : fkS} {s n pos fr i h v w : Nat} (hn : n ≤ 160) (hS : F8_sign m = some (TX m0 s n pos, m)) (hr : RdM m0 m s pos) (hp : pos ≤ n) (hfr : fr ≤ pos) (hc : 2 ≤ pos - fr ∨ dgt (TX m0 s n pos) = -1) :
    fk_lp5 B8_number_20 (w + 1) (nI i) 0 (nI h) (nI fr) (nI v) m = B8_number_77 (nI i) 0 (nI h) (nI fr) (nI v) m := by
  rw [fk_lp5_s, B8_number_20, fk_let_e, hr.2.1, pk_sub (by omega)]
  by_cases q : 2 ≤ pos - fr
  · rw [if_pos (show (2 : Int32) ≤ nI (pos - fr) by rw [zl2, nI_leI (by decide) (by omega)]; exact q)]
  · rw [if_neg (show ¬ (2 : Int32) ≤ nI (pos - fr) by rw [zl2, nI_leI (by decide) (by omega)]; exact q), hS, fk_bind_some]
    have hd := hc.resolve_left q
    rcases dgt_cases (TX m0 s n pos) with ⟨-, z | ⟨z, z2⟩⟩ | ⟨a, ha, z, z2⟩
    · rw [if_pos z]
    · rw [if_neg z, hS, fk_bind_some, if_pos z2]
    · rw [z2] at hd
      exact absurd hd (m1_nI (by omega))
theorem num20_go {m0 m : fkS} {s n pos fr i h v w a : Nat} (hn : n ≤ 160) (hS : F8_sign m = some (TX m0 s n pos, m)) (hr : RdM m0 m s pos) (hp : pos ≤ n) (hfr : fr ≤ pos) (hq : pos - fr < 2) (ha : a < 10) (hv : v < 100) (hx : TX m0 s n pos = nI (48 + a)) :
    fk_lp5 B8_number_20 (w + 1) (nI i) 0 (nI h) (nI fr) (nI v) m = fk_lp5 B8_number_20 w (nI i) 0 (nI h) (nI fr) (nI (10 * v + a)) (sI m 13 0 (nI (pos + 1))) := by
  rw [fk_lp5_s, B8_number_20, fk_let_e, hr.2.1, pk_sub (by omega), if_neg (show ¬ (2 : Int32) ≤ nI (pos - fr) by rw [zl2, nI_leI (by decide) (by omega)]; omega), hS, fk_bind_some, hx, if_neg (show ¬ nI (48 + a) < 48 by rw [show (48 : Int32) = nI 48 from rfl, nI_ltI (by omega) (by decide)]; omega), hS, fk_bind_some, hx, if_neg (show ¬ (57 : Int32) < nI (48 + a) by rw [show (57 : Int32) = nI 57 from rfl, nI_ltI (by decide) (by omega)]; omega), hS, fk_bind_some, hx, fk_let_e, fk_let_e, hr.2.1, nI_1, zl10, pk_mul, nI_add, show (48 : Int32) = nI 48 from rfl, pk_sub (by omega), show 10 * v + (48 + a) - 48 = 10 * v + a by omega]
theorem num_fin {c0 m0 c m : fkS} {s n p fr i h v : Nat} (hn : n ≤ 160) (hL : Lv c0 m0 s n p c m) (hfr : fr < p) (hi : i < 3) (hh : h < 100) (hv : v < 100) :
    ∃ c2, B4_readNumber_65 (nI h) (nI fr) (nI v) c = some (nI v, c2) ∧ ((v ≤ h ∧ B8_number_77 (nI i) 0 (nI h) (nI fr) (nI v) m = some (1, sA m 9 i (nI v)) ∧ Lv c0 m0 s n p c2 (sA m 9 i (nI v)) ∧ gA c2 35 = gA c 35) ∨
      (∃ m', B8_number_77 (nI i) 0 (nI h) (nI fr) (nI v) m = some (0, m') ∧ DdC c0 c2 s n fr ∧ RdM m0 m' s fr)) := by
  have hp := hL.1.2.2.1
  rw [num77 hi hL.2.2.1 hfr (by omega) hh hv]
  unfold B4_readNumber_65
  by_cases q : v ≤ h
  · rw [if_pos ((nI_leI (by omega) (by omega)).mpr q), if_pos q]
    refine ⟨c, rfl, Or.inl ⟨q, rfl, ⟨hL.1, hL.2.1, hL.2.2.1.num, hL.2.2.2.c rfl (fun _ => rfl) (fun _ _ => rfl) (fun _ _ => rfl) (fun i z => ?_)⟩, rfl⟩⟩
    rw [gA_sA, if_neg z]
  · rw [if_neg (fun z => q ((nI_leI (by omega) (by omega)).mp z)), if_neg q, fail_live hL.2.1, fk_bind_some]
    exact ⟨_, rfl, Or.inr ⟨_, rfl, hL.die (by omega), hL.2.2.1.num.step⟩⟩
theorem number2 {c0 m0 c m : fkS} {s n pos i h : Nat} (hx : Tx0 c0 m0 s n) (hL : Lv c0 m0 s n pos c m) (hi : i < 3) (hh : h < 100) :
    ∃ c1 x c2, F4_expect 32 c = some ((), c1) ∧ F4_readNumber (nI h) c1 = some (x, c2) ∧
      ((∃ v m' pos', x = nI v ∧ v ≤ h ∧ F8_number (nI i) 0 (nI h) m = some (1, m') ∧ Lv c0 m0 s n pos' c2 m' ∧ pos < pos' ∧ gA c2 35 = gA c 35 ∧ gA m' 9 = upd (gA m 9) i (nI v) ∧ gI m' 0 0 = gI m 0 0) ∨
       (∃ m' f, F8_number (nI i) 0 (nI h) m = some (0, m') ∧ DdC c0 c2 s n f ∧ RdM m0 m' s f)) := by
  have hn := hx.2.1
  rcases expect2 hx hL (show ¬ (32 : Int32) = -1 by decide) with ⟨e1, e2, e3, e4⟩ | ⟨e1, e2, e3⟩
  rotate_left
  · obtain ⟨x, c2, z1, z2⟩ := number_dead (hi := nI h) hx e3
    refine ⟨_, x, c2, e1, z1, Or.inr ⟨m, pos, ?_, z2, hL.2.2.1⟩⟩
    unfold F8_number
    rw [e2, fk_bind_some, if_pos rfl]
  · have hg : gI (sI m 13 0 (nI (pos + 1))) 13 0 = nI (pos + 1) := gI_same
    have hNum : F8_number (nI i) 0 (nI h) m = fk_lp5 B8_number_20 fk_fuel (nI i) 0 (nI h) (nI (pos + 1)) (nI 0) (sI m 13 0 (nI (pos + 1))) := by
      unfold F8_number
      rw [e2, fk_bind_some, if_neg (show ¬ (1 : Int32) = 0 by decide), fk_let_e, hg]
      rfl
    generalize hc1 : sI c 81 34 (nI (pos + 1)) = c1 at e1 e4
    generalize hm1 : sI m 13 0 (nI (pos + 1)) = m1 at e2 e4 hg hNum
    have h35 : gA c1 35 = gA c 35 := by rw [← hc1]; rfl
    have h9 : gA m1 9 = gA m 9 := by rw [← hm1]; rfl
    have h00 : gI m1 0 0 = gI m 0 0 := by rw [← hm1, gI_nf (by decide)]
    have hS := rsign_ok hx e4.2.2.1 (by omega)
    have hrd : F4_readNumber (nI h) c1 = (if dgt (TX m0 s n (pos + 1)) = -1 then fk_bind (F4_fail (nI (pos + 1)) c1) (fun _ st5 => some ((0 : Int32), st5)) else fk_bind (F4_digit (sI c1 81 34 (nI (pos + 2)))) fun x8 st9 => if x8 = -1 then B4_readNumber_65 (nI h) (nI (pos + 1)) (dgt (TX m0 s n (pos + 1))) st9 else fk_let (gI st9 81 34) fun x10 => fk_let (sI st9 81 34 (x10 + 1)) fun st11 => B4_readNumber_65 (nI h) (nI (pos + 1)) ((10 * dgt (TX m0 s n (pos + 1))) + x8) st11) := by
      unfold F4_readNumber
      rw [fk_let_e, digit_ok hx e4.1, fk_bind_some, fk_let_e, fk_let_e, fk_let_e, e4.1.2.1, nI_1]
    obtain ⟨w, hw⟩ : ∃ w, fk_fuel = w + 3 := ⟨1197, rfl⟩
    rw [hw] at hNum
    rcases dgt_cases (TX m0 s n (pos + 1)) with ⟨ed, -⟩ | ⟨a, ha, ex, ed⟩
    · rw [ed, if_pos rfl, fail_live e4.2.1, fk_bind_some] at hrd
      rw [num20_stop hn hS e4.2.2.1 (by omega) (by omega) (Or.inr ed)] at hNum
      refine ⟨c1, _, _, e1, hrd, Or.inr ⟨m1, pos + 1, ?_, e4.die (by omega), e4.2.2.1⟩⟩
      rw [hNum]
      unfold B8_number_77
      rw [fk_let_e, hg, if_pos rfl]
    · have hlt : pos + 1 < n := TX_lt ex (m1_nI (by omega))
      have hL2 := e4.step (p := pos + 2) (by omega)
      rw [if_neg (by rw [ed]; exact m1_nI (by omega)), digit_ok hx hL2.1, fk_bind_some, ed] at hrd
      rw [num20_go hn hS e4.2.2.1 (by omega) (by omega) (by omega) ha (by decide) ex, show 10 * 0 + a = a by omega] at hNum
      have hS2 := rsign_ok hx hL2.2.2.1 (by omega)
      rcases dgt_cases (TX m0 s n (pos + 2)) with ⟨ed2, -⟩ | ⟨b, hb, ex2, ed2⟩
      · obtain ⟨c2, o1, o2⟩ := num_fin (fr := pos + 1) (i := i) (h := h) (v := a) hn hL2 (by omega) hi hh (by omega)
        rw [ed2, if_pos rfl, o1] at hrd
        rw [num20_stop hn hS2 hL2.2.2.1 (by omega) (by omega) (Or.inr ed2)] at hNum
        refine ⟨c1, _, c2, e1, hrd, ?_⟩
        rcases o2 with ⟨p1, p2, p3, p4⟩ | ⟨m', p2, p3, p4⟩
        · refine Or.inl ⟨a, _, pos + 2, rfl, p1, hNum.trans p2, p3, by omega, p4.trans h35, ?_, ?_⟩
          · rw [gA_sA, if_pos rfl, gA_sI, h9]
          · rw [gI_sA, gI_nf (by decide), h00]
        · exact Or.inr ⟨m', pos + 1, hNum.trans p2, p3, p4⟩
      · have hlt2 : pos + 2 < n := TX_lt ex2 (m1_nI (by omega))
        have hL3 := hL2.step (p := pos + 3) (by omega)
        have hS3 := rsign_ok hx hL3.2.2.1 (by omega)
        obtain ⟨c2, o1, o2⟩ := num_fin (fr := pos + 1) (i := i) (h := h) (v := 10 * a + b) hn hL3 (by omega) hi hh (by omega)
        rw [ed2, if_neg (m1_nI (by omega)), fk_let_e, fk_let_e, hL2.1.2.1, nI_1, zl10, pk_mul, nI_add, o1] at hrd
        rw [num20_go hn hS2 hL2.2.2.1 (by omega) (by omega) (by omega) hb (by omega) ex2, num20_stop hn hS3 hL3.2.2.1 (by omega) (by omega) (Or.inl (by omega))] at hNum
        refine ⟨c1, _, c2, e1, hrd, ?_⟩
        rcases o2 with ⟨p1, p2, p3, p4⟩ | ⟨m', p2, p3, p4⟩
        · refine Or.inl ⟨10 * a + b, _, pos + 3, rfl, p1, hNum.trans p2, p3, by omega, p4.trans h35, ?_, ?_⟩
          · rw [gA_sA, if_pos rfl, gA_sI, gA_sI, h9]
          · rw [gI_sA, gI_nf (by decide), gI_nf (by decide), h00]
        · exact Or.inr ⟨m', pos + 1, hNum.trans p2, p3, p4⟩
theorem DdC.num {c0 c : fkS} {s n f i : Nat} {v : Int32} (h : DdC c0 c s n f) : DdC c0 (sA c 35 i v) s n f := by
  obtain ⟨h1, h2, pos, h3⟩ := h
  exact ⟨h1, h2, pos, h3.num⟩
theorem behind_ok (v3 : Int32) : ∃ N, N ≤ 3 ∧ ∀ st, F4_numbersBehind v3 st = some (nI N, st) := by
  unfold F4_numbersBehind
  by_cases q : v3 = 98
  · exact ⟨3, by decide, fun st => by rw [if_pos q]; rfl⟩
  · by_cases q2 : v3 = 103
    · exact ⟨3, by decide, fun st => by rw [if_neg q, if_pos q2]; rfl⟩
    · exact ⟨1, by decide, fun st => by rw [if_neg q, if_neg q2]; rfl⟩
theorem most_ok (v3 i : Int32) (st : fkS) : ∃ x, F4_most v3 i st = some (x, st) := by
  unfold F4_most
  repeat' split
  all_goals exact ⟨_, rfl⟩
theorem dead85 {c0 m0 : fkS} {s n f N : Nat} {v3 : Int32} (hx : Tx0 c0 m0 s n) (hN : N ≤ 3) (hNb : ∀ st, F4_numbersBehind v3 st = some (nI N, st)) : ∀ (d i fu : Nat) (c : fkS), i + d = N → d < fu → DdC c0 c s n f → ∃ c', fk_lp2 (B4_readItem_85 20) fu v3 (nI i) c = some ((), c') ∧ DdC c0 c' s n f := by
  have hn := hx.2.1
  intro d
  induction d with
  | zero =>
    intro i fu c hi hf h
    obtain ⟨w, rfl⟩ : ∃ w, fu = w + 1 := ⟨fu - 1, by omega⟩
    obtain rfl : i = N := by omega
    have hf2 := h.1
    rw [fk_lp2_s, B4_readItem_85, hNb, fk_bind_some, if_pos Int32.le_rfl, B4_readItem_133, fk_let_e, h.2.1, if_neg (m1_nI (by omega))]
    exact ⟨c, rfl, h⟩
  | succ d ih =>
    intro i fu c hi hf h
    obtain ⟨w, rfl⟩ : ∃ w, fu = w + 1 := ⟨fu - 1, by omega⟩
    have q1 : ¬ nI N ≤ nI i := by
      rw [nI_leI (by omega) (by omega)]
      omega
    have q3 : ¬ (3 : Int32) ≤ nI i := by
      rw [zl3, nI_leI (by omega) (by omega)]
      omega
    obtain ⟨hh, z1⟩ := most_ok v3 (nI i) c
    obtain ⟨x, c2, z2, z3⟩ := number_dead (hi := hh) hx h
    rw [fk_lp2_s, B4_readItem_85, hNb, fk_bind_some, if_neg q1, if_neg q3, expect_dead hn h, fk_bind_some, z1, fk_bind_some, z2, fk_bind_some, fk_chk_in (by omega) (by decide), fk_let_e, nI_1]
    exact ih (i + 1) w _ (by omega) (by omega) z3.num
theorem dead82 {c0 m0 c : fkS} {s n f : Nat} {v3 : Int32} (hx : Tx0 c0 m0 s n) (h : DdC c0 c s n f) : ∃ c', B4_readItem_82 20 v3 c = some ((), c') ∧ DdC c0 c' s n f := by
  obtain ⟨N, hN, hNb⟩ := behind_ok v3
  exact dead85 hx hN hNb N 0 fk_fuel c (by omega) (by unfold fk_fuel; omega) h
theorem dead62 {c0 m0 c : fkS} {s n f : Nat} {v2 v3 : Int32} (hx : Tx0 c0 m0 s n) (h : DdC c0 c s n f) : ∃ c', B4_readItem_62 20 v2 v3 c = some ((), c') ∧ DdC c0 c' s n f := by
  obtain ⟨c', o1, o2⟩ := dead82 (v3 := v3) hx h
  refine ⟨c', ?_, o2⟩
  unfold B4_readItem_62
  by_cases q : v3 = 98
  · rw [if_pos q, fk_let_e]
    by_cases q2 : gI c 0 20 < 7
    · rw [if_pos q2, o1]
    · rw [if_neg q2, fail_dead hx.2.1 h, fk_bind_some, o1]
  · rw [if_neg q, o1]
def wq (x : Int32) : Nat := if x = 98 then 0 else if x = 103 then 3 else if x = 104 then 1 else if x = 105 then 4 else if x = 115 then 2 else if x = 119 then 5 else 6
theorem begins_ok {x : Int32} {st : fkS} : F4_wordThatBeginsWith x st = some (wq x, st) := by
  unfold F4_wordThatBeginsWith wq
  repeat' split
  all_goals rfl
theorem wq_lt (x : Int32) : wq x < 7 := by
  unfold wq
  repeat' split
  all_goals decide
theorem item_dead {c0 m0 c : fkS} {s n f : Nat} (hx : Tx0 c0 m0 s n) (h : DdC c0 c s n f) : ∃ c', F4_readItem 20 c = some ((), c') ∧ DdC c0 c' s n f := by
  obtain ⟨hf, h8, pos, hr⟩ := id h
  unfold F4_readItem
  rw [fk_let_e, letter_ok hx hr, fk_bind_some, begins_ok, fk_bind_some, fk_chk_t (decide_eq_true (wq_lt _))]
  by_cases q : wq (TX m0 s n pos) < 6
  · rw [zl0, word_dead hx.2.1 q h (wl (wq (TX m0 s n pos))) 0 fk_fuel (by omega) (by
      have h5 : ∀ q, q < 6 → wl q ≤ 5 := by decide
      have := h5 _ q
      unfold fk_fuel
      omega)]
    exact dead62 hx h
  · have e : wq (TX m0 s n pos) = 6 := by
      have := wq_lt (TX m0 s n pos)
      omega
    obtain ⟨w, hw⟩ : ∃ w, fk_fuel = w + 1 := ⟨1199, rfl⟩
    have e6 : FS_empty 6 c = some (1, c) := rfl
    have l6 : wl 6 = 0 := rfl
    rw [e, hw, fk_lp4_s, B4_readItem_19, len_ok (by decide), fk_bind_some, l6, if_pos (show nI 0 ≤ 0 by decide), e6, fk_bind_some, if_neg (show ¬ (1 : Int32) = 0 by decide), fk_let_e, fail_dead hx.2.1 h, fk_bind_some]
    exact dead62 hx h
/-- the reference's numbers, one behind the other -/
def nums (H : Nat → Nat) : Nat → Nat → (fkS → Option (Int32 × fkS)) → fkS → Option (Int32 × fkS)
  | 0, _, K, st => K st
  | d + 1, i, K, st => fk_bind (F8_number (nI i) 0 (nI (H i)) st) fun x st1 => if x = 0 then some (0, st1) else nums H d (i + 1) K st1
theorem nums_s (H : Nat → Nat) (d i : Nat) (K : fkS → Option (Int32 × fkS)) (st : fkS) : nums H (d + 1) i K st = fk_bind (F8_number (nI i) 0 (nI (H i)) st) fun x st1 => if x = 0 then some (0, st1) else nums H d (i + 1) K st1 := rfl
def Vals (N : Nat) (H V : Nat → Nat) (c m : fkS) : Prop := ∀ k, k < N → gA c 35 k = nI (V k) ∧ gA m 9 k = nI (V k) ∧ V k ≤ H k
theorem live85 {c0 m0 : fkS} {s n N : Nat} {v3 : Int32} {H : Nat → Nat} {K : fkS → Option (Int32 × fkS)} (hx : Tx0 c0 m0 s n) (hN : N ≤ 3) (hNb : ∀ st, F4_numbersBehind v3 st = some (nI N, st)) (hH : ∀ i, i < N → H i < 100 ∧ ∀ st, F4_most v3 (nI i) st = some (nI (H i), st)) :
    ∀ (d i fu pos : Nat) (V : Nat → Nat) (c m : fkS), i + d = N → d < fu → Lv c0 m0 s n pos c m → Vals i H V c m →
    (∃ c' m' pos' V', fk_lp2 (B4_readItem_85 20) fu v3 (nI i) c = fk_bind (F4_tell 20 v3 c') (fun _ st => some ((), st)) ∧ nums H d i K m = K m' ∧ Lv c0 m0 s n pos' c' m' ∧ pos ≤ pos' ∧ Vals N H V' c' m' ∧ gI m' 0 0 = gI m 0 0) ∨
    (∃ c' m' f, fk_lp2 (B4_readItem_85 20) fu v3 (nI i) c = some ((), c') ∧ nums H d i K m = some (0, m') ∧ DdC c0 c' s n f ∧ RdM m0 m' s f) := by
  have hn := hx.2.1
  intro d
  induction d with
  | zero =>
    intro i fu pos V c m hi hf hL hV
    obtain ⟨w, rfl⟩ : ∃ w, fu = w + 1 := ⟨fu - 1, by omega⟩
    obtain rfl : i = N := by omega
    refine Or.inl ⟨c, m, pos, V, ?_, rfl, hL, Nat.le_refl _, hV, rfl⟩
    rw [fk_lp2_s, B4_readItem_85, hNb, fk_bind_some, if_pos Int32.le_rfl, B4_readItem_133, fk_let_e, hL.2.1, if_pos rfl]
  | succ d ih =>
    intro i fu pos V c m hi hf hL hV
    obtain ⟨w, rfl⟩ : ∃ w, fu = w + 1 := ⟨fu - 1, by omega⟩
    have q1 : ¬ nI N ≤ nI i := by
      rw [nI_leI (by omega) (by omega)]
      omega
    have q3 : ¬ (3 : Int32) ≤ nI i := by
      rw [zl3, nI_leI (by omega) (by omega)]
      omega
    obtain ⟨hh, hm⟩ := hH i (by omega)
    obtain ⟨c1, x, c2, e1, e2, e3⟩ := number2 hx hL (show i < 3 by omega) hh
    rw [fk_lp2_s, B4_readItem_85, hNb, fk_bind_some, if_neg q1, if_neg q3, e1, fk_bind_some, hm, fk_bind_some, e2, fk_bind_some, fk_chk_in (by omega) (by decide), fk_let_e, nI_clamp (by omega), nI_1, nums_s]
    rcases e3 with ⟨v, m', pos', rfl, p2, p3, p4, p5, p6, p7, p8⟩ | ⟨m', f, p3, p4, p5⟩
    · rw [p3, fk_bind_some, if_neg (show ¬ (1 : Int32) = 0 by decide)]
      have hL2 : Lv c0 m0 s n pos' (sA c2 35 i (nI v)) m' := ⟨p4.1.num, p4.2.1, p4.2.2.1, p4.2.2.2.c rfl (fun _ => rfl) (fun j z => by rw [gA_sA, if_neg z]) (fun _ _ => rfl) (fun _ _ => rfl)⟩
      have hV2 : Vals (i + 1) H (fun k => if k = i then v else V k) (sA c2 35 i (nI v)) m' := by
        intro k hk
        rw [gA_sA, if_pos rfl, p6, p7]
        by_cases z : k = i
        · rw [z, upd_same, upd_same]
          have e : (fun k => if k = i then v else V k) i = v := if_pos rfl
          rw [e]
          exact ⟨rfl, rfl, p2⟩
        · rw [upd_ne z, upd_ne z]
          show gA c 35 k = nI (if k = i then v else V k) ∧ gA m 9 k = nI (if k = i then v else V k) ∧ (if k = i then v else V k) ≤ _
          rw [if_neg z]
          exact hV k (by omega)
      rcases ih (i + 1) w pos' _ _ m' (by omega) (by omega) hL2 hV2 with ⟨c3, m3, pos3, V3, o1, o2, o3, o4, o5, o6⟩ | o
      · exact Or.inl ⟨c3, m3, pos3, V3, o1, o2, o3, by omega, o5, o6.trans p8⟩
      · exact Or.inr o
    · obtain ⟨c3, o1, o2⟩ := dead85 hx hN hNb d (i + 1) w (sA c2 35 i x) (by omega) (by omega) p4.num
      rw [p3, fk_bind_some, if_pos rfl]
      exact Or.inr ⟨c3, m', f, o1, rfl, o2, p5⟩
