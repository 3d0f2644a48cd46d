/-! THE CALLS, one by one: the simple ones -/
theorem RelN.state {c m : fkS} {nb : Nat} {v : Int32} (h : RelN c m nb) (hv : rg v 8) : RelN (sI c 6 19 v) (sA m 4 1 v) nb := by
  obtain ⟨ha, ⟨b1, b2, b3, b4⟩, hd, hs, hm, hi⟩ := h
  exact ⟨ha, ⟨b1, b2, ⟨rfl, hv⟩, b4⟩, hd, hs, hm, hi⟩
theorem RelN.heat {c m : fkS} {nb : Nat} {v : Int32} (h : RelN c m nb) (hv : rg v 10) : RelN (sI c 5 19 v) (sA m 4 0 v) nb := by
  obtain ⟨ha, ⟨b1, b2, b3, b4⟩, hd, hs, hm, hi⟩ := h
  exact ⟨ha, ⟨b1, ⟨rfl, hv⟩, b3, b4⟩, hd, hs, hm, hi⟩
theorem RelN.trou {c m : fkS} {nb : Nat} {v : Int32} (h : RelN c m nb) : RelN (sI c 7 19 v) (sA m 4 2 v) nb := by
  obtain ⟨ha, ⟨b1, b2, b3, b4⟩, hd, hs, hm, hi⟩ := h
  exact ⟨ha, ⟨b1, b2, b3, rfl⟩, hd, hs, hm, hi⟩
theorem RelN.seed {c m : fkS} {nb : Nat} {v : Int32} (h : RelN c m nb) : RelN (sI c 10 19 v) (sI m 8 0 v) nb := by
  obtain ⟨ha, hb, ⟨d1, d2, d3⟩, hs, hm, hi⟩ := h
  exact ⟨ha, hb, ⟨d1, d2, rfl⟩, hs, hm, hi⟩
theorem RelN.bakes {c m : fkS} {nb : Nat} {v : Int32} (h : RelN c m nb) : RelN (sI c 8 19 v) (sI m 6 0 v) nb := by
  obtain ⟨ha, hb, ⟨d1, d2, d3⟩, hs, hm, hi⟩ := h
  exact ⟨ha, hb, ⟨rfl, d2, d3⟩, hs, hm, hi⟩
theorem RelN.suff {c m : fkS} {nb : Nat} {v : Int32} (h : RelN c m nb) : RelN (sI c 9 19 v) (sI m 7 0 v) nb := by
  obtain ⟨ha, hb, ⟨d1, d2, d3⟩, hs, hm, hi⟩ := h
  exact ⟨ha, hb, ⟨d1, rfl, d3⟩, hs, hm, hi⟩
theorem RelN.fault {c m : fkS} {nb : Nat} {v : Int32} (h : RelN c m nb) : RelN (sI c 80 34 v) (sI m 15 0 v) nb := by
  obtain ⟨ha, hb, hd, hs, ⟨e1, e2, e3, e4⟩, hi⟩ := h
  exact ⟨ha, hb, hd, hs, ⟨rfl, e2, e3, e4⟩, hi⟩
theorem RelN.tab {c m : fkS} {nb k : Nat} {v : Int32} (h : RelN c m nb) (hv : rg v 8) : RelN (sA c 31 k v) (sA m 5 k v) nb := by
  obtain ⟨ha, ⟨b1, b2, b3, b4⟩, hd, hs, hm, hi⟩ := h
  refine ⟨ha, ⟨fun j hj => ?_, b2, b3, b4⟩, hd, hs, hm, hi⟩
  rw [gA_sA, if_pos rfl, gA_sA, if_pos rfl]
  by_cases q : j = k
  · rw [q, upd_same, upd_same]
    exact ⟨rfl, hv⟩
  · rw [upd_ne q, upd_ne q]
    exact b1 j hj
theorem kCI_ns {f i s : Nat} (h : kCI f i = true) (hs : s < 8) (n : ¬ (3 ≤ i ∧ i ≤ 10)) : i ≠ 3 + s := by omega
/-- a shelf has changed -/
theorem RelN.shelf {c m c' m' : fkS} {nb s : Nat} (h : RelN c m nb) (hs : s < 8) (c1 : ∀ f i, kCI f i = true → i ≠ 3 + s → gI c' f i = gI c f i) (c2 : ∀ i, kCA i = true → gA c' i = gA c i) (c3 : ∀ i, i ≠ 3 + s + 8 → gL c' i = gL c i)
    (m1 : ∀ f i, kMI f = true → gI m' f i = gI m f i) (m2 : ∀ i, kMA i = true → i ≠ 6 → i ≠ 7 → gA m' i = gA m i) (m6 : ∀ p, p ≠ s → gA m' 6 p = gA m 6 p) (m7 : ∀ p, p ≠ s → gA m' 7 p = gA m 7 p) (m3 : ∀ j, (j < 160 * s ∨ 160 * s + 160 ≤ j) → gL m' 8 j = gL m 8 j)
    (hn : isE c' m' s ∨ isB c' m' nb s ∨ isR c' m' s) : RelN c' m' nb := by
  obtain ⟨⟨a1, a2, a3, a4, a5, a6⟩, ⟨b1, b2, b3, b4⟩, ⟨d1, d2, d3⟩, hsh, ⟨e1, e2, e3, e4⟩, ⟨f1, f2⟩⟩ := h
  refine ⟨⟨a1, ?_, ?_, ?_, ?_, ?_⟩, ⟨?_, ?_, ?_, ?_⟩, ⟨?_, ?_, ?_⟩, ?_, ⟨?_, ?_, ?_, ?_⟩, ⟨?_, ?_⟩⟩
  · rw [c1 0 19 rfl (by omega)]; exact a2
  · rw [m1 0 0 rfl]; exact a3
  · rw [c2 22 rfl, m2 1 rfl (by decide) (by decide)]; exact a4
  · rw [c2 25 rfl, m2 2 rfl (by decide) (by decide)]; exact a5
  · rw [c2 28 rfl, m2 3 rfl (by decide) (by decide)]; exact a6
  · rw [c2 31 rfl, m2 5 rfl (by decide) (by decide)]; exact b1
  · rw [c1 5 19 rfl (by omega), m2 4 rfl (by decide) (by decide)]; exact b2
  · rw [c1 6 19 rfl (by omega), m2 4 rfl (by decide) (by decide)]; exact b3
  · rw [c1 7 19 rfl (by omega), m2 4 rfl (by decide) (by decide)]; exact b4
  · rw [c1 8 19 rfl (by omega), m1 6 0 rfl]; exact d1
  · rw [c1 9 19 rfl (by omega), m1 7 0 rfl]; exact d2
  · rw [c1 10 19 rfl (by omega), m1 8 0 rfl]; exact d3
  · intro p hp
    by_cases q : p = s
    · subst q
      exact hn
    · have := hsh p hp
      unfold isE isB isR at this ⊢
      rw [c1 100 (3 + p) (kCI_sh hp) (by omega), c1 101 (3 + p) (kCI_sh hp) (by omega), c1 102 (3 + p) (kCI_sh hp) (by omega), c1 103 (3 + p) (kCI_sh hp) (by omega), m6 p q, m7 p q, c3 _ (by omega)]
      rcases this with t | t | ⟨t1, t2, n, t3, t4, t5, t6⟩
      · exact Or.inl t
      · exact Or.inr (Or.inl t)
      · refine Or.inr (Or.inr ⟨t1, t2, n, t3, t4, t5, fun j hj => ?_⟩)
        rw [m3 _ (by omega)]
        exact t6 j hj
  · rw [c1 80 34 rfl (by omega), m1 15 0 rfl]; exact e1
  · rw [c1 21 36 rfl (by omega), m1 17 0 rfl]; exact e2
  · rw [c2 37 rfl, m2 11 rfl (by decide) (by decide)]; exact e3
  · rw [c2 1 rfl, m2 12 rfl (by decide) (by decide)]; exact e4
  · rw [c1 144 0 rfl (by omega), m1 20 0 rfl]; exact f1
  · rw [c1 144 0 rfl (by omega)]
    unfold Kp at f2 ⊢
    rw [c1 0 21 rfl (by omega), c2 24 rfl, c2 27 rfl, c2 30 rfl, c2 33 rfl, c1 5 21 rfl (by omega), c1 6 21 rfl (by omega), c1 7 21 rfl (by omega), c1 8 21 rfl (by omega), c1 9 21 rfl (by omega), c1 10 21 rfl (by omega), m2 13 rfl (by decide) (by decide), m1 36 0 rfl]
    exact f2
/-! fault, seed, trace, status -/
theorem op_fault {c m : fkS} (h : Rel c m) : Op2 (F7_fault c) (F8_fault m) := by
  have h0 := h
  obtain ⟨nb, -, -, -, -, ⟨e1, -⟩, -⟩ := h
  unfold F7_fault F8_fault
  rw [fk_let_e, fk_let_e, e1]
  exact Op2.mk h0
theorem op_seed {c m : fkS} (h : Rel c m) (v : Int32) : Op2 (F7_seed v c) (F8_seed v m) := by
  obtain ⟨nb, h⟩ := h
  have e := h.2.2.1.2.2
  unfold F7_seed F8_seed
  rw [fk_let_e, fk_let_e, fk_let_e, fk_let_e, e]
  exact Op2.mk ⟨nb, h.seed⟩
theorem op_trace {c m : fkS} (h : Rel c m) (x : Int32) : Op2 (F7_trace x c) (F8_trace x m) := by
  have h0 := h
  obtain ⟨nb, -, -, -, -, ⟨-, ⟨r, r1, r2, r3⟩, e3, -⟩, -⟩ := h
  unfold F7_trace F8_trace F1_traced
  by_cases q : x < 0
  · rw [if_pos q, if_pos q]
    exact Op2.mk h0
  · obtain ⟨j, hj, rfl⟩ := nI_of q
    rw [if_neg q, if_neg q, fk_let_e, fk_let_e, fk_bind_some, r2, r3, zl20, fk_min_nI (by omega) (by omega)]
    by_cases q1 : j < min r 20
    · rw [if_pos ((nI_ltI (by omega) (by omega)).mpr q1), if_neg (by rw [nI_leI (by omega) (by omega)]; omega), if_neg (by rw [nI_leI (by omega) (by omega)]; omega), fk_chk_in (by omega) (by decide), fk_chk_in (by omega) (by decide), fk_let_e, fk_let_e, nI_clamp (by omega), e3 j (by omega)]
      exact Op2.mk h0
    · rw [if_neg (by rw [nI_ltI (by omega) (by omega)]; exact q1)]
      by_cases q2 : r ≤ j
      · rw [if_pos ((nI_leI (by omega) (by omega)).mpr q2)]
        exact Op2.mk h0
      · rw [if_neg (by rw [nI_leI (by omega) (by omega)]; exact q2), if_pos ((nI_leI (by omega) (by omega)).mpr (by omega))]
        exact Op2.mk h0
theorem op_status {c m : fkS} (h : Rel c m) (x : Int32) : Op2 (F7_status x c) (F8_status x m) := by
  have h0 := h
  obtain ⟨nb, ⟨-, a2, a3, -⟩, ⟨-, b2, b3, b4⟩, ⟨d1, d2, d3⟩, -, ⟨-, ⟨r, r1, r2, r3⟩, -, e4⟩, -⟩ := h
  unfold F7_status F8_status
  by_cases q0 : x = (0 : Int32)
  · rw [if_pos q0, if_pos q0, fk_let_e, fk_let_e, a2, a3]
    exact Op2.mk h0
  rw [if_neg q0, if_neg q0]
  by_cases q1 : x = (1 : Int32)
  · rw [if_pos q1, if_pos q1, fk_let_e, q1, fk_chk_t (by decide), fk_let_e, b2.1]
    exact Op2.mk h0
  rw [if_neg q1, if_neg q1]
  by_cases q2 : x = (2 : Int32)
  · rw [if_pos q2, if_pos q2, fk_let_e, q2, fk_chk_t (by decide), fk_let_e, b3.1]
    exact Op2.mk h0
  rw [if_neg q2, if_neg q2]
  by_cases q3 : x = (3 : Int32)
  · rw [if_pos q3, if_pos q3, fk_let_e, q3, fk_chk_t (by decide), fk_let_e, b4]
    exact Op2.mk h0
  rw [if_neg q3, if_neg q3]
  by_cases q4 : x = (4 : Int32)
  · rw [if_pos q4, if_pos q4, fk_let_e, fk_let_e, d1]
    exact Op2.mk h0
  rw [if_neg q4, if_neg q4]
  by_cases q5 : x = (5 : Int32)
  · rw [if_pos q5, if_pos q5, fk_let_e, fk_let_e, d2]
    exact Op2.mk h0
  rw [if_neg q5, if_neg q5]
  by_cases q6 : x = (6 : Int32)
  · rw [if_pos q6, if_pos q6, fk_let_e, fk_let_e, d3]
    exact Op2.mk h0
  rw [if_neg q6, if_neg q6]
  by_cases q7 : x = (7 : Int32)
  · rw [if_pos q7, if_pos q7, fk_let_e, fk_let_e, r2, r3]
    exact Op2.mk h0
  rw [if_neg q7, if_neg q7]
  by_cases hx : x < 11
  · have hx10 : x ≤ 10 := by
      rw [Int32.le_iff_toInt_le]
      rw [Int32.lt_iff_toInt_lt] at hx
      have e10 : (10 : Int32).toInt = 10 := by decide
      have e11 : (11 : Int32).toInt = 11 := by decide
      omega
    unfold F8_within
    rw [if_pos hx10, if_pos hx, fk_bind_some, if_pos rfl]
    exact Op2.mk h0
  · have hx10 : ¬ x ≤ 10 := by
      rw [Int32.le_iff_toInt_le]
      rw [Int32.lt_iff_toInt_lt] at hx
      have e10 : (10 : Int32).toInt = 10 := by decide
      have e11 : (11 : Int32).toInt = 11 := by decide
      omega
    have hx0 : ¬ x < 0 := by
      rw [Int32.lt_iff_toInt_lt]
      rw [Int32.lt_iff_toInt_lt] at hx
      have e11 : (11 : Int32).toInt = 11 := by decide
      have e0 : (0 : Int32).toInt = 0 := by decide
      omega
    obtain ⟨j, hj, rfl⟩ := nI_of hx0
    have hj10 : 11 ≤ j := by
      rw [show (11 : Int32) = nI 11 from rfl, nI_ltI hj (by decide)] at hx
      omega
    unfold F8_within
    rw [if_neg hx10, if_neg hx, show (17 : Int32) = nI 17 from rfl, zl10, pk_sub (by omega), zl8]
    by_cases hj17 : 17 < j
    · rw [if_pos ((nI_leI (by omega) (by omega)).mpr (by omega)), if_pos ((nI_ltI (by omega) (by omega)).mpr hj17), fk_bind_some, if_pos rfl]
      exact Op2.mk h0
    · rw [if_neg (by rw [nI_leI (by omega) (by omega)]; omega), if_neg (by rw [nI_ltI (by omega) (by omega)]; exact hj17), fk_bind_some, if_neg (by decide), fk_chk_in (by omega) (by decide), fk_chk_in (by omega) (by decide), fk_let_e, fk_let_e, nI_clamp (by omega), e4 _ (by omega)]
      exact Op2.mk h0
/-! ask, table, comes, birdOf, bird -/
theorem rgS {x : Int32} {n : Nat} : ¬ ¬ rg x n → rg x n := Classical.not_not.mp
theorem lt_lit {x : Int32} {n : Nat} (hn : n < 2 ^ 31) (h : rg x n) : x < nI n := by
  obtain ⟨a, ha, rfl⟩ := h
  exact (nI_ltI (by omega) hn).mpr ha
theorem ge_lit {x : Int32} {n : Nat} (hn : n < 2 ^ 31) (h : ¬ rg x n) (h0 : ¬ x < 0) : nI n ≤ x := by
  rcases not_rg hn h with q | q
  · exact absurd q h0
  · exact q
theorem nle_lit {x : Int32} {n : Nat} (hn : n < 2 ^ 31) (h : rg x n) : ¬ nI n ≤ x := by
  obtain ⟨a, ha, rfl⟩ := h
  rw [nI_leI hn (by omega)]
  omega
theorem nneg {x : Int32} {n : Nat} (hn : n < 2 ^ 31) (h : rg x n) : ¬ x < 0 := by
  obtain ⟨a, ha, rfl⟩ := h
  exact nI_pos (by omega)
theorem ref6 {c m : fkS} (h : Rel c m) : Op2 (fk_bind (F7_refuse (-6 : Int32) c) fun a b => some (a, b)) (fk_bind (F8_no (-6 : Int32) m) fun a b => some (a, b)) := by
  rw [bind_id, bind_id]
  exact refuse2 h 6 (by decide) (by decide) (by decide)
theorem ref1 {c m : fkS} (h : Rel c m) : Op2 (fk_bind (F7_refuse (-1 : Int32) c) fun a b => some (a, b)) (fk_bind (F8_no (-1 : Int32) m) fun a b => some (a, b)) := by
  rw [bind_id, bind_id]
  exact refuse2 h 1 (by decide) (by decide) (by decide)
theorem ref4 {c m : fkS} (h : Rel c m) : Op2 (fk_bind (F7_refuse (-4 : Int32) c) fun a b => some (a, b)) (fk_bind (F8_no (-4 : Int32) m) fun a b => some (a, b)) := by
  rw [bind_id, bind_id]
  exact refuse2 h 4 (by decide) (by decide) (by decide)
theorem ref5 {c m : fkS} (h : Rel c m) : Op2 (fk_bind (F7_refuse (-5 : Int32) c) fun a b => some (a, b)) (fk_bind (F8_no (-5 : Int32) m) fun a b => some (a, b)) := by
  rw [bind_id, bind_id]
  exact refuse2 h 5 (by decide) (by decide) (by decide)
theorem ref7 {c m : fkS} (h : Rel c m) : Op2 (fk_bind (F7_refuse (-7 : Int32) c) fun a b => some (a, b)) (fk_bind (F8_no (-7 : Int32) m) fun a b => some (a, b)) := by
  rw [bind_id, bind_id]
  exact refuse2 h 7 (by decide) (by decide) (by decide)
theorem refC {c m : fkS} (h : Rel c m) {code : Int32} (hc : RC code) : Op2 (fk_bind (F7_refuse code c) fun a b => some (a, b)) (fk_bind (F8_no code m) fun a b => some (a, b)) := by
  obtain ⟨-, -, k, h1, h2, h3⟩ := hc.ref
  rw [bind_id, bind_id]
  exact refuse2 h k h1 h2 h3
theorem op_ask {c m : fkS} (h : Rel c m) (x v : Int32) : Op2 (F7_ask x v c) (F8_ask x v m) := by
  have h0 := h
  obtain ⟨nb, h⟩ := h
  have hb := h.2.1
  unfold F7_ask F8_ask B7_ask_33 B7_ask_67 B7_ask_102 B8_ask_33 B8_ask_39
  have k1 : ¬ (1 : Int32) = 0 := by decide
  by_cases q0 : x = 0
  · subst q0
    rw [if_pos (show (0 : Int32) = 0 from rfl), show F8_within 0 0 2 m = some (1, m) by rw [w3]; exact within_in (by decide) ⟨0, by decide, rfl⟩, fk_bind_some, if_neg k1, if_pos (show (0 : Int32) = 0 from rfl), w10]
    by_cases hv : rg v 10
    · rw [if_neg (nneg (by decide) hv), if_neg (by rw [zl10]; exact nle_lit (by decide) hv), fk_let_e, fk_let_e, within_in (by decide) hv, fk_bind_some, if_neg k1, fk_chk_t (by decide), fk_let_e, fk_chk_t (by decide), fk_let_e, hb.2.1.1]
      exact Op2.mk ⟨nb, h.heat hv⟩
    · rw [within_out (by decide) hv, fk_bind_some, if_neg (show ¬ (0 : Int32) = 1 by decide), if_neg (show ¬ (0 : Int32) = 2 by decide)]
      by_cases q : v < 0
      · rw [if_pos q, if_pos rfl]
        exact ref6 h0
      · rw [if_neg q, if_pos (by rw [zl10]; exact ge_lit (by decide) hv q), if_pos rfl]
        exact ref6 h0
  rw [if_neg q0]
  by_cases q1 : x = (1 : Int32)
  · subst q1
    rw [if_pos (show (1 : Int32) = 1 from rfl), show F8_within 1 0 2 m = some (1, m) by rw [w3]; exact within_in (by decide) ⟨1, by decide, rfl⟩, fk_bind_some, if_neg k1, if_neg k1, if_pos (show (1 : Int32) = 1 from rfl), w8]
    by_cases hv : rg v 8
    · rw [if_neg (nneg (by decide) hv), if_neg (by rw [zl8]; exact nle_lit (by decide) hv), fk_let_e, fk_let_e, within_in (by decide) hv, fk_bind_some, if_neg k1, fk_chk_t (by decide), fk_let_e, fk_chk_t (by decide), fk_let_e, hb.2.2.1.1]
      exact Op2.mk ⟨nb, h.state hv⟩
    · rw [within_out (by decide) hv, fk_bind_some, if_neg (show ¬ (1 : Int32) = 2 by decide)]
      by_cases q : v < 0
      · rw [if_pos q, if_pos rfl]
        exact ref6 h0
      · rw [if_neg q, if_pos (by rw [zl8]; exact ge_lit (by decide) hv q), if_pos rfl]
        exact ref6 h0
  rw [if_neg q1]
  by_cases q2 : x = (2 : Int32)
  · subst q2
    rw [if_pos (show (2 : Int32) = 2 from rfl), show F8_within 2 0 2 m = some (1, m) by rw [w3]; exact within_in (by decide) ⟨2, by decide, by decide⟩, fk_bind_some, if_neg k1, if_neg q0, if_neg q1, w256]
    by_cases hv : rg v 256
    · rw [if_neg (nneg (by decide) hv), if_neg (by rw [show (256 : Int32) = nI 256 from rfl]; exact nle_lit (by decide) hv), fk_let_e, fk_let_e, within_in (by decide) hv, fk_bind_some, if_neg k1, fk_chk_t (by decide), fk_let_e, fk_chk_t (by decide), fk_let_e, hb.2.2.2]
      exact Op2.mk ⟨nb, h.trou⟩
    · rw [within_out (by decide) hv, fk_bind_some]
      by_cases q : v < 0
      · rw [if_pos q, if_pos rfl]
        exact ref6 h0
      · rw [if_neg q, if_pos (by rw [show (256 : Int32) = nI 256 from rfl]; exact ge_lit (by decide) hv q), if_pos rfl]
        exact ref6 h0
  rw [if_neg q2, w3, within_out (by decide) (fun ⟨a, ha, e⟩ => by
    rcases (show a = 0 ∨ a = 1 ∨ a = 2 by omega) with rfl | rfl | rfl
    · exact q0 e
    · exact q1 e
    · exact q2 (e.trans (by decide))), fk_bind_some, if_pos rfl]
  exact ref6 h0
theorem coming_out {o : Nat} {s r : Int32} {st : fkS} (h : ¬ (rg s 8 ∧ rg r 5)) : F0_comingBy o s r st = some (-1, st) := by
  unfold F0_comingBy
  by_cases q : s < 0
  · rw [if_pos q]
  rw [if_neg q]
  by_cases q1 : rg s 8
  · rw [if_neg (by rw [zl8]; exact nle_lit (by decide) q1)]
    by_cases q2 : r < 0
    · rw [if_pos q2]
    rw [if_neg q2]
    have q3 : ¬ rg r 5 := fun z => h ⟨q1, z⟩
    rw [if_neg (by rw [zl5]; exact lt_of_not_le (ge_lit (by decide) q3 q2))]
  · rw [if_pos (by rw [zl8]; exact ge_lit (by decide) q1 q)]
theorem part_in {s r : Int32} {st : fkS} (h1 : rg s 8) (h2 : rg r 5) : F8_isPart s r st = some (1, st) := by
  unfold F8_isPart
  rw [isState_in h1, fk_bind_some, if_neg (by decide), w5, within_in (by decide) h2, fk_bind_some, if_neg (by decide)]
theorem part_out {s r : Int32} {st : fkS} (h : ¬ (rg s 8 ∧ rg r 5)) : F8_isPart s r st = some (0, st) := by
  unfold F8_isPart
  by_cases q : rg s 8
  · rw [isState_in q, fk_bind_some, if_neg (by decide), w5, within_out (by decide) (fun z => h ⟨q, z⟩), fk_bind_some, if_pos rfl]
  · rw [isState_out q, fk_bind_some, if_pos rfl]
theorem tix {s r : Int32} (h1 : rg s 8) (h2 : rg r 5) : ∃ y, y < 40 ∧ (s * 5) + r = nI y ∧ ((5 : Int32) * s) + r = nI y := by
  obtain ⟨a, ha, rfl⟩ := h1
  obtain ⟨b, hb, rfl⟩ := h2
  refine ⟨a * 5 + b, by omega, ?_, ?_⟩
  · rw [zl5, pk_mul, nI_add]
  · rw [zl5, pk_mul, nI_add, Nat.mul_comm]
theorem m1_rg {x : Int32} {n : Nat} (hn : n ≤ 2 ^ 30) (h : rg x n) : ¬ x = (-1 : Int32) := by
  obtain ⟨a, ha, rfl⟩ := h
  intro q
  have h1 := congrArg Int32.toInt q
  rw [nI_toInt (by omega), show (-1 : Int32).toInt = -1 by decide] at h1
  omega
theorem op_comes {c m : fkS} (h : Rel c m) (s r : Int32) : Op2 (F7_comes s r c) (F8_comes s r m) := by
  have h0 := h
  obtain ⟨nb, h⟩ := h
  have hb := h.2.1.1
  unfold F7_comes F8_comes
  by_cases q : rg s 8 ∧ rg r 5
  · obtain ⟨y, hy, e1, e2⟩ := tix q.1 q.2
    rw [coming_ok q.1 q.2, fk_bind_some, part_in q.1 q.2, fk_bind_some, if_neg (show ¬ (1 : Int32) = 0 by decide), e1, e2, nI_clamp (by omega), if_neg (m1_rg (by decide) (hb y hy).2), fk_chk_in hy (by decide), fk_let_e, (hb y hy).1]
    exact Op2.mk h0
  · rw [coming_out q, fk_bind_some, if_pos rfl, part_out q, fk_bind_some, if_pos rfl]
    exact ref5 h0
theorem op_table {c m : fkS} (h : Rel c m) (s r v : Int32) : Op2 (F7_table s r v c) (F8_table s r v m) := by
  have h0 := h
  obtain ⟨nb, h⟩ := h
  have hb := h.2.1.1
  unfold F7_table F8_table B7_table_27 B8_table_15
  by_cases q : rg s 8 ∧ rg r 5
  · obtain ⟨y, hy, e1, e2⟩ := tix q.1 q.2
    rw [coming_ok q.1 q.2, fk_bind_some, part_in q.1 q.2, fk_bind_some, if_neg (show ¬ (1 : Int32) = 0 by decide), e1, e2, nI_clamp (by omega), if_neg (m1_rg (by decide) (hb y hy).2)]
    by_cases hv : rg v 8
    · unfold F0_setComing
      rw [if_neg (nneg (by decide) hv), if_pos (by rw [zl8]; exact lt_lit (by decide) hv), isState_in hv, fk_bind_some, if_neg (by decide), coming_ok q.1 q.2, fk_bind_some, e1, nI_clamp (by omega), if_neg (m1_rg (by decide) (hb y hy).2), fk_chk_in hy (by decide), fk_chk_in hy (by decide), fk_let_e, fk_bind_some, fk_let_e, fk_chk_in hy (by decide), fk_let_e, (hb y hy).1]
      exact Op2.mk ⟨nb, h.tab hv⟩
    · rw [isState_out hv, fk_bind_some, if_pos rfl]
      by_cases q2 : v < 0
      · rw [if_pos q2]
        exact ref6 h0
      · rw [if_neg q2, if_neg (by rw [zl8]; exact lt_of_not_le (ge_lit (by decide) hv q2))]
        exact ref6 h0
  · rw [coming_out q, fk_bind_some, if_pos rfl, part_out q, fk_bind_some, if_pos rfl]
    exact ref6 h0
theorem op_birdOf {c m : fkS} (h : Rel c m) (b x : Int32) : Op2 (F7_birdOf b x c) (F8_birdOf b x m) := by
  have h0 := h
  obtain ⟨nb, ⟨hnb, a2, a3, a4, a5, a6⟩, -⟩ := h
  unfold F7_birdOf F8_birdOf B7_birdOf_20 B8_birdOf_17
  by_cases q : rg b nb
  · rw [lacks_in hnb a2 q, fk_bind_some, if_pos rfl, isBird_in hnb a3 q, fk_bind_some, if_neg (show ¬ (1 : Int32) = 0 by decide)]
    obtain ⟨k, hk, rfl⟩ := q
    by_cases hx : rg x 3
    · rw [show F8_within x 0 2 m = some (1, m) by rw [w3]; exact within_in (by decide) hx, fk_bind_some, if_neg (show ¬ (1 : Int32) = 0 by decide), if_neg (nneg (by decide) hx)]
      have hx2 : x ≤ 2 := by
        obtain ⟨a, ha, rfl⟩ := hx
        rw [zl2, nI_leI (by omega) (by omega)]
        omega
      rw [if_pos hx2, fk_chk_in (by omega) (by decide), fk_chk_in (by omega) (by decide), fk_chk_in (by omega) (by decide), fk_chk_in (by omega) (by decide), fk_chk_in (by omega) (by decide), fk_chk_in (by omega) (by decide)]
      rw [fk_let_e, fk_let_e, fk_let_e, fk_let_e, fk_let_e, fk_let_e, nI_clamp (by omega), (a4 k (by omega)).1, (a5 k (by omega)).1, (a6 k (by omega)).1]
      by_cases q0 : x = 0
      · rw [if_pos q0, if_pos q0]
        exact Op2.mk h0
      · rw [if_neg q0, if_neg q0]
        by_cases q1 : x = (1 : Int32)
        · rw [if_pos q1, if_pos q1]
          exact Op2.mk h0
        · rw [if_neg q1, if_neg q1]
          exact Op2.mk h0
    · rw [show F8_within x 0 2 m = some (0, m) by rw [w3]; exact within_out (by decide) hx, fk_bind_some, if_pos rfl]
      by_cases q2 : x < 0
      · rw [if_pos q2]
        exact ref5 h0
      · have hx2 : ¬ x ≤ 2 := by
          have := ge_lit (by decide) hx q2
          rw [Int32.le_iff_toInt_le] at this ⊢
          have e3 : (nI 3).toInt = 3 := by decide
          have e2 : (2 : Int32).toInt = 2 := by decide
          omega
        rw [if_neg q2, if_neg hx2]
        exact ref5 h0
  · rw [lacks_out hnb a2 q, fk_bind_some, if_neg (show ¬ (1 : Int32) = 0 by decide), isBird_out hnb a3 q, fk_bind_some, if_pos rfl]
    exact ref5 h0

theorem rgQ {x : Int32} (n : Nat) : rg x n ∨ ¬ rg x n := Classical.em _
theorem RelN.bird {c m : fkS} {nb : Nat} {k a mo : Int32} (h : RelN c m nb) (hn : nb < 7) (hk : rg k 7) (ha : rg a 10) (hmo : rg mo 20) :
    RelN (sI (sA (sA (sA c 22 nb k) 25 nb a) 28 nb mo) 0 19 (nI (nb + 1))) (sI (sA (sA (sA m 1 nb k) 2 nb a) 3 nb mo) 0 0 (nI (nb + 1))) (nb + 1) := by
  obtain ⟨⟨a1, a2, a3, a4, a5, a6⟩, hb, hd, hs, hm, hi⟩ := h
  refine ⟨⟨by omega, rfl, rfl, fun b hb7 => ?_, fun b hb7 => ?_, fun b hb7 => ?_⟩, hb, hd, ?_, hm, hi⟩
  · show upd (gA c 22) nb k b = upd (gA m 1) nb k b ∧ rg (upd (gA c 22) nb k b) 7
    by_cases q : b = nb
    · rw [q, upd_same, upd_same]
      exact ⟨rfl, hk⟩
    · rw [upd_ne q, upd_ne q]
      exact a4 b hb7
  · show upd (gA c 25) nb a b = upd (gA m 2) nb a b ∧ rg (upd (gA c 25) nb a b) 10
    by_cases q : b = nb
    · rw [q, upd_same, upd_same]
      exact ⟨rfl, ha⟩
    · rw [upd_ne q, upd_ne q]
      exact a5 b hb7
  · show upd (gA c 28) nb mo b = upd (gA m 3) nb mo b ∧ rg (upd (gA c 28) nb mo b) 20
    by_cases q : b = nb
    · rw [q, upd_same, upd_same]
      exact ⟨rfl, hmo⟩
    · rw [upd_ne q, upd_ne q]
      exact a6 b hb7
  · intro s hs8
    rcases hs s hs8 with t | ⟨t1, b, t2, t3, t4⟩ | t
    · exact Or.inl t
    · exact Or.inr (Or.inl ⟨t1, b, by omega, t3, t4⟩)
    · exact Or.inr (Or.inr t)
theorem add_ok {o nb : Nat} {k a mo : Int32} {st : fkS} (hn : nb < 7) (hI : gI st 0 o = nI nb) : F0_add o k a mo st = some ((), sI (sA (sA (sA st (o + 3) nb k) (o + 6) nb a) (o + 9) nb mo) 0 o (nI (nb + 1))) := by
  have e1 : ¬ nI nb < 0 := nI_pos (by omega)
  have e2 : nI nb < (7 : Int32) := by
    rw [zl7, nI_ltI (by omega) (by omega)]
    exact hn
  simp (disch := omega) only [F0_add, fk_let_e, gI_sA, hI, e1, e2, if_true, if_false, fk_chk_in, nI_clamp, nI_1]
theorem newBird_ok {nb : Nat} {k a mo : Int32} {st : fkS} (hn : nb < 7) (hI : gI st 0 0 = nI nb) : F8_newBird k a mo st = some (nI nb, sI (sA (sA (sA st 1 nb k) 2 nb a) 3 nb mo) 0 0 (nI (nb + 1))) := by
  simp (disch := omega) only [F8_newBird, fk_let_e, gI_sA, hI, fk_chk_in, nI_clamp, nI_1]
theorem op_bird {c m : fkS} (h : Rel c m) (k a mo : Int32) : Op2 (F7_bird k a mo c) (F8_bird k a mo m) := by
  have h0 := h
  obtain ⟨nb, h⟩ := h
  obtain ⟨hnb, a2, a3, -⟩ := h.1
  have k1 : ¬ (1 : Int32) = 0 := by decide
  unfold F7_bird F8_bird B7_bird_10 B7_bird_36 B8_bird_36
  rw [w7, w10, w19]
  rcases rgQ (x := k) 7 with hk | hk
  · rw [if_neg (nneg (by decide) hk), if_pos (by rw [zl7]; exact lt_lit (by decide) hk), within_in (by decide) hk, fk_bind_some, if_neg k1]
    rcases rgQ (x := a) 10 with ha | ha
    · rw [if_neg (nneg (by decide) ha), if_neg (by rw [zl10]; exact nle_lit (by decide) ha), within_in (by decide) ha, fk_bind_some, if_neg k1]
      rcases rgQ (x := mo) 20 with hmo | hmo
      · rw [if_neg (nneg (by decide) hmo), if_pos (by rw [zl20]; exact lt_lit (by decide) hmo), within_in (by decide) hmo, fk_bind_some, if_neg k1, fk_let_e, fk_let_e, a2, a3]
        by_cases q : nb = 7
        · rw [q, if_neg (by decide), if_pos (by decide)]
          exact ref7 h0
        · have hn : nb < 7 := by omega
          rw [if_pos (by rw [zl7, nI_ltI (by omega) (by omega)]; exact hn), if_neg (by rw [zl7, nI_eq (by omega) (by omega)]; exact q)]
          rw [add_ok hn a2, fk_bind_some, fk_let_e, gI_same, newBird_ok hn a3, fk_bind_some, zl1, pk_sub (by omega), Nat.add_sub_cancel]
          exact Op2.mk ⟨nb + 1, h.bird hn hk ha hmo⟩
      · rw [within_out (by decide) hmo, fk_bind_some, if_pos (show (0 : Int32) = 0 from rfl)]
        by_cases q : mo < 0
        · rw [if_pos q]
          exact ref6 h0
        · rw [if_neg q, if_neg (by rw [zl20]; exact lt_of_not_le (ge_lit (by decide) hmo q))]
          exact ref6 h0
    · rw [within_out (by decide) ha, fk_bind_some, if_pos (show (0 : Int32) = 0 from rfl)]
      by_cases q : a < 0
      · rw [if_pos q]
        exact ref6 h0
      · rw [if_neg q, if_pos (by rw [zl10]; exact ge_lit (by decide) ha q)]
        exact ref6 h0
  · rw [within_out (by decide) hk, fk_bind_some, if_pos (show (0 : Int32) = 0 from rfl)]
    by_cases q : k < 0
    · rw [if_pos q]
      exact ref1 h0
    · rw [if_neg q, if_neg (by rw [zl7]; exact lt_of_not_le (ge_lit (by decide) hk q))]
      exact ref1 h0
/-! shelves: show, holds -/
theorem gI_nfi {s : fkS} {f i f' i' : Nat} {v : Int32} (n : ¬ (f' = f ∧ i' = i)) : gI (sI s f i v) f' i' = gI s f' i' := by rw [gI_sI, if_neg n]
theorem op_show {c m : fkS} (h : Rel c m) (x b : Int32) : Op2 (F7_show x b c) (F8_show x b m) := by
  have h0 := h
  obtain ⟨nb, h⟩ := h
  obtain ⟨hnb, a2, a3, -⟩ := h.1
  have k1 : ¬ (1 : Int32) = 0 := by decide
  have kr : (0 : Int32) = 0 := rfl
  unfold F7_show F8_show B8_show_23 B8_show_29
  rw [w8]
  rcases rgQ (x := x) 8 with hx | hx
  · rw [noShelf_in hx, fk_bind_some, if_pos kr, within_in (by decide) hx, fk_bind_some, if_neg k1]
    obtain ⟨s, hs, rfl⟩ := hx
    simp (disch := omega) only [fk_chk_in, nI_clamp]
    by_cases qb : b = (-1 : Int32)
    · rw [if_pos qb, if_pos qb]
      unfold F5_holdNothing
      rw [fk_let_e, fk_let_e, fk_bind_some, fk_let_e, if_pos qb, qb]
      refine Op2.mk ⟨nb, h.shelf hs ?_ (fun _ _ => rfl) (fun _ _ => rfl) (fun _ _ _ => rfl) ?_ ?_ (fun _ _ => rfl) (fun _ _ => rfl) (Or.inl ⟨?_, ?_⟩)⟩
      · intro f i _ hi
        rw [gI_nfi (fun z => hi z.2), gI_nfi (fun z => hi z.2)]
      · intro i _ h6 _
        rw [gA_sA, if_neg h6]
      · intro p hp
        rw [gA_sA, if_pos rfl, upd_ne hp]
      · rw [gI_nf (by decide), gI_same]
      · rw [gA_sA, if_pos rfl, upd_same]
    · rw [if_neg qb, if_neg qb]
      rcases rgQ (x := b) nb with hb | hb
      · rw [lacks_in hnb a2 hb, fk_bind_some, if_pos kr, isBird_in hnb a3 hb, fk_bind_some, if_neg k1]
        obtain ⟨k, hk, rfl⟩ := hb
        unfold F5_holdBird
        rw [fk_let_e, fk_let_e, fk_let_e, fk_bind_some, fk_let_e, if_neg qb]
        refine Op2.mk ⟨nb, h.shelf hs ?_ (fun _ _ => rfl) (fun _ _ => rfl) (fun _ _ _ => rfl) ?_ ?_ (fun _ _ => rfl) (fun _ _ => rfl) (Or.inr (Or.inl ⟨?_, k, hk, ?_, ?_⟩))⟩
        · intro f i _ hi
          rw [gI_nfi (fun z => hi z.2), gI_nfi (fun z => hi z.2), gI_nfi (fun z => hi z.2)]
        · intro i _ h6 _
          rw [gA_sA, if_neg h6]
        · intro p hp
          rw [gA_sA, if_pos rfl, upd_ne hp]
        · rw [gI_nf (by decide), gI_nf (by decide), gI_same]
        · rw [gI_nf (by decide), gI_same]
        · rw [gA_sA, if_pos rfl, upd_same]
      · rw [lacks_out hnb a2 hb, fk_bind_some, if_neg k1, isBird_out hnb a3 hb, fk_bind_some, if_pos kr]
        exact ref1 h0
  · rw [noShelf_out hx, fk_bind_some, if_neg k1, within_out (by decide) hx, fk_bind_some, if_pos kr]
    exact ref1 h0
theorem op_holds {c m : fkS} (h : Rel c m) (x : Int32) : Op2 (F7_holds x c) (F8_holds x m) := by
  have h0 := h
  obtain ⟨nb, h⟩ := h
  have k1 : ¬ (1 : Int32) = 0 := by decide
  have kr : (0 : Int32) = 0 := rfl
  unfold F7_holds F8_holds
  rw [w8]
  rcases rgQ (x := x) 8 with hx | hx
  · rw [noShelf_in hx, fk_bind_some, if_pos kr, within_in (by decide) hx, fk_bind_some, if_neg k1]
    obtain ⟨s, hs, rfl⟩ := hx
    simp only [fk_let_e]
    rw [fk_chk_in hs (by decide), fk_chk_in hs (by decide), fk_chk_in hs (by decide), fk_chk_in hs (by decide), fk_chk_in hs (by decide), nI_clamp (by omega)]
    rcases h.2.2.2.1 s hs with ⟨t1, t2⟩ | ⟨t1, b, t2, t3, t4⟩ | ⟨t1, ⟨so, t2, t3, t4⟩, -⟩
    · rw [t1, if_pos kr, t2]
      exact Op2.mk h0
    · rw [t1, if_neg k1, if_pos rfl, t3, t4]
      exact Op2.mk h0
    · rw [t1, if_neg (by decide), if_neg (by decide), t3, t4, show (100 : Int32) = nI 100 from rfl, nI_add]
      exact Op2.mk h0
  · rw [noShelf_out hx, fk_bind_some, if_neg k1, within_out (by decide) hx, fk_bind_some, if_pos kr]
    exact Op2.mk h0
