/-! ROWS: row, set, element -/
theorem sLF_sLF {s : fkS} {i : Nat} {u v : Nat → Int64} : sLF (sLF s i u) i v = sLF s i v := by
  simp only [sLF, Prod.mk.injEq, true_and, and_true]
  funext j
  by_cases h : j = i
  · rw [if_pos h, if_pos h]
  · rw [if_neg h, if_neg h, if_neg h]
theorem sLF_self {s : fkS} {i : Nat} : sLF s i (gL s i) = s := by
  obtain ⟨a, b, c, d⟩ := s
  simp only [sLF, gL, Prod.mk.injEq, true_and, and_true]
  funext j
  by_cases h : j = i
  · rw [if_pos h, h]
  · rw [if_neg h]
theorem gL_same {s : fkS} {i : Nat} {h : Nat → Int64} : gL (sLF s i h) i = h := by rw [gL_sLF, if_pos rfl]
theorem gL_ne {s : fkS} {i j : Nat} {h : Nat → Int64} (n : j ≠ i) : gL (sLF s i h) j = gL s j := by rw [gL_sLF, if_neg n]
theorem sL_def (s : fkS) (i j : Nat) (v : Int64) : sL s i j v = sLF s i (vp_updL (gL s i) j v) := rfl
theorem updL_same {f : Nat → Int64} {j : Nat} {x : Int64} : vp_updL f j x j = x := by
  unfold vp_updL
  rw [if_pos rfl]
theorem updL_ne {f : Nat → Int64} {j i : Nat} {x : Int64} (h : i ≠ j) : vp_updL f j x i = f i := by
  unfold vp_updL
  rw [if_neg h]
def zr (j c : Nat) (f : Nat → Int64) : Nat → Int64 := fun i => if j ≤ i ∧ i < c then 0 else f i
theorem zr_0 {c : Nat} {f : Nat → Int64} : zr c c f = f := by
  funext i
  unfold zr
  rw [if_neg (by omega)]
theorem zr_s {j c : Nat} {f : Nat → Int64} (h : j < c) : zr (j + 1) c (vp_updL f j 0) = zr j c f := by
  funext i
  unfold zr vp_updL
  by_cases h1 : i = j
  · subst h1
    rw [if_neg (by omega), if_pos rfl, if_pos (by omega)]
  · rw [if_neg h1]
    by_cases h2 : j ≤ i ∧ i < c
    · rw [if_pos h2, if_pos (by omega)]
    · rw [if_neg h2, if_neg (by omega)]
theorem hold_loop {h n : Nat} (hn : n ≤ 160) : ∀ (d j fu : Nat) (st : fkS), j + d = n → d < fu → gI st 103 h = nI n →
    fk_lp1 (B5_holdRow_27 h) fu (nI j) st = some ((), sLF st (h + 8) (zr j n (gL st (h + 8)))) := by
  intro d
  induction d with
  | zero =>
    intro j fu st hj hf hI
    obtain ⟨m, rfl⟩ : ∃ m, fu = m + 1 := ⟨fu - 1, by omega⟩
    obtain rfl : j = n := by omega
    rw [fk_lp1_s]
    simp only [B5_holdRow_27, fk_let_e, hI, Int32.le_refl, if_true, zr_0, sLF_self]
  | succ d ih =>
    intro j fu st hj hf hI
    obtain ⟨m, rfl⟩ : ∃ m, fu = m + 1 := ⟨fu - 1, by omega⟩
    have h1 : ¬ nI n ≤ nI j := by
      rw [nI_leI (by omega) (by omega)]
      omega
    rw [fk_lp1_s]
    simp (disch := omega) only [B5_holdRow_27, fk_let_e, hI, h1, if_false, fk_chk_in, nI_clamp, nI_1]
    rw [ih (j + 1) m _ (by omega) (by omega) (by rw [gI_sL]; exact hI), sL_def, sLF_sLF, gL_same, zr_s (by omega)]
theorem holdRow_ok {h n : Nat} {so : Int32} {st : fkS} (hn : n ≤ 160) : F5_holdRow h so (nI n) st = some ((), sLF (sI (sI (sI st 100 h 2) 102 h so) 103 h (nI n)) (h + 8) (zr 0 n (gL st (h + 8)))) := by
  simp only [F5_holdRow, fk_let_e]
  rw [zl160, fk_min_nI (by omega) (by omega), zl0, fk_max0 (by omega), show min n 160 = n by omega]
  rw [hold_loop hn n 0 fk_fuel _ (by omega) (by unfold fk_fuel; omega) gI_same]
  rfl
theorem mrow_loop {s : Nat} (hs : s < 8) : ∀ (d j fu : Nat) (st : fkS), j + d = 160 → d < fu →
    fk_lp2 B8_row_77 fu (nI s) (nI j) st = some (1, sLF st 8 (zr (160 * s + j) (160 * s + 160) (gL st 8))) := by
  intro d
  induction d with
  | zero =>
    intro j fu st hj hf
    obtain ⟨m, rfl⟩ : ∃ m, fu = m + 1 := ⟨fu - 1, by omega⟩
    obtain rfl : j = 160 := by omega
    rw [fk_lp2_s]
    simp only [B8_row_77]
    rw [if_pos (by decide), zr_0, sLF_self]
  | succ d ih =>
    intro j fu st hj hf
    obtain ⟨m, rfl⟩ : ∃ m, fu = m + 1 := ⟨fu - 1, by omega⟩
    have h1 : ¬ (160 : Int32) ≤ nI j := by
      rw [zl160, nI_leI (by omega) (by omega)]
      omega
    rw [fk_lp2_s]
    simp only [B8_row_77]
    rw [if_neg h1, zl160, pk_mul, nI_add, fk_chk_in (by omega) (by decide), fk_let_e, nI_clamp (by omega), nI_1]
    rw [ih (j + 1) m _ (by omega) (by omega), sL_def, sLF_sLF, gL_same, ← Nat.add_assoc, zr_s (by omega)]
theorem op_row {c m : fkS} (h : Rel c m) (x so n : Int32) : Op2 (F7_row x so n c) (F8_row x so n m) := by
  have h0 := h
  obtain ⟨nb, h⟩ := h
  have k1 : ¬ (1 : Int32) = 0 := by decide
  have kr : (0 : Int32) = 0 := rfl
  unfold F7_row F8_row B7_row_34
  rw [w8, w4]
  rcases rgQ (x := x) 8 with hx | hx
  · rw [noShelf_in hx, fk_bind_some, if_pos kr, within_in (by decide) hx, fk_bind_some, if_neg k1]
    obtain ⟨s, hs, rfl⟩ := hx
    by_cases qn : 0 ≤ n
    · rw [if_pos qn, if_pos qn]
      have qn' : ¬ n < 0 := by
        rw [Int32.lt_iff_toInt_lt]
        rw [Int32.le_iff_toInt_le] at qn
        omega
      obtain ⟨k, hk, rfl⟩ := nI_of qn'
      rcases rgQ (x := so) 4 with hso | hso
      · rw [if_neg (nneg (by decide) hso), if_pos (by rw [zl4]; exact lt_lit (by decide) hso), within_in (by decide) hso, fk_bind_some, if_neg k1]
        by_cases q : k ≤ 160
        · have q1 : nI k ≤ (160 : Int32) := by
            rw [zl160, nI_leI (by omega) (by omega)]
            exact q
          rw [if_pos q1, if_pos q1]
          simp (disch := omega) only [fk_chk_in, nI_clamp, fk_let_e]
          rw [holdRow_ok q, fk_bind_some, zl0, mrow_loop hs 160 0 fk_fuel _ (by omega) (by unfold fk_fuel; omega)]
          obtain ⟨z, hz, rfl⟩ := hso
          refine Op2.mk ⟨nb, h.shelf hs ?_ (fun _ _ => rfl) ?_ (fun _ _ _ => rfl) ?_ ?_ ?_ ?_ (Or.inr (Or.inr ⟨?_, ⟨z, hz, ?_, ?_⟩, k, q, ?_, ?_, ?_⟩))⟩
          · intro f i _ hi
            rw [gI_sLF, gI_nfi (fun z => hi z.2), gI_nfi (fun z => hi z.2), gI_nfi (fun z => hi z.2)]
          · intro i hi
            rw [gL_ne hi]
            rfl
          · intro i _ h6 h7
            rw [gA_sLF, gA_sA, if_neg h7, gA_sA, if_neg h6]
          · intro p hp
            rw [gA_sLF, gA_sA, if_neg (by decide), gA_sA, if_pos rfl, upd_ne hp]
          · intro p hp
            rw [gA_sLF, gA_sA, if_pos rfl, upd_ne hp]
            rfl
          · intro j hj
            rw [gL_same]
            unfold zr
            rw [if_neg (by omega)]
            rfl
          · rw [gI_sLF, gI_nf (by decide), gI_nf (by decide), gI_same]
          · rw [gI_sLF, gI_nf (by decide), gI_same]
          · rw [gA_sLF, gA_sA, if_neg (by decide), gA_sA, if_pos rfl, upd_same, show (100 : Int32) = nI 100 from rfl, nI_add]
          · rw [gI_sLF, gI_same]
          · rw [gA_sLF, gA_sA, if_pos rfl, upd_same]
          · intro j hj
            rw [gL_same, gL_same]
            unfold zr
            rw [if_pos (by omega), if_pos (by omega)]
        · have q1 : ¬ nI k ≤ (160 : Int32) := by
            rw [zl160, nI_leI (by omega) (by omega)]
            exact q
          rw [if_neg q1, if_neg q1]
          exact ref7 h0
      · rw [within_out (by decide) hso, fk_bind_some, if_pos kr]
        by_cases q : so < 0
        · rw [if_pos q]
          exact ref6 h0
        · rw [if_neg q, if_neg (by rw [zl4]; exact lt_of_not_le (ge_lit (by decide) hso q))]
          exact ref6 h0
    · rw [if_neg qn, if_neg qn]
      exact ref4 h0
  · rw [noShelf_out hx, fk_bind_some, if_neg k1, within_out (by decide) hx, fk_bind_some, if_pos kr]
    exact ref1 h0
/-- an element put in -/
theorem RelN.putE {c m : fkS} {nb s k n : Nat} {v : Int64} (h : RelN c m nb) (hs : s < 8) (hR : isR c m s) (hn : gI c 103 (3 + s) = nI n) (hk : k < n) (hn2 : n ≤ 160) : RelN (sL c (3 + s + 8) k v) (sL m 8 (160 * s + k) v) nb := by
  refine h.shelf hs (fun _ _ _ _ => rfl) (fun _ _ => rfl) ?_ (fun _ _ _ => rfl) (fun _ _ _ _ => rfl) (fun _ _ => rfl) (fun _ _ => rfl) ?_ (Or.inr (Or.inr ?_))
  · intro i hi
    rw [gL_sL, if_neg hi]
  · intro j hj
    rw [gL_sL, if_pos rfl, updL_ne (by omega)]
  · obtain ⟨t1, t2, n', t3, t4, t5, t6⟩ := hR
    refine ⟨t1, t2, n', t3, t4, t5, fun j hj => ?_⟩
    rw [gL_sL, if_pos rfl, gL_sL, if_pos rfl]
    by_cases q : j = k
    · rw [q, updL_same, updL_same]
    · rw [updL_ne q, updL_ne (by omega)]
      exact t6 j hj
theorem op_set {c m : fkS} (h : Rel c m) (x i : Int32) (v : Int64) : Op2 (F7_set x i v c) (F8_set x i v m) := by
  have h0 := h
  obtain ⟨nb, h⟩ := h
  have k1 : ¬ (1 : Int32) = 0 := by decide
  have kr : (0 : Int32) = 0 := rfl
  unfold F7_set F8_set B7_set_36 B8_set_102
  rcases row1 h x with ⟨s, hs, rfl, hR, e1, e2⟩ | ⟨code, hc, e1, e2⟩
  · rw [e1, fk_bind_some, if_pos kr, e2, fk_bind_some, if_pos (Int32.le_refl _)]
    have hR0 := hR
    obtain ⟨t1, ⟨so, t2, t3, t4⟩, n, t5, t6, t7, t8⟩ := hR
    simp (disch := omega) only [fk_chk_in, nI_clamp, fk_let_e]
    rw [t6, t7]
    have e100 : nI (100 + so) - (100 : Int32) = nI so := by
      rw [show (100 : Int32) = nI 100 from rfl, pk_sub (by omega), Nat.add_sub_cancel_left]
    rcases rgQ (x := i) n with hi | hi
    · rw [within_in (by omega) hi, fk_bind_some, if_neg k1, t4, e100, if_neg (nneg (by omega) hi), if_pos (lt_lit (by omega) hi)]
      obtain ⟨k, hk, rfl⟩ := hi
      unfold F5_put
      rw [if_neg (nI_pos (by omega)), t6]
      simp only [fk_let_e]
      rw [if_pos ((nI_ltI (by omega) (by omega)).mpr hk), t3, zl160, pk_mul, nI_add]
      simp (disch := omega) only [fk_chk_in, nI_clamp]
      rcases (show so = 0 ∨ so = 1 ∨ so = 2 ∨ so = 3 by omega) with rfl | rfl | rfl | rfl
      · rw [if_pos (by decide), if_pos (by decide), fk_bind_some]
        exact Op2.mk ⟨nb, h.putE hs hR0 t6 hk t5⟩
      · rw [if_neg (by decide), if_pos (by decide), if_neg (by decide), if_pos (by decide), fk_bind_some]
        exact Op2.mk ⟨nb, h.putE hs hR0 t6 hk t5⟩
      · rw [if_neg (by decide), if_neg (by decide), if_pos (by decide), if_neg (by decide), if_neg (by decide), if_pos (by decide), fk_bind_some]
        exact Op2.mk ⟨nb, h.putE hs hR0 t6 hk t5⟩
      · rw [if_neg (by decide), if_neg (by decide), if_neg (by decide), if_neg (by decide), if_neg (by decide), if_neg (by decide), fk_bind_some]
        exact Op2.mk ⟨nb, h.putE hs hR0 t6 hk t5⟩
    · rw [within_out (by omega) hi, fk_bind_some, if_pos kr]
      by_cases q : i < 0
      · rw [if_pos q]
        exact ref5 h0
      · rw [if_neg q, if_neg (lt_of_not_le (ge_lit (by omega) hi q))]
        exact ref5 h0
  · obtain ⟨z1, z2, -⟩ := hc.ref
    rw [e1, fk_bind_some, if_neg z1, e2, fk_bind_some, if_neg z2]
    exact refC h0 hc
/-- what a shelf's row holds, as an int: the same on either side -/
theorem whole_in {c : fkS} {s n k : Nat} (hn : gI c 103 (3 + s) = nI n) (hk : k < n) (hn2 : n ≤ 160) : F5_whole (3 + s) (nI k) c = some (gL c (3 + s + 8) k, c) := by
  unfold F5_whole
  rw [if_neg (nI_pos (by omega)), fk_let_e, hn, if_pos ((nI_ltI (by omega) (by omega)).mpr hk), fk_chk_in (by omega) (by decide), fk_let_e, nI_clamp (by omega)]
theorem number_in {c : fkS} {s n k : Nat} (hn : gI c 103 (3 + s) = nI n) (hk : k < n) (hn2 : n ≤ 160) : F5_number (3 + s) (nI k) c = some ((gL c (3 + s + 8) k).toInt32, c) := by
  unfold F5_number
  rw [whole_in hn hk hn2, fk_bind_some]
theorem op_element {c m : fkS} (h : Rel c m) (x i : Int32) : Op2 (F7_element x i c) (F8_element x i m) := by
  have h0 := h
  obtain ⟨nb, h⟩ := h
  have hnb := h.1.1
  have k1 : ¬ (1 : Int32) = 0 := by decide
  have kr : (0 : Int32) = 0 := rfl
  unfold F7_element F8_element B8_element_49
  rw [w8]
  rcases rgQ (x := x) 8 with hx | hx
  · rw [within_in (by decide) hx, fk_bind_some, if_neg k1]
    rcases row1 h x with ⟨s, hs, rfl, hR, e1, e2⟩ | ⟨code, hc, e1, e2⟩
    · rw [e1, fk_bind_some, if_pos kr, isRow_R hs hR, fk_bind_some, if_neg k1]
      obtain ⟨t1, -, n, t5, t6, t7, t8⟩ := hR
      rw [fk_chk_in hs (by decide), fk_chk_in hs (by decide), fk_let_e, nI_clamp (by omega), t7]
      rcases rgQ (x := i) n with hi | hi
      · rw [within_in (by omega) hi, fk_bind_some, if_neg k1]
        obtain ⟨k, hk, rfl⟩ := hi
        rw [whole_in t6 hk t5, fk_bind_some, zl160, pk_mul, nI_add, fk_chk_in (by omega) (by decide), fk_let_e, nI_clamp (by omega), t8 k hk]
        exact Op2.mk h0
      · rw [within_out (by omega) hi, fk_bind_some, if_pos kr]
        unfold F5_whole B5_whole_12
        by_cases q : i < 0
        · rw [if_pos q, fk_bind_some]
          exact Op2.mk h0
        · rw [if_neg q, fk_let_e, t6, if_neg (lt_of_not_le (ge_lit (by omega) hi q)), fk_bind_some]
          exact Op2.mk h0
    · obtain ⟨s, hs, rfl⟩ := hx
      rw [e1, fk_bind_some, if_neg hc.ref.1]
      have er : F8_isRow (nI s) m = some (0, m) := by
        rcases h.2.2.2.1 s hs with t | t | t
        · exact isRow_E hs t
        · exact isRow_B hs hnb t
        · exfalso
          rw [noRow_R hs t] at e2
          have e3 := congrArg (fun o => o.map Prod.fst) e2
          simp only [Option.map_some, Option.some.injEq] at e3
          exact hc.ref.1 e3.symm
      rw [er, fk_bind_some, if_pos kr]
      exact Op2.mk h0
  · rw [within_out (by decide) hx, fk_bind_some, if_pos kr]
    rcases row1 h x with ⟨s, hs, rfl, -, -⟩ | ⟨code, hc, e1, -⟩
    · exact absurd (rg_nI hs) hx
    · rw [e1, fk_bind_some, if_neg hc.ref.1]
      exact Op2.mk h0
