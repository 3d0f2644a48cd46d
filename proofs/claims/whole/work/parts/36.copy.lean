/-! copy -/
theorem cmp_gt {a b : Nat} (ha : a < 2 ^ 62) (hb : b < 2 ^ 62) : (0 < lg_cmp (lN a) (lN b)) ↔ b < a := by
  unfold lg_cmp
  by_cases h : lN a > lN b
  · rw [if_pos h]
    have h1 := (pk_lLT (by omega) (by omega)).mp h
    exact ⟨fun _ => h1, fun _ => by decide⟩
  · rw [if_neg h]
    have h1 : ¬ b < a := fun q => h ((pk_lLT (by omega) (by omega)).mpr q)
    refine ⟨fun q => absurd q ?_, fun q => absurd q h1⟩
    split <;> decide
theorem cmp_le {a b : Nat} (ha : a < 2 ^ 62) (hb : b < 2 ^ 62) : (lg_cmp (lN a) (lN b) ≤ 0) ↔ a ≤ b := by
  have h := cmp_gt ha hb
  have e : (lg_cmp (lN a) (lN b) ≤ 0) ↔ ¬ (0 < lg_cmp (lN a) (lN b)) := by
    rw [Int32.le_iff_toInt_le, Int32.lt_iff_toInt_lt]
    omega
  rw [e, h]
  omega
theorem span_ok {c : fkS} {s n i k : Nat} (hn : gI c 103 (3 + s) = nI n) (h1 : i < 2 ^ 31) (h2 : k < 2 ^ 31) (h3 : n ≤ 160) : F5_hasSpan (3 + s) (nI i) (nI k) c = some (if i + k ≤ n then 1 else 0, c) := by
  unfold F5_hasSpan
  rw [if_neg (nI_pos h1), if_neg (nI_pos h2), fk_let_e, hn, nI_l h1, nI_l h2, nI_l (by omega), lN_add]
  by_cases q : i + k ≤ n
  · rw [if_pos q, if_neg]
    rw [cmp_gt (by omega) (by omega)]
    omega
  · rw [if_neg q, if_pos]
    rw [cmp_gt (by omega) (by omega)]
    omega
theorem span_neg {c : fkS} {s : Nat} {i k : Int32} (h : i < 0) : F5_hasSpan (3 + s) i k c = some (0, c) := by
  unfold F5_hasSpan
  rw [if_pos h]
theorem cpy_0 {f : Nat → Int64} {S D : Nat} : va_cpy f f S D 0 = f := by
  funext x
  unfold va_cpy
  rw [if_neg (by omega)]
theorem cpy_s {f : Nat → Int64} {S D t : Nat} : vp_updL (va_cpy f f S D t) (D + t) (f (S + t)) = va_cpy f f S D (t + 1) := by
  funext x
  unfold vp_updL va_cpy
  by_cases q : x = D + t
  · rw [if_pos q, if_pos (by omega), show S + (x - D) = S + t by omega]
  · rw [if_neg q]
    by_cases q2 : D ≤ x ∧ x < D + t
    · rw [if_pos q2, if_pos (by omega)]
    · rw [if_neg q2, if_neg (by omega)]
theorem fw_loop {p q i j n : Nat} {f : Nat → Int64} (hp : 160 * p + i + n ≤ 1280) (hq : 160 * q + j + n ≤ 1280) (hd : 160 * q + j ≤ 160 * p + i ∨ 160 * p + i + n ≤ 160 * q + j) (hn : n ≤ 160) : ∀ (d t fu : Nat) (st : fkS), t + d = n → d < fu → gL st 8 = va_cpy f f (160 * p + i) (160 * q + j) t →
    fk_lp6 B8_copy_251 fu (nI p) (nI q) (nI i) (nI j) (nI n) (nI t) st = some (1, sLF st 8 (va_cpy f f (160 * p + i) (160 * q + j) n)) := by
  intro d
  induction d with
  | zero =>
    intro t fu st ht hf hL
    obtain ⟨m, rfl⟩ : ∃ m, fu = m + 1 := ⟨fu - 1, by omega⟩
    obtain rfl : t = n := by omega
    show B8_copy_251 (fk_lp6 B8_copy_251 m) (nI p) (nI q) (nI i) (nI j) (nI t) (nI t) st = _
    simp only [B8_copy_251]
    rw [if_pos (Int32.le_refl _), ← hL, sLF_self]
  | succ d ih =>
    intro t fu st ht hf hL
    obtain ⟨m, rfl⟩ : ∃ m, fu = m + 1 := ⟨fu - 1, by omega⟩
    have h1 : ¬ nI n ≤ nI t := by
      rw [nI_leI (by omega) (by omega)]
      omega
    show B8_copy_251 (fk_lp6 B8_copy_251 m) (nI p) (nI q) (nI i) (nI j) (nI n) (nI t) st = _
    simp only [B8_copy_251]
    rw [if_neg h1, zl160, pk_mul, nI_add, nI_add, fk_chk_in (by omega) (by decide), fk_let_e, nI_clamp (by omega), pk_mul, nI_add, nI_add, fk_chk_in (by omega) (by decide), fk_let_e, nI_clamp (by omega), nI_1]
    have e : va_cpy f f (160 * p + i) (160 * q + j) t (160 * p + i + t) = f (160 * p + i + t) := by
      unfold va_cpy
      by_cases z : 160 * q + j ≤ 160 * p + i + t ∧ 160 * p + i + t < 160 * q + j + t
      · exfalso
        omega
      · rw [if_neg z]
    rw [ih (t + 1) m _ (by omega) (by omega) (by rw [sL_def, gL_same, hL, e, cpy_s]), sL_def, sLF_sLF]
def bwF (f : Nat → Int64) (S D n t : Nat) : Nat → Int64 := fun x => if D + t ≤ x ∧ x < D + n then f (S + (x - D)) else f x
theorem bw_loop {p q i j n : Nat} {f : Nat → Int64} (hp : 160 * p + i + n ≤ 1280) (hq : 160 * q + j + n ≤ 1280) (hd : 160 * p + i < 160 * q + j) (hn : n ≤ 160) : ∀ (t fu : Nat) (st : fkS), t ≤ n → t < fu → gL st 8 = bwF f (160 * p + i) (160 * q + j) n t →
    fk_lp5 B8_copy_203 fu (nI p) (nI q) (nI i) (nI j) (nI t - 1) st = some (1, sLF st 8 (va_cpy f f (160 * p + i) (160 * q + j) n)) := by
  intro t
  induction t with
  | zero =>
    intro fu st ht hf hL
    obtain ⟨m, rfl⟩ : ∃ m, fu = m + 1 := ⟨fu - 1, by omega⟩
    show B8_copy_203 (fk_lp5 B8_copy_203 m) (nI p) (nI q) (nI i) (nI j) (nI 0 - 1) st = _
    simp only [B8_copy_203]
    rw [if_pos (by decide)]
    have e : va_cpy f f (160 * p + i) (160 * q + j) n = gL st 8 := by
      rw [hL]
      rfl
    rw [e, sLF_self]
  | succ t ih =>
    intro fu st ht hf hL
    obtain ⟨m, rfl⟩ : ∃ m, fu = m + 1 := ⟨fu - 1, by omega⟩
    have e2 : nI t + (-1) = nI t - 1 := (Int32.sub_eq_add_neg _ _).symm
    show B8_copy_203 (fk_lp5 B8_copy_203 m) (nI p) (nI q) (nI i) (nI j) (nI (t + 1) - 1) st = _
    rw [nI_pred]
    simp only [B8_copy_203]
    rw [if_neg (nI_pos (by omega)), zl160, pk_mul, nI_add, nI_add, fk_chk_in (by omega) (by decide), fk_let_e, nI_clamp (by omega), pk_mul, nI_add, nI_add, fk_chk_in (by omega) (by decide), fk_let_e, nI_clamp (by omega), e2]
    have e : gL st 8 (160 * p + i + t) = f (160 * p + i + t) := by
      rw [hL]
      unfold bwF
      rw [if_neg (by omega)]
    rw [ih m _ (by omega) (by omega) (by
      rw [sL_def, gL_same, hL, ← hL, e, hL]
      funext x
      unfold vp_updL bwF
      by_cases z : x = 160 * q + j + t
      · rw [if_pos z, if_pos (by omega), show 160 * p + i + (x - (160 * q + j)) = 160 * p + i + t by omega]
      · rw [if_neg z]
        by_cases z2 : 160 * q + j + (t + 1) ≤ x ∧ x < 160 * q + j + n
        · rw [if_pos z2, if_pos (by omega)]
        · rw [if_neg z2, if_neg (by omega)]), sL_def, sLF_sLF]
theorem mcopy {m : fkS} {p q i j n : Nat} (hp8 : p < 8) (hq8 : q < 8) (hi : i + n ≤ 160) (hj : j + n ≤ 160) :
    (if nI p = nI q then (if nI j ≤ nI i then B8_copy_248 (nI p) (nI q) (nI i) (nI j) (nI n) m else fk_lp5 B8_copy_203 fk_fuel (nI p) (nI q) (nI i) (nI j) (nI n - 1) m) else B8_copy_248 (nI p) (nI q) (nI i) (nI j) (nI n) m) = some (1, sLF m 8 (va_cpy (gL m 8) (gL m 8) (160 * p + i) (160 * q + j) n)) := by
  have fw : 160 * q + j ≤ 160 * p + i ∨ 160 * p + i + n ≤ 160 * q + j → B8_copy_248 (nI p) (nI q) (nI i) (nI j) (nI n) m = some (1, sLF m 8 (va_cpy (gL m 8) (gL m 8) (160 * p + i) (160 * q + j) n)) := by
    intro hd
    unfold B8_copy_248
    rw [zl0, fw_loop (f := gL m 8) (by omega) (by omega) hd (by omega) n 0 fk_fuel m (by omega) (by unfold fk_fuel; omega) cpy_0.symm]
  by_cases e : p = q
  · subst e
    rw [if_pos rfl]
    by_cases e2 : j ≤ i
    · rw [if_pos ((nI_leI (by omega) (by omega)).mpr e2), fw (by omega)]
    · rw [if_neg (by rw [nI_leI (by omega) (by omega)]; exact e2)]
      rw [bw_loop (n := n) (f := gL m 8) (by omega) (by omega) (by omega) (by omega) n fk_fuel m (by omega) (by unfold fk_fuel; omega) (by
        funext x
        unfold bwF
        rw [if_neg (by omega)])]
  · rw [if_neg (by rw [nI_eq (by omega) (by omega)]; exact e), fw (by omega)]
theorem op_copy {c m : fkS} (h : Rel c m) (x y i j n : Int32) : Op2 (F7_copy x y i j n c) (F8_copy x y i j n m) := by
  have h0 := h
  obtain ⟨nb, h⟩ := h
  have hnb := h.1.1
  have k1 : ¬ (1 : Int32) = 0 := by decide
  have kr : (0 : Int32) = 0 := rfl
  -- the reference's road where no two rows are there
  have hM : ∀ code, RC code → F8_noRows x y m = some (code, m) → F8_copy x y i j n m = fk_bind (F8_no code m) fun a b => some (a, b) := by
    intro code hc hno
    unfold F8_copy B8_copy_20 B8_copy_43 B8_copy_60 B8_copy_91
    unfold F8_noRows at hno
    rw [w8] at hno ⊢
    rcases rgQ (x := x) 8 with hx | hx
    · rw [within_in (by decide) hx, fk_bind_some, if_neg k1] at hno ⊢
      rcases rgQ (x := y) 8 with hy | hy
      · rw [within_in (by decide) hy, fk_bind_some, if_neg k1] at hno ⊢
        obtain ⟨s, hs, rfl⟩ := hx
        obtain ⟨p, hp, rfl⟩ := hy
        have fin : ∀ a : Int32, some (a, m) = some (code, m) → a = code := fun a q => by
          have := congrArg (fun o => o.map Prod.fst) q
          simpa using this
        rw [fk_chk_in hs (by decide), fk_let_e, nI_clamp (by omega)]
        rcases h.2.2.2.1 s hs with h1 | h1 | h1 <;> rcases h.2.2.2.1 p hp with h2 | h2 | h2
        · rw [noRow_E hs h1, fk_bind_some, noRow_E hp h2, fk_bind_some] at hno
          rw [← fin _ hno, h1.2, if_pos (by decide), fk_chk_in hp (by decide), fk_let_e, nI_clamp (by omega), h2.2, if_pos (by decide), isRow_E hs h1, fk_bind_some, if_pos kr]
          unfold B8_copy_98 B8_copy_116
          rw [fk_chk_in hs (by decide), fk_let_e, nI_clamp (by omega), h1.2, if_pos (by decide)]
        · rw [noRow_E hs h1, fk_bind_some, noRow_B hp hnb h2, fk_bind_some] at hno
          obtain ⟨-, b, b1, -, b2⟩ := id h2
          rw [← fin _ hno, h1.2, if_pos (by decide), fk_chk_in hp (by decide), fk_let_e, nI_clamp (by omega), b2, if_neg (nI_pos (by omega)), isRow_B hp hnb h2, fk_bind_some, if_pos kr]
        · rw [noRow_E hs h1, fk_bind_some, noRow_R hp h2, fk_bind_some] at hno
          obtain ⟨-, ⟨so, b1, -, b2⟩, -⟩ := id h2
          rw [← fin _ hno, h1.2, if_pos (by decide), fk_chk_in hp (by decide), fk_let_e, nI_clamp (by omega), b2, if_neg (nI_pos (by omega)), isRow_R hp h2, fk_bind_some, if_neg k1, isRow_E hs h1, fk_bind_some, if_pos kr]
          unfold B8_copy_98 B8_copy_116
          rw [fk_chk_in hs (by decide), fk_let_e, nI_clamp (by omega), h1.2, if_pos (by decide)]
        · rw [noRow_B hs hnb h1, fk_bind_some, noRow_E hp h2, fk_bind_some] at hno
          obtain ⟨-, b, b1, -, b2⟩ := id h1
          rw [← fin _ hno, b2, if_neg (nI_pos (by omega)), isRow_B hs hnb h1, fk_bind_some, if_pos kr]
        · rw [noRow_B hs hnb h1, fk_bind_some, noRow_B hp hnb h2, fk_bind_some] at hno
          obtain ⟨-, b, b1, -, b2⟩ := id h1
          rw [← fin _ hno, b2, if_neg (nI_pos (by omega)), isRow_B hs hnb h1, fk_bind_some, if_pos kr]
        · rw [noRow_B hs hnb h1, fk_bind_some, noRow_R hp h2, fk_bind_some] at hno
          obtain ⟨-, b, b1, -, b2⟩ := id h1
          rw [← fin _ hno, b2, if_neg (nI_pos (by omega)), isRow_B hs hnb h1, fk_bind_some, if_pos kr]
        · rw [noRow_R hs h1, fk_bind_some, noRow_E hp h2, fk_bind_some] at hno
          obtain ⟨-, ⟨so, b1, -, b2⟩, -⟩ := id h1
          rw [← fin _ hno, b2, if_neg (nI_pos (by omega)), isRow_R hs h1, fk_bind_some, if_neg k1, fk_chk_in hp (by decide), fk_let_e, nI_clamp (by omega), h2.2, if_pos (by decide), isRow_R hs h1, fk_bind_some, if_neg k1, isRow_E hp h2, fk_bind_some, if_pos kr]
          unfold B8_copy_98 B8_copy_116
          rw [fk_chk_in hs (by decide), fk_let_e, nI_clamp (by omega), b2, if_neg (nI_pos (by omega)), fk_chk_in hp (by decide), fk_let_e, nI_clamp (by omega), h2.2, if_neg (by decide)]
        · rw [noRow_R hs h1, fk_bind_some, noRow_B hp hnb h2, fk_bind_some] at hno
          obtain ⟨-, ⟨so, b1, -, b2⟩, -⟩ := id h1
          obtain ⟨-, b, b3, -, b4⟩ := id h2
          rw [← fin _ hno, b2, if_neg (nI_pos (by omega)), isRow_R hs h1, fk_bind_some, if_neg k1, fk_chk_in hp (by decide), fk_let_e, nI_clamp (by omega), b4, if_neg (nI_pos (by omega)), isRow_B hp hnb h2, fk_bind_some, if_pos kr]
        · rw [noRow_R hs h1, fk_bind_some, noRow_R hp h2, fk_bind_some] at hno
          exact absurd (fin _ hno).symm hc.ref.1
      · rw [within_out (by decide) hy, fk_bind_some, if_pos kr] at hno ⊢
        have e : (-1 : Int32) = code := by
          have := congrArg (fun o => o.map Prod.fst) hno
          simpa using this
        rw [← e]
    · rw [within_out (by decide) hx, fk_bind_some, if_pos kr] at hno ⊢
      have e : (-1 : Int32) = code := by
        have := congrArg (fun o => o.map Prod.fst) hno
        simpa using this
      rw [← e]
  rcases rows2 h x y with ⟨s, p, hs, hp, rfl, rfl, hR1, hR2, e1, e2⟩ | ⟨code, hc, e1, e2⟩
  · unfold F7_copy B7_copy_38 B7_copy_93
    have cs : (nI s).toNatClampNeg = s := nI_clamp (by omega)
    have cp : (nI p).toNatClampNeg = p := nI_clamp (by omega)
    rw [e1, fk_bind_some, if_pos kr, cs, cp]
    have hR1' := hR1
    have hR2' := hR2
    obtain ⟨t1, ⟨so, t2, t3, t4⟩, n1, t5, t6, t7, t8⟩ := hR1
    obtain ⟨u1, ⟨sp, u2, u3, u4⟩, n2, u5, u6, u7, u8⟩ := hR2
    have eM : F8_copy (nI s) (nI p) i j n m = (if nI (100 + so) = nI (100 + sp) then B8_copy_98 (nI s) (nI p) i j n m else B8_copy_91 m) := by
      unfold F8_copy B8_copy_43 B8_copy_60
      rw [cs, cp, w8, within_in (by decide) (rg_nI hs), fk_bind_some, if_neg k1, within_in (by decide) (rg_nI hp), fk_bind_some, if_neg k1, fk_chk_in hs (by decide), fk_let_e, t4, if_neg (nI_pos (by omega)), isRow_R hs hR1', fk_bind_some, if_neg k1, fk_chk_in hp (by decide), fk_let_e, u4, if_neg (nI_pos (by omega)), isRow_R hp hR2', fk_bind_some, if_neg k1, isRow_R hs hR1', fk_bind_some, if_neg k1, isRow_R hp hR2', fk_bind_some, if_neg k1, fk_chk_in hs (by decide), fk_let_e, t4, fk_chk_in hp (by decide), fk_let_e, u4]
    rw [eM]
    simp (disch := omega) only [fk_chk_in, fk_let_e]
    rw [t3, u3]
    by_cases es : so = sp
    · subst es
      simp only [if_true, if_pos kr]
      rw [B8_copy_98, B8_copy_179, fk_chk_in hs (by decide), fk_let_e, cs, t4, if_neg (nI_pos (by omega)), fk_chk_in hp (by decide), fk_let_e, cp, u4, if_pos (nI_pos' (by omega))]
      by_cases qn : 0 ≤ n
      · have qn' : ¬ n < 0 := by
          rw [Int32.lt_iff_toInt_lt]
          rw [Int32.le_iff_toInt_le] at qn
          omega
        rw [if_pos qn, if_pos qn]
        obtain ⟨k, hk, rfl⟩ := nI_of qn'
        by_cases qi : i < 0
        · rw [span_neg qi, fk_bind_some, if_pos kr, if_pos qi]
          exact ref5 h0
        · rw [if_neg qi]
          obtain ⟨i', hi', rfl⟩ := nI_of qi
          rw [span_ok t6 hi' hk t5, fk_bind_some]
          by_cases s1 : i' + k ≤ n1
          · rw [if_pos s1, if_neg k1]
            by_cases qj : j < 0
            · rw [span_neg qj, fk_bind_some, if_pos kr, if_pos qj]
              exact ref5 h0
            · obtain ⟨j', hj', rfl⟩ := nI_of qj
              rw [span_ok u6 hj' hk u5, fk_bind_some, if_neg qj, fk_chk_in hs (by decide), fk_let_e, t7, nI_l hi', nI_l hk, nI_l (show n1 < 2 ^ 31 by omega), lN_add, if_neg (show ¬ (0 < lg_cmp (lN (i' + k)) (lN n1)) by rw [cmp_gt (by omega) (by omega)]; omega), fk_chk_in hp (by decide), fk_let_e, u7, nI_l hj', nI_l (show n2 < 2 ^ 31 by omega), lN_add]
              by_cases s2 : j' + k ≤ n2
              · have ecp : fk_cp (nI i') (nI j') (nI k) 160 160 = true := by
                  unfold fk_cp
                  rw [decide_eq_true_eq, nI_clamp hi', nI_clamp hj', nI_clamp hk]
                  exact ⟨nI_pos hi', nI_pos hj', nI_pos hk, by omega, by omega⟩
                rw [if_pos s2, if_neg k1, if_pos ((cmp_le (by omega) (by omega)).mpr s2), fk_chk_t ecp, mcopy hs hp (by omega) (by omega), nI_clamp hi', nI_clamp hj', nI_clamp hk]
                refine Op2.mk ⟨nb, h.shelf hp (fun _ _ _ _ => rfl) (fun _ _ => rfl) (fun z hz => gL_ne hz) (fun _ _ _ => rfl) (fun _ _ _ _ => rfl) (fun _ _ => rfl) (fun _ _ => rfl) ?_ (Or.inr (Or.inr ⟨u1, ⟨so, u2, u3, u4⟩, n2, u5, u6, u7, ?_⟩))⟩
                · intro z hz
                  rw [gL_same]
                  unfold va_cpy
                  rw [if_neg (by omega)]
                · intro z hz
                  rw [gL_same, gL_same]
                  unfold va_cpy
                  by_cases w : j' ≤ z ∧ z < j' + k
                  · rw [if_pos w, if_pos (by omega), t8 _ (by omega)]
                    congr 1
                    omega
                  · rw [if_neg w, if_neg (by omega), u8 z hz]
              · rw [if_neg s2, if_pos kr, if_neg (by rw [cmp_le (by omega) (by omega)]; exact s2)]
                exact ref5 h0
          · rw [if_neg s1, if_pos kr]
            by_cases qj : j < 0
            · rw [if_pos qj]
              exact ref5 h0
            · rw [if_neg qj, fk_chk_in hs (by decide), fk_let_e, t7, nI_l hi', nI_l hk, nI_l (show n1 < 2 ^ 31 by omega), lN_add, if_pos ((cmp_gt (show i' + k < 2 ^ 62 by omega) (show n1 < 2 ^ 62 by omega)).mpr (by omega))]
              exact ref5 h0
      · rw [if_neg qn, if_neg qn]
        exact ref4 h0
    · rw [if_neg (by rw [nI_eq (by omega) (by omega)]; exact es), if_neg (by decide), if_neg (by rw [nI_eq (by omega) (by omega)]; omega)]
      exact refC h0 (Or.inr (Or.inl rfl))
  · unfold F7_copy B7_copy_38
    rw [e1, fk_bind_some, if_neg hc.ref.1, if_neg hc.ref.1, hM code hc e2]
    exact refC h0 hc
