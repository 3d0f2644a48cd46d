/-! PURE PART. Numbers, checks, states: what the pure programs' steps come to. -/
theorem fk_let_e {α β : Type} {a : α} {f : α → β} : fk_let a f = f a := Eq.trans (congrFun (congrFun (rfl : @fk_let α β = fun a f => f a) a) f) rfl
theorem fk_in_nI {j n : Nat} (h : j < n) (hn : n < 2 ^ 31) : fk_in (nI j) n = true := by
  unfold fk_in
  have h1 : ¬ nI j < 0 := nI_pos (by omega)
  have h2 : (nI j).toNatClampNeg = j := nI_clamp (by omega)
  simp only [h1, h2, decide_false, Bool.false_or, Bool.not_eq_true', decide_eq_false_iff_not]
  omega
theorem fk_chk_in {α : Type} {j n : Nat} {F : Option α} (h : j < n) (hn : n < 2 ^ 31) : fk_chk (fk_in (nI j) n) F = F := by
  rw [fk_in_nI h hn]
  rfl
theorem fk_chk_t {α : Type} {b : Bool} {F : Option α} (h : b = true) : fk_chk b F = F := by
  rw [h]
  rfl
theorem fk_bind_some {α β γ : Type} {a : α} {b : β} {f : α → β → Option γ} : fk_bind (some (a, b)) f = f a b := rfl
theorem fk_rem_nI {a d : Nat} (ha : a < 2 ^ 31) (h0 : 0 < d) (hd : d < 2 ^ 31) : fk_rem (nI a) (nI d) = nI (a % d) := pk_rem ha h0 hd
theorem zl0 : (0 : Int32) = nI 0 := rfl
theorem zl1 : (1 : Int32) = nI 1 := rfl
theorem zl2 : (2 : Int32) = nI 2 := rfl
theorem zl3 : (3 : Int32) = nI 3 := rfl
theorem zl4 : (4 : Int32) = nI 4 := rfl
theorem zl5 : (5 : Int32) = nI 5 := rfl
theorem zl6 : (6 : Int32) = nI 6 := rfl
theorem zl7 : (7 : Int32) = nI 7 := rfl
theorem zl8 : (8 : Int32) = nI 8 := rfl
theorem zl9 : (9 : Int32) = nI 9 := rfl
theorem zl10 : (10 : Int32) = nI 10 := rfl
theorem zl14 : (14 : Int32) = nI 14 := rfl
theorem zl16 : (16 : Int32) = nI 16 := rfl
theorem zl20 : (20 : Int32) = nI 20 := rfl
theorem zl21 : (21 : Int32) = nI 21 := rfl
theorem zl40 : (40 : Int32) = nI 40 := rfl
theorem zl60 : (60 : Int32) = nI 60 := rfl
theorem zl61 : (61 : Int32) = nI 61 := rfl
theorem zl100 : (100 : Int32) = nI 100 := rfl
theorem zl160 : (160 : Int32) = nI 160 := rfl
theorem nI_m1 {n : Nat} (h : 1 ≤ n) : nI n + (-1) = nI (n - 1) := by
  obtain ⟨m, rfl⟩ : ∃ m, n = m + 1 := ⟨n - 1, by omega⟩
  exact pk_m1 m
theorem nI_lt0 {n : Nat} (h : n < 2 ^ 31) : (nI n < 0) = False := eq_false (nI_pos h)
theorem nI_le0 {n : Nat} (h : n < 2 ^ 31) : (nI n ≤ 0) = (n = 0) := by
  rw [zl0]
  exact propext ((nI_leI h (by omega)).trans (by omega))
theorem fk_max0 {a : Nat} (h : a < 2 ^ 31) : fk_max (nI 0) (nI a) = nI a := by
  unfold fk_max
  by_cases h1 : nI 0 < nI a
  · rw [if_pos h1]
  · rw [if_neg h1]
    rw [nI_ltI (by omega) h] at h1
    rw [show a = 0 by omega]
theorem fk_min_nI {a b : Nat} (ha : a < 2 ^ 31) (hb : b < 2 ^ 31) : fk_min (nI a) (nI b) = nI (min a b) := by
  unfold fk_min
  by_cases h1 : nI b < nI a
  · rw [if_pos h1]
    rw [nI_ltI hb ha] at h1
    rw [show min a b = b by omega]
  · rw [if_neg h1]
    rw [nI_ltI hb ha] at h1
    rw [show min a b = a by omega]
/-- states -/
theorem sAF_self {s : fkS} {i : Nat} : sAF s i (gA s i) = s := by
  obtain ⟨a, b, c, d⟩ := s
  simp only [sAF, gA, Prod.mk.injEq, true_and, and_true]
  funext j
  by_cases h : j = i
  · rw [if_pos h, h]
  · rw [if_neg h]
theorem sAF_sAF {s : fkS} {i : Nat} {u v : Nat → Int32} : sAF (sAF s i u) i v = sAF s i v := by
  simp only [sAF, Prod.mk.injEq, true_and, and_true]
  funext j
  by_cases h : j = i
  · rw [if_pos h, if_pos h]
  · rw [if_neg h, if_neg h, if_neg h]
theorem sAF_eq {s : fkS} {i : Nat} {u : Nat → Int32} (h : u = gA s i) : sAF s i u = s := by
  rw [h, sAF_self]
theorem sI_self {s : fkS} {f i : Nat} : sI s f i (gI s f i) = s := by
  obtain ⟨a, b⟩ := s
  simp only [sI, gI, Prod.mk.injEq, and_true]
  funext x y
  by_cases h : x = f ∧ y = i
  · rw [if_pos h, h.1, h.2]
  · rw [if_neg h]
theorem sI_eq {s : fkS} {f i : Nat} {v : Int32} (h : v = gI s f i) : sI s f i v = s := by
  rw [h, sI_self]
theorem sI_sI {s : fkS} {f i : Nat} {u v : Int32} : sI (sI s f i u) f i v = sI s f i v := by
  simp only [sI, Prod.mk.injEq, and_true]
  funext x y
  by_cases h : x = f ∧ y = i
  · rw [if_pos h, if_pos h]
  · rw [if_neg h, if_neg h, if_neg h]
theorem sI_sAF {s : fkS} {f i j : Nat} {u : Int32} {v : Nat → Int32} : sI (sAF s j v) f i u = sAF (sI s f i u) j v := rfl
theorem gA_same {s : fkS} {i : Nat} {h : Nat → Int32} : gA (sAF s i h) i = h := by rw [gA_sAF, if_pos rfl]
theorem gA_ne {s : fkS} {i j : Nat} {h : Nat → Int32} (n : j ≠ i) : gA (sAF s i h) j = gA s j := by rw [gA_sAF, if_neg n]
theorem gI_same {s : fkS} {f i : Nat} {v : Int32} : gI (sI s f i v) f i = v := by rw [gI_sI, if_pos ⟨rfl, rfl⟩]
theorem gI_nf {s : fkS} {f i f' i' : Nat} {v : Int32} (n : f' ≠ f) : gI (sI s f i v) f' i' = gI s f' i' := by rw [gI_sI, if_neg (fun q => n q.1)]
theorem gI_ni {s : fkS} {f i f' i' : Nat} {v : Int32} (n : i' ≠ i) : gI (sI s f i v) f' i' = gI s f' i' := by rw [gI_sI, if_neg (fun q => n q.2)]
theorem sA_def (s : fkS) (i j : Nat) (v : Int32) : sA s i j v = sAF s i (upd (gA s i) j v) := rfl
theorem fk_lp1_s {α β γ : Type} (B : (α → β → Option γ) → α → β → Option γ) (n : Nat) (a : α) (b : β) : fk_lp1 B (n + 1) a b = B (fk_lp1 B n) a b := rfl
theorem fk_lp2_s {α1 α2 β γ : Type} (B : (α1 → α2 → β → Option γ) → α1 → α2 → β → Option γ) (n : Nat) (a : α1) (b : α2) (c : β) : fk_lp2 B (n + 1) a b c = B (fk_lp2 B n) a b c := rfl
theorem fk_lp3_s {α1 α2 α3 β γ : Type} (B : (α1 → α2 → α3 → β → Option γ) → α1 → α2 → α3 → β → Option γ) (n : Nat) (a : α1) (b : α2) (c : α3) (d : β) : fk_lp3 B (n + 1) a b c d = B (fk_lp3 B n) a b c d := rfl
theorem fuel_eq (n : Nat) (h : n < 1200) : ∃ m, fk_fuel = m + 1 ∧ n ≤ m := ⟨1199, rfl, by omega⟩
/-! WHAT IS SAID, in words of numbers -/
/-- the sign of a layer -/
def sg (he mo : Int32) (p : Nat → Int32) (i : Nat) : Int32 := fk_rem ((2 * p i + he) + mo) 20
def cn (x : Int32) : Int32 := if fk_rem x 3 = 0 then fk_rem (x + 1) 20 else x
def ra (a x : Int32) : Int32 := fk_rem (x + a) 20
/-- from place j on up to c -/
def mp (j c : Nat) (F : Int32 → Int32) (f : Nat → Int32) : Nat → Int32 := fun i => if j ≤ i ∧ i < c then F (f i) else f i
theorem mp_0 {c : Nat} {F : Int32 → Int32} {f : Nat → Int32} : mp c c F f = f := by
  funext i
  unfold mp
  rw [if_neg (by omega)]
theorem mp_s {j c : Nat} {F : Int32 → Int32} {f : Nat → Int32} (h : j < c) : mp (j + 1) c F (upd f j (F (f j))) = mp j c F f := by
  funext i
  unfold mp upd
  by_cases h1 : i = j
  · subst h1
    rw [if_neg (by omega), if_pos rfl, if_pos (by omega)]
  · rw [if_neg h1]
    by_cases h2 : j ≤ i ∧ i < c
    · rw [if_pos h2, if_pos (by omega)]
    · rw [if_neg h2, if_neg (by omega)]
theorem upd_self {f : Nat → Int32} {j : Nat} {x : Int32} (h : x = f j) : upd f j x = f := by
  funext i
  unfold upd
  by_cases h1 : i = j
  · rw [if_pos h1, h, h1]
  · rw [if_neg h1]
theorem chip_loop {h c : Nat} (hc : c ≤ 16) : ∀ (d j fu : Nat) (st : fkS), j + d = c → d < fu → gI st 124 h = nI c →
    fk_lp1 (B6_chip_2 h) fu (nI j) st = some ((), sAF st (h + 2) (mp j c cn (gA st (h + 2)))) := by
  intro d
  induction d with
  | zero =>
    intro j fu st hj hf hI
    obtain ⟨m, rfl⟩ : ∃ m, fu = m + 1 := ⟨fu - 1, by omega⟩
    obtain rfl : j = c := by omega
    rw [fk_lp1_s]
    simp (disch := omega) only [B6_chip_2, fk_let_e, hI, Int32.le_refl, if_true, mp_0, sAF_self]
  | succ d ih =>
    intro j fu st hj hf hI
    obtain ⟨m, rfl⟩ : ∃ m, fu = m + 1 := ⟨fu - 1, by omega⟩
    rw [fk_lp1_s]
    have h1 : ¬ nI c ≤ nI j := by
      rw [nI_leI (by omega) (by omega)]
      omega
    have h16 : ¬ (16 : Int32) ≤ nI j := by
      rw [zl16, nI_leI (by omega) (by omega)]
      omega
    simp (disch := omega) only [B6_chip_2, B6_chip_47, fk_let_e, hI, h1, h16, if_false, fk_chk_in, nI_clamp, nI_1]
    by_cases h3 : fk_rem (gA st (h + 2) j) 3 = 0
    · rw [if_pos h3, ih (j + 1) m _ (by omega) (by omega) (by rw [gI_sA]; exact hI), sA_def, sAF_sAF, gA_same]
      have e : cn (gA st (h + 2) j) = fk_rem (gA st (h + 2) j + 1) 20 := by rw [cn, if_pos h3]
      rw [← e, mp_s (by omega)]
    · rw [if_neg h3, ih (j + 1) m _ (by omega) (by omega) hI]
      have e : cn (gA st (h + 2) j) = gA st (h + 2) j := by rw [cn, if_neg h3]
      have e2 := mp_s (F := cn) (f := gA st (h + 2)) (j := j) (c := c) (by omega)
      rw [e, upd_self rfl] at e2
      rw [e2]
theorem raise_loop {h c : Nat} {a : Int32} (hc : c ≤ 16) : ∀ (d j fu : Nat) (st : fkS), j + d = c → d < fu → gI st 124 h = nI c → gI st 121 h = a →
    fk_lp1 (B6_raise_2 h) fu (nI j) st = some ((), sAF st (h + 2) (mp j c (ra a) (gA st (h + 2)))) := by
  intro d
  induction d with
  | zero =>
    intro j fu st hj hf hI ha
    obtain ⟨m, rfl⟩ : ∃ m, fu = m + 1 := ⟨fu - 1, by omega⟩
    obtain rfl : j = c := by omega
    rw [fk_lp1_s]
    simp (disch := omega) only [B6_raise_2, fk_let_e, hI, Int32.le_refl, if_true, mp_0, sAF_self]
  | succ d ih =>
    intro j fu st hj hf hI ha
    obtain ⟨m, rfl⟩ : ∃ m, fu = m + 1 := ⟨fu - 1, by omega⟩
    rw [fk_lp1_s]
    have h1 : ¬ nI c ≤ nI j := by
      rw [nI_leI (by omega) (by omega)]
      omega
    have h16 : ¬ (16 : Int32) ≤ nI j := by
      rw [zl16, nI_leI (by omega) (by omega)]
      omega
    simp (disch := omega) only [B6_raise_2, fk_let_e, hI, ha, h1, h16, if_false, fk_chk_in, nI_clamp, nI_1]
    rw [ih (j + 1) m _ (by omega) (by omega) (by rw [gI_sA]; exact hI) (by rw [gI_sA]; exact ha), sA_def, sAF_sAF, gA_same]
    rw [show fk_rem (gA st (h + 2) j + a) 20 = ra a (gA st (h + 2) j) from rfl, mp_s (by omega)]
/-- from place j on up to c, by place -/
def ini (j c : Nat) (F : Nat → Int32) (f : Nat → Int32) : Nat → Int32 := fun i => if j ≤ i ∧ i < c then F i else f i
theorem ini_0 {c : Nat} {F f : Nat → Int32} : ini c c F f = f := by
  funext i
  unfold ini
  rw [if_neg (by omega)]
theorem ini_s {j c : Nat} {F f : Nat → Int32} (h : j < c) : ini (j + 1) c F (upd f j (F j)) = ini j c F f := by
  funext i
  unfold ini upd
  by_cases h1 : i = j
  · subst h1
    rw [if_neg (by omega), if_pos rfl, if_pos (by omega)]
  · rw [if_neg h1]
    by_cases h2 : j ≤ i ∧ i < c
    · rw [if_pos h2, if_pos (by omega)]
    · rw [if_neg h2, if_neg (by omega)]
theorem lay_ok {i n : Nat} {st : fkS} (hi : i < n) (hn : n ≤ 8) (h : gI st 61 38 = nI n) : F3_layer (nI i) st = some (gA st 39 i, st) := by
  have e1 : ¬ nI i < 0 := nI_pos (by omega)
  have e2 : ¬ nI n ≤ nI i := by
    rw [nI_leI (by omega) (by omega)]
    omega
  have e3 : nI i < (8 : Int32) := by
    rw [zl8, nI_ltI (by omega) (by omega)]
    omega
  simp (disch := omega) only [F3_layer, fk_let_e, h, e1, e2, e3, if_true, if_false, fk_chk_in, nI_clamp]
theorem lay_no {x : Int32} {n : Nat} {st : fkS} (h : gI st 61 38 = nI n) (hx : x < 0 ∨ nI n ≤ x) : F3_layer x st = some (-1, st) := by
  unfold F3_layer
  by_cases q : x < 0
  · rw [if_pos q]
  · rw [if_neg q, fk_let_e, h, if_pos (hx.resolve_left q)]
theorem setLay_ok {i n : Nat} {v : Int32} {st : fkS} (hi : i < n) (hn : n ≤ 8) (h : gI st 61 38 = nI n) : F3_setLayer (nI i) v st = some ((), sA st 39 i v) := by
  have e1 : ¬ nI i < 0 := nI_pos (by omega)
  have e2 : ¬ nI n ≤ nI i := by
    rw [nI_leI (by omega) (by omega)]
    omega
  have e3 : ¬ (8 : Int32) ≤ nI i := by
    rw [zl8, nI_leI (by omega) (by omega)]
    omega
  simp (disch := omega) only [F3_setLayer, fk_let_e, h, e1, e2, e3, if_true, if_false, fk_chk_in, nI_clamp]
theorem sign_ok {h i c : Nat} {st : fkS} (hi : i < c) (hc : c ≤ 16) (hI : gI st 124 h = nI c) : F6_sign h (nI i) st = some (gA st (h + 2) i, st) := by
  have e1 : ¬ nI i < 0 := nI_pos (by omega)
  have e2 : ¬ nI c ≤ nI i := by
    rw [nI_leI (by omega) (by omega)]
    omega
  have e3 : nI i < (16 : Int32) := by
    rw [zl16, nI_ltI (by omega) (by omega)]
    omega
  simp (disch := omega) only [F6_sign, fk_let_e, hI, e1, e2, e3, if_true, if_false, fk_chk_in, nI_clamp]
theorem sign_no {h c : Nat} {x : Int32} {st : fkS} (hI : gI st 124 h = nI c) (hx : x < 0 ∨ nI c ≤ x) : F6_sign h x st = some (-1, st) := by
  unfold F6_sign
  by_cases q : x < 0
  · rw [if_pos q]
  · rw [if_neg q, fk_let_e, hI, if_pos (hx.resolve_left q)]
theorem say_loop {h c n : Nat} {he mo : Int32} {p : Nat → Int32} (hh : h = 40 ∨ h = 41) (hc : c ≤ n) (hn : n ≤ 8) : ∀ (d j fu : Nat) (st : fkS), j + d = c → d < fu → gI st 124 h = nI c → gI st 123 h = he → gI st 122 h = mo → gA st 39 = p → gI st 61 38 = nI n →
    fk_lp1 (B6_sayLayers_26 h) fu (nI j) st = some ((), sAF st (h + 2) (ini j c (sg he mo p) (gA st (h + 2)))) := by
  intro d
  induction d with
  | zero =>
    intro j fu st hj hf hI h2 h3 h4 h5
    obtain ⟨m, rfl⟩ : ∃ m, fu = m + 1 := ⟨fu - 1, by omega⟩
    obtain rfl : j = c := by omega
    rw [fk_lp1_s]
    simp (disch := omega) only [B6_sayLayers_26, fk_let_e, hI, Int32.le_refl, if_true, ini_0, sAF_self]
  | succ d ih =>
    intro j fu st hj hf hI h2 h3 h4 h5
    obtain ⟨m, rfl⟩ : ∃ m, fu = m + 1 := ⟨fu - 1, by omega⟩
    rw [fk_lp1_s]
    have h1 : ¬ nI c ≤ nI j := by
      rw [nI_leI (by omega) (by omega)]
      omega
    have h16 : ¬ (16 : Int32) ≤ nI j := by
      rw [zl16, nI_leI (by omega) (by omega)]
      omega
    simp (disch := omega) only [B6_sayLayers_26, fk_let_e, hI, lay_ok (show j < n by omega) hn h5, fk_bind_some, h2, h3, h4, h1, h16, if_false, fk_chk_in, nI_clamp, nI_1]
    rw [ih (j + 1) m _ (by omega) (by omega) (by rw [gI_sA]; exact hI) (by rw [gI_sA]; exact h2) (by rw [gI_sA]; exact h3) (by rw [gA_sA, if_neg (by omega)]; exact h4) (by rw [gI_sA]; exact h5), sA_def, sAF_sAF, gA_same]
    rw [show fk_rem (2 * p j + he + mo) 20 = sg he mo p j from rfl, ini_s (by omega)]
theorem say_ok {h n hN : Nat} {st : fkS} (hh : h = 40 ∨ h = 41) (hn : n ≤ 8) (hhN : hN < 10) (h1 : gI st 61 38 = nI n) (h2 : gI st 123 h = nI hN) :
    F6_sayLayers h st = some ((), sAF (sI st 124 h (nI (min n hN))) (h + 2) (ini 0 (min n hN) (sg (nI hN) (gI st 122 h) (gA st 39)) (gA st (h + 2)))) := by
  obtain ⟨m, hm, hm2⟩ := fuel_eq 20 (by omega)
  have e : fk_max (0 : Int32) (fk_min (fk_min (nI n) (nI hN)) (8 : Int32)) = nI (min n hN) := by
    rw [fk_min_nI (by omega) (by omega), zl8, fk_min_nI (by omega) (by omega), zl0, fk_max0 (by omega)]
    rw [show min (min n hN) 8 = min n hN by omega]
  simp only [F6_sayLayers, fk_let_e, h1, h2, e]
  rw [zl0, say_loop (c := min n hN) (he := nI hN) (mo := gI st 122 h) (p := gA st 39) hh (Nat.min_le_left n hN) hn (min n hN) 0 fk_fuel _ (by omega) (by rw [hm]; omega) gI_same (by rw [gI_nf (by decide)]; exact h2) (by rw [gI_nf (by decide)]) rfl (by rw [gI_nf (by decide)]; exact h1)]
  rfl
theorem chip_ok {h c : Nat} {st : fkS} (hc : c ≤ 16) (hI : gI st 124 h = nI c) : F6_chip h st = some ((), sAF st (h + 2) (mp 0 c cn (gA st (h + 2)))) := by
  unfold F6_chip
  rw [zl0, chip_loop hc c 0 fk_fuel st (by omega) (by unfold fk_fuel; omega) hI]
theorem raise_ok {h c : Nat} {st : fkS} (hc : c ≤ 16) (hI : gI st 124 h = nI c) : F6_raise h st = some ((), sAF st (h + 2) (mp 0 c (ra (gI st 121 h)) (gA st (h + 2)))) := by
  unfold F6_raise
  rw [zl0, raise_loop hc c 0 fk_fuel st (by omega) (by unfold fk_fuel; omega) hI rfl]
theorem swap_ok {h a b : Nat} {st : fkS} (ha : a < 16) (hb : b < 16) : F6_swap h (nI a) (nI b) st = some ((), sAF st (h + 2) (upd (upd (gA st (h + 2)) a (gA st (h + 2) b)) b (gA st (h + 2) a))) := by
  have e1 : ¬ nI a < 0 := nI_pos (by omega)
  have e2 : ¬ nI b < 0 := nI_pos (by omega)
  have e3 : ¬ (16 : Int32) ≤ nI a := by
    rw [zl16, nI_leI (by omega) (by omega)]
    omega
  have e4 : nI b < (16 : Int32) := by
    rw [zl16, nI_ltI (by omega) (by omega)]
    omega
  simp (disch := omega) only [F6_swap, e1, e2, e3, e4, if_true, if_false, fk_let_e, fk_chk_in, nI_clamp]
  rw [sA_def, sA_def, sAF_sAF, gA_same]
/-- the last first, by pairs -/
def rv (j c : Nat) (f : Nat → Int32) : Nat → Int32 := fun i => if i < c ∧ (i < j ∨ c ≤ i + j) then f (c - 1 - i) else f i
theorem rv_0 {c : Nat} {f : Nat → Int32} : rv 0 c f = f := by
  funext i
  unfold rv
  rw [if_neg (by omega)]
theorem rv_s {j c : Nat} {f : Nat → Int32} (h : j < c / 2) : upd (upd (rv j c f) j (rv j c f (c - 1 - j))) (c - 1 - j) (rv j c f j) = rv (j + 1) c f := by
  have e1 : rv j c f j = f j := by
    unfold rv
    rw [if_neg (by omega)]
  have e2 : rv j c f (c - 1 - j) = f (c - 1 - j) := by
    unfold rv
    rw [if_neg (by omega)]
  rw [e1, e2]
  funext i
  unfold upd
  by_cases h1 : i = c - 1 - j
  · rw [if_pos h1]
    unfold rv
    rw [if_pos (by omega), show c - 1 - i = j by omega]
  · rw [if_neg h1]
    by_cases h2 : i = j
    · rw [if_pos h2]
      unfold rv
      rw [if_pos (by omega), h2]
    · rw [if_neg h2]
      unfold rv
      by_cases h3 : i < c ∧ (i < j ∨ c ≤ i + j)
      · rw [if_pos h3, if_pos (by omega)]
      · rw [if_neg h3, if_neg (by omega)]
theorem rv_end {c i : Nat} {f : Nat → Int32} (h : i < c) : rv (c / 2) c f i = f (c - 1 - i) := by
  unfold rv
  by_cases h1 : i < c ∧ (i < c / 2 ∨ c ≤ i + c / 2)
  · rw [if_pos h1]
  · rw [if_neg h1, show c - 1 - i = i by omega]
theorem turn_loop {h c : Nat} {f : Nat → Int32} (hc : c ≤ 16) : ∀ (d j fu : Nat) (st : fkS), j + d = c / 2 → d < fu → gI st 124 h = nI c → gA st (h + 2) = rv j c f →
    fk_lp1 (B6_turn_2 h) fu (nI j) st = some ((), sAF st (h + 2) (rv (c / 2) c f)) := by
  intro d
  induction d with
  | zero =>
    intro j fu st hj hf hI hA
    obtain ⟨m, rfl⟩ : ∃ m, fu = m + 1 := ⟨fu - 1, by omega⟩
    obtain rfl : j = c / 2 := by omega
    rw [fk_lp1_s]
    simp only [B6_turn_2, fk_let_e, hI]
    rw [zl2, pk_div (by omega) (by omega) (by omega), if_pos (Int32.le_refl _), ← hA, sAF_self]
  | succ d ih =>
    intro j fu st hj hf hI hA
    obtain ⟨m, rfl⟩ : ∃ m, fu = m + 1 := ⟨fu - 1, by omega⟩
    rw [fk_lp1_s]
    have h1 : ¬ nI (c / 2) ≤ nI j := by
      rw [nI_leI (by omega) (by omega)]
      omega
    simp only [B6_turn_2, fk_let_e, hI]
    rw [zl2, pk_div (by omega) (by omega) (by omega), if_neg h1, zl1, pk_sub (by omega), pk_sub (by omega), swap_ok (by omega) (by omega), fk_bind_some, ← zl1, nI_1, hA, rv_s (by omega)]
    rw [ih (j + 1) m _ (by omega) (by omega) (by rw [gI_sAF]; exact hI) gA_same, sAF_sAF]
theorem turn_ok {h c : Nat} {st : fkS} (hc : c ≤ 16) (hI : gI st 124 h = nI c) : F6_turn h st = some ((), sAF st (h + 2) (rv (c / 2) c (gA st (h + 2)))) := by
  unfold F6_turn
  rw [zl0, turn_loop (f := gA st (h + 2)) hc (c / 2) 0 fk_fuel st (by omega) (by unfold fk_fuel; omega) hI rv_0.symm]
/-- each twice -/
def db (d c : Nat) (f : Nat → Int32) : Nat → Int32 := fun i => if 2 * d ≤ i ∧ i < 2 * c then f (i / 2) else f i
theorem db_c {c : Nat} {f : Nat → Int32} : db c c f = f := by
  funext i
  unfold db
  rw [if_neg (by omega)]
theorem db_s {d c : Nat} {f : Nat → Int32} (h : d < c) : upd (upd (db (d + 1) c f) (2 * d + 1) (f d)) (2 * d) (f d) = db d c f := by
  funext i
  unfold upd
  by_cases h1 : i = 2 * d
  · rw [if_pos h1]
    unfold db
    rw [if_pos (by omega), show i / 2 = d by omega]
  · rw [if_neg h1]
    by_cases h2 : i = 2 * d + 1
    · rw [if_pos h2]
      unfold db
      rw [if_pos (by omega), show i / 2 = d by omega]
    · rw [if_neg h2]
      unfold db
      by_cases h3 : 2 * (d + 1) ≤ i ∧ i < 2 * c
      · rw [if_pos h3, if_pos (by omega)]
      · rw [if_neg h3, if_neg (by omega)]
theorem double_loop {h c : Nat} {f : Nat → Int32} (hc : c ≤ 8) : ∀ (d fu : Nat) (st : fkS), d ≤ c → d < fu → gI st 124 h = nI c → gA st (h + 2) = db d c f →
    fk_lp1 (B6_doubleEach_12 h) fu (nI d - 1) st = some ((), sAF (sI st 124 h (nI (2 * c))) (h + 2) (db 0 c f)) := by
  intro d
  induction d with
  | zero =>
    intro fu st hj hf hI hA
    obtain ⟨m, rfl⟩ : ∃ m, fu = m + 1 := ⟨fu - 1, by omega⟩
    rw [fk_lp1_s]
    simp only [B6_doubleEach_12, fk_let_e, hI]
    rw [if_pos (by decide), zl8, fk_min_nI (by omega) (by omega), zl2, pk_mul, show 2 * min c 8 = 2 * c by omega, ← hA, ← gA_sI (s := st) (f := 124) (i := h) (v := nI (2 * c)), sAF_self]
  | succ d ih =>
    intro fu st hj hf hI hA
    obtain ⟨m, rfl⟩ : ∃ m, fu = m + 1 := ⟨fu - 1, by omega⟩
    rw [fk_lp1_s, nI_pred]
    have e1 : db (d + 1) c f d = f d := by
      unfold db
      rw [if_neg (by omega)]
    have e2 : nI d + (-1) = nI d - 1 := (Int32.sub_eq_add_neg _ _).symm
    simp only [B6_doubleEach_12, fk_let_e]
    rw [if_neg (nI_pos (by omega)), fk_chk_in (by omega) (by omega), nI_clamp (by omega), zl2, pk_mul, nI_1, fk_chk_in (by omega) (by omega), nI_clamp (by omega), fk_chk_in (by omega) (by omega), fk_chk_in (by omega) (by omega), nI_clamp (by omega)]
    rw [sA_def, sA_def, sAF_sAF, gA_same, hA, e1]
    rw [show upd (db (d + 1) c f) (2 * d + 1) (f d) d = f d from by unfold upd; rw [if_neg (by omega), e1], db_s (by omega), e2]
    rw [ih m _ (by omega) (by omega) (by rw [gI_sAF]; exact hI) gA_same, sI_sAF, sAF_sAF]
theorem double_ok {h c : Nat} {st : fkS} (hc : c ≤ 8) (hI : gI st 124 h = nI c) : F6_doubleEach h st = some ((), sAF (sI st 124 h (nI (2 * c))) (h + 2) (db 0 c (gA st (h + 2)))) := by
  simp only [F6_doubleEach, fk_let_e, hI]
  rw [zl8, fk_min_nI (by omega) (by omega), show min c 8 = c by omega, double_loop (f := gA st (h + 2)) hc c fk_fuel st (by omega) (by unfold fk_fuel; omega) hI db_c.symm]
/-- each second -/
def kp (j : Nat) (f : Nat → Int32) : Nat → Int32 := fun i => if i < j then f (2 * i + 1) else f i
theorem kp_s {j : Nat} {f : Nat → Int32} : upd (kp j f) j (kp j f (2 * j + 1)) = kp (j + 1) f := by
  funext i
  unfold upd kp
  by_cases h1 : i = j
  · rw [if_pos h1, if_neg (by omega), if_pos (by omega), h1]
  · rw [if_neg h1]
    by_cases h2 : i < j
    · rw [if_pos h2, if_pos (by omega)]
    · rw [if_neg h2, if_neg (by omega)]
theorem kp_0 {f : Nat → Int32} : kp 0 f = f := by
  funext i
  unfold kp
  rw [if_neg (by omega)]
theorem keep_loop {h c : Nat} {f : Nat → Int32} (hc : c ≤ 7) : ∀ (d j fu : Nat) (st : fkS), j + d = c → d < fu → gI st 124 h = nI c → gA st (h + 2) = kp j f →
    fk_lp1 (B6_keepEachSecond_12 h) fu (nI j) st = some ((), sAF st (h + 2) (kp c f)) := by
  intro d
  induction d with
  | zero =>
    intro j fu st hj hf hI hA
    obtain ⟨m, rfl⟩ : ∃ m, fu = m + 1 := ⟨fu - 1, by omega⟩
    obtain rfl : j = c := by omega
    rw [fk_lp1_s]
    simp only [B6_keepEachSecond_12, fk_let_e, hI]
    rw [if_pos (Int32.le_refl _), ← hA, sAF_self]
  | succ d ih =>
    intro j fu st hj hf hI hA
    obtain ⟨m, rfl⟩ : ∃ m, fu = m + 1 := ⟨fu - 1, by omega⟩
    rw [fk_lp1_s]
    have h1 : ¬ nI c ≤ nI j := by
      rw [nI_leI (by omega) (by omega)]
      omega
    simp only [B6_keepEachSecond_12, fk_let_e, hI]
    have h16 : ¬ (16 : Int32) ≤ nI (2 * j + 1) := by
      rw [zl16, nI_leI (by omega) (by omega)]
      omega
    rw [if_neg h1, zl2, pk_mul, nI_1, nI_1, if_neg h16, fk_chk_in (by omega) (by omega), fk_chk_in (by omega) (by omega), nI_clamp (by omega), nI_clamp (by omega), sA_def, hA, kp_s]
    rw [ih (j + 1) m _ (by omega) (by omega) (by rw [gI_sAF]; exact hI) gA_same, sAF_sAF]
theorem keep_ok {h c : Nat} {st : fkS} (hc : c ≤ 15) (hI : gI st 124 h = nI c) : F6_keepEachSecond h st = some ((), sAF (sI st 124 h (nI (c / 2))) (h + 2) (kp (c / 2) (gA st (h + 2)))) := by
  simp only [F6_keepEachSecond, fk_let_e, hI]
  rw [zl2, pk_div (by omega) (by omega) (by omega), zl0, keep_loop (c := c / 2) (f := gA st (h + 2)) (by omega) (c / 2) 0 fk_fuel _ (by omega) (by unfold fk_fuel; omega) gI_same (by rw [gA_sI, kp_0])]
/-- in order -/
def ins1 : Nat → (Nat → Int32) → (Nat → Int32)
  | 0, f => f
  | k + 1, f => if f k ≤ f (k + 1) then f else ins1 k (upd (upd f k (f (k + 1))) (k + 1) (f k))
def srt : Nat → Nat → (Nat → Int32) → (Nat → Int32)
  | 0, _, f => f
  | d + 1, j, f => srt d (j + 1) (ins1 j f)
theorem order_in {h : Nat} {k2 : Int32 → fkS → Option (Unit × fkS)} {v1 : Int32} : ∀ (k fu : Nat) (st : fkS), k < 16 → k < fu →
    fk_lp2 (B6_order_21 h k2) fu v1 (nI k) st = k2 (v1 + 1) (sAF st (h + 2) (ins1 k (gA st (h + 2)))) := by
  intro k
  induction k with
  | zero =>
    intro fu st h1 h2
    obtain ⟨m, rfl⟩ : ∃ m, fu = m + 1 := ⟨fu - 1, by omega⟩
    rw [fk_lp2_s]
    simp only [B6_order_21, B6_order_56]
    rw [if_pos (by decide), ins1, sAF_self]
  | succ k ih =>
    intro fu st h1 h2
    obtain ⟨m, rfl⟩ : ∃ m, fu = m + 1 := ⟨fu - 1, by omega⟩
    rw [fk_lp2_s]
    simp only [B6_order_21, B6_order_56, fk_let_e]
    rw [if_neg (nI_nle (by omega) (by omega)), nI_pred, fk_chk_in (by omega) (by omega), fk_chk_in (by omega) (by omega), nI_clamp (by omega), nI_clamp (by omega), pk_m1]
    by_cases h3 : gA st (h + 2) k ≤ gA st (h + 2) (k + 1)
    · rw [if_pos h3, ins1, if_pos h3, sAF_self]
    · rw [if_neg h3, ins1, if_neg h3, swap_ok (by omega) (by omega), fk_bind_some, ih m _ (by omega) (by omega), sAF_sAF, gA_same]
theorem order_loop {h c : Nat} (hc : c ≤ 16) : ∀ (d j fu : Nat) (st : fkS), c = j + d ∨ (d = 0 ∧ c ≤ j ∧ j ≤ 16) → d < fu → gI st 124 h = nI c →
    fk_lp1 (B6_order_2 h) fu (nI j) st = some ((), sAF st (h + 2) (srt d j (gA st (h + 2)))) := by
  intro d
  induction d with
  | zero =>
    intro j fu st hj hf hI
    obtain ⟨m, rfl⟩ : ∃ m, fu = m + 1 := ⟨fu - 1, by omega⟩
    rw [fk_lp1_s]
    simp only [B6_order_2, fk_let_e, hI]
    rw [if_pos ((nI_leI (by omega) (by omega)).mpr (by omega)), srt, sAF_self]
  | succ d ih =>
    intro j fu st hj hf hI
    obtain ⟨m, rfl⟩ : ∃ m, fu = m + 1 := ⟨fu - 1, by omega⟩
    rw [fk_lp1_s]
    have h1 : ¬ nI c ≤ nI j := by
      rw [nI_leI (by omega) (by omega)]
      omega
    simp only [B6_order_2, fk_let_e, hI]
    have h16 : ¬ (16 : Int32) ≤ nI j := by
      rw [zl16, nI_leI (by omega) (by omega)]
      omega
    rw [if_neg h1, if_neg h16, order_in j fk_fuel st (by omega) (by unfold fk_fuel; omega), nI_1, ih (j + 1) m _ (by omega) (by omega) (by rw [gI_sAF]; exact hI), srt, sAF_sAF, gA_same]
theorem order_ok {h c : Nat} {st : fkS} (hc : c ≤ 16) (hI : gI st 124 h = nI c) : F6_order h st = some ((), sAF st (h + 2) (srt (c - 1) 1 (gA st (h + 2)))) := by
  unfold F6_order
  rw [zl1, order_loop hc (c - 1) 1 fk_fuel st (by omega) (by unfold fk_fuel; omega) hI]
