/-! WHAT IS SAID: the class's voice, what it brings -/
def rg (x : Int32) (n : Nat) : Prop := ∃ a, a < n ∧ x = nI a
theorem rg_le {x : Int32} {a b : Nat} (h : rg x a) (hab : a ≤ b) : rg x b := by
  obtain ⟨c, h1, h2⟩ := h
  exact ⟨c, by omega, h2⟩
theorem rg_nI {a n : Nat} (h : a < n) : rg (nI a) n := ⟨a, h, rfl⟩
def sayN (kd m : Nat) : Nat := if kd = 5 then 2 * m else if kd = 6 then m / 2 else m
def sayF (kd m : Nat) (a : Int32) (b : Nat → Int32) : Nat → Int32 :=
  if kd = 1 then fun i => cn (b i) else if kd = 2 then fun i => b (m - 1 - i) else if kd = 3 then fun i => ra a (cn (b i)) else if kd = 4 then srt (m - 1) 1 b
  else if kd = 5 then fun i => b (m - 1 - i / 2) else if kd = 6 then fun i => ra a (cn (b (2 * i + 1))) else b
theorem ins1_eq : ∀ (k c : Nat) (f g : Nat → Int32), k < c → (∀ i, i < c → f i = g i) → ∀ i, i < c → ins1 k f i = ins1 k g i := by
  intro k
  induction k with
  | zero => intro c f g _ h i hi; exact h i hi
  | succ k ih =>
    intro c f g hk h i hi
    unfold ins1
    rw [h k (by omega), h (k + 1) hk]
    by_cases q : g k ≤ g (k + 1)
    · rw [if_pos q, if_pos q]
      exact h i hi
    · rw [if_neg q, if_neg q]
      refine ih c _ _ (by omega) (fun j hj => ?_) i hi
      unfold upd
      by_cases q1 : j = k + 1
      · rw [if_pos q1, if_pos q1]
      · rw [if_neg q1, if_neg q1]
        by_cases q2 : j = k
        · rw [if_pos q2, if_pos q2]
        · rw [if_neg q2, if_neg q2, h j hj]
theorem srt_eq : ∀ (d j c : Nat) (f g : Nat → Int32), j + d ≤ c → (∀ i, i < c → f i = g i) → ∀ i, i < c → srt d j f i = srt d j g i := by
  intro d
  induction d with
  | zero => intro j c f g _ h i hi; exact h i hi
  | succ d ih =>
    intro j c f g hj h i hi
    unfold srt
    exact ih (j + 1) c _ _ (by omega) (ins1_eq j c f g (by omega) h) i hi
theorem ins1_all (P : Int32 → Prop) : ∀ (k c : Nat) (f : Nat → Int32), k < c → (∀ i, i < c → P (f i)) → ∀ i, i < c → P (ins1 k f i) := by
  intro k
  induction k with
  | zero => intro c f _ h i hi; exact h i hi
  | succ k ih =>
    intro c f hk h i hi
    unfold ins1
    by_cases q : f k ≤ f (k + 1)
    · rw [if_pos q]
      exact h i hi
    · rw [if_neg q]
      refine ih c _ (by omega) (fun j hj => ?_) i hi
      unfold upd
      by_cases q1 : j = k + 1
      · rw [if_pos q1]
        exact h k (by omega)
      · rw [if_neg q1]
        by_cases q2 : j = k
        · rw [if_pos q2]
          exact h (k + 1) (by omega)
        · rw [if_neg q2]
          exact h j hj
theorem srt_all (P : Int32 → Prop) : ∀ (d j c : Nat) (f : Nat → Int32), j + d ≤ c → (∀ i, i < c → P (f i)) → ∀ i, i < c → P (srt d j f i) := by
  intro d
  induction d with
  | zero => intro j c f _ h i hi; exact h i hi
  | succ d ih =>
    intro j c f hj h i hi
    unfold srt
    exact ih (j + 1) c _ (by omega) (ins1_all P j c f (by omega) h) i hi
theorem ini_in {j c i : Nat} {F f : Nat → Int32} (h1 : j ≤ i) (h2 : i < c) : ini j c F f i = F i := by
  unfold ini
  rw [if_pos ⟨h1, h2⟩]
theorem mp_in {j c i : Nat} {F : Int32 → Int32} {f : Nat → Int32} (h1 : j ≤ i) (h2 : i < c) : mp j c F f i = F (f i) := by
  unfold mp
  rw [if_pos ⟨h1, h2⟩]
/-- the voice h speaks of the pie -/
theorem speak_ok {h n hN kd : Nat} {st : fkS} (hh : h = 40 ∨ h = 41) (hn : n ≤ 8) (hhN : hN < 10) (hkd : kd < 7) (h1 : gI st 61 38 = nI n) (h2 : gI st 123 h = nI hN) (h3 : gI st 120 h = nI kd) :
    ∃ arr : Nat → Int32, F6_speak h st = some ((), sAF (sI st 124 h (nI (sayN kd (min n hN)))) (h + 2) arr) ∧ ∀ i, i < sayN kd (min n hN) → arr i = sayF kd (min n hN) (gI st 121 h) (sg (nI hN) (gI st 122 h) (gA st 39)) i := by
  have hs := say_ok (st := st) hh hn hhN h1 h2
  have h3' : ∀ (v : Int32) (u : Nat → Int32), gI (sAF (sI st 124 h v) (h + 2) u) 120 h = nI kd := fun v u => by
    rw [gI_sAF, gI_nf (by decide)]
    exact h3
  have h4' : ∀ (v : Int32) (u : Nat → Int32), gI (sAF (sI st 124 h v) (h + 2) u) 121 h = gI st 121 h := fun v u => by
    rw [gI_sAF, gI_nf (by decide)]
  have h5' : ∀ (v : Int32) (u : Nat → Int32), gI (sAF (sI st 124 h v) (h + 2) u) 124 h = v := fun v u => by
    rw [gI_sAF, gI_same]
  generalize hm : min n hN = m at hs ⊢
  generalize hb : sg (nI hN) (gI st 122 h) (gA st 39) = b at hs ⊢
  have hm8 : m ≤ 8 := by omega
  unfold F6_speak
  rw [hs, fk_bind_some]
  simp only [fk_let_e, h3']
  rcases (show kd = 0 ∨ kd = 1 ∨ kd = 2 ∨ kd = 3 ∨ kd = 4 ∨ kd = 5 ∨ kd = 6 by omega) with rfl | rfl | rfl | rfl | rfl | rfl | rfl
  · rw [if_neg (by decide), if_neg (by decide), if_neg (by decide), if_neg (by decide), if_neg (by decide), if_neg (by decide)]
    exact ⟨_, rfl, fun i hi => ini_in (Nat.zero_le _) hi⟩
  · rw [if_pos (by decide), chip_ok (c := m) (by omega) (h5' _ _), fk_bind_some, sAF_sAF, gA_same]
    refine ⟨_, rfl, fun i hi => ?_⟩
    have hi : i < m := hi
    rw [mp_in (Nat.zero_le _) hi, ini_in (Nat.zero_le _) hi]
    rfl
  · rw [if_neg (by decide), if_pos (by decide), turn_ok (c := m) (by omega) (h5' _ _), fk_bind_some, sAF_sAF, gA_same]
    refine ⟨_, rfl, fun i hi => ?_⟩
    have hi : i < m := hi
    rw [rv_end hi, ini_in (Nat.zero_le _) (by omega)]
    rfl
  · rw [if_neg (by decide), if_neg (by decide), if_pos (by decide), chip_ok (c := m) (by omega) (h5' _ _), fk_bind_some, sAF_sAF, gA_same, raise_ok (c := m) (by omega) (h5' _ _), fk_bind_some, sAF_sAF, gA_same, h4']
    refine ⟨_, rfl, fun i hi => ?_⟩
    have hi : i < m := hi
    rw [mp_in (Nat.zero_le _) hi, mp_in (Nat.zero_le _) hi, ini_in (Nat.zero_le _) hi]
    rfl
  · rw [if_neg (by decide), if_neg (by decide), if_neg (by decide), if_pos (by decide), order_ok (c := m) (by omega) (h5' _ _), fk_bind_some, sAF_sAF, gA_same]
    refine ⟨_, rfl, fun i hi => ?_⟩
    have hi : i < m := hi
    exact srt_eq (m - 1) 1 m _ _ (by omega) (fun j hj => ini_in (Nat.zero_le _) hj) i hi
  · rw [if_neg (by decide), if_neg (by decide), if_neg (by decide), if_neg (by decide), if_pos (by decide), turn_ok (c := m) (by omega) (h5' _ _), fk_bind_some, sAF_sAF, gA_same, double_ok (c := m) (by omega) (h5' _ _), fk_bind_some, sI_sAF, sAF_sAF, sI_sI, gA_same]
    refine ⟨_, rfl, fun i hi => ?_⟩
    have hi : i < 2 * m := hi
    unfold db
    rw [if_pos (by omega), rv_end (by omega), ini_in (Nat.zero_le _) (by omega)]
    rfl
  · rw [if_neg (by decide), if_neg (by decide), if_neg (by decide), if_neg (by decide), if_neg (by decide), if_pos (by decide), chip_ok (c := m) (by omega) (h5' _ _), fk_bind_some, sAF_sAF, gA_same, raise_ok (c := m) (by omega) (h5' _ _), fk_bind_some, sAF_sAF, gA_same, h4', keep_ok (c := m) (by omega) (h5' _ _), fk_bind_some, sI_sAF, sAF_sAF, sI_sI, gA_same]
    refine ⟨_, rfl, fun i hi => ?_⟩
    have hi : i < m / 2 := hi
    unfold kp
    rw [if_pos hi, mp_in (Nat.zero_le _) (by omega), mp_in (Nat.zero_le _) (by omega), ini_in (Nat.zero_le _) (by omega)]
    rfl
/-! ranges of signs -/
theorem rem_rg {x : Int32} {n d : Nat} (h : rg x n) (hn : n ≤ 2 ^ 31) (h0 : 0 < d) (hd : d < 2 ^ 31) : rg (fk_rem x (nI d)) d := by
  obtain ⟨a, h1, rfl⟩ := h
  rw [fk_rem_nI (by omega) h0 hd]
  exact rg_nI (Nat.mod_lt _ h0)
theorem sg_rg {he mo : Int32} {p : Nat → Int32} {i : Nat} (h1 : rg he 10) (h2 : rg mo 20) (h3 : rg (p i) 10) : rg (sg he mo p i) 20 := by
  obtain ⟨a, ha, e1⟩ := h1
  obtain ⟨b, hb, e2⟩ := h2
  obtain ⟨c, hc, e3⟩ := h3
  unfold sg
  rw [e1, e2, e3, zl2, pk_mul, nI_add, nI_add, zl20]
  exact rem_rg (n := 100) (rg_nI (by omega)) (by decide) (by decide) (by decide)
theorem cn_rg {x : Int32} (h : rg x 20) : rg (cn x) 20 := by
  obtain ⟨a, ha, rfl⟩ := h
  unfold cn
  split
  · rw [nI_1, zl20]
    exact rem_rg (n := 100) (rg_nI (by omega)) (by decide) (by decide) (by decide)
  · exact rg_nI ha
theorem ra_rg {a x : Int32} (h : rg x 20) (ha : rg a 10) : rg (ra a x) 20 := by
  obtain ⟨b, hb, rfl⟩ := h
  obtain ⟨c, hc, rfl⟩ := ha
  unfold ra
  rw [nI_add, zl20]
  exact rem_rg (n := 100) (rg_nI (by omega)) (by decide) (by decide) (by decide)
theorem sayF_rg {kd m : Nat} {a : Int32} {b : Nat → Int32} (ha : rg a 10) (hb : ∀ i, i < m → rg (b i) 20) : ∀ i, i < sayN kd m → rg (sayF kd m a b i) 20 := by
  intro i hi
  unfold sayN at hi
  unfold sayF
  by_cases q1 : kd = 1
  · subst q1
    rw [if_pos rfl]
    exact cn_rg (hb i (by simpa using hi))
  · rw [if_neg q1]
    by_cases q2 : kd = 2
    · subst q2
      rw [if_pos rfl]
      have hi : i < m := by simpa using hi
      exact hb _ (by omega)
    · rw [if_neg q2]
      by_cases q3 : kd = 3
      · subst q3
        rw [if_pos rfl]
        exact ra_rg (cn_rg (hb i (by simpa using hi))) ha
      · rw [if_neg q3]
        by_cases q4 : kd = 4
        · subst q4
          rw [if_pos rfl]
          have hi : i < m := by simpa using hi
          exact srt_all (fun x => rg x 20) (m - 1) 1 m b (by omega) hb i hi
        · rw [if_neg q4]
          by_cases q5 : kd = 5
          · rw [if_pos q5] at hi ⊢
            exact hb _ (by omega)
          · rw [if_neg q5] at hi ⊢
            by_cases q6 : kd = 6
            · rw [if_pos q6] at hi ⊢
              exact ra_rg (cn_rg (hb _ (by omega))) ha
            · rw [if_neg q6] at hi ⊢
              exact hb i hi
theorem sayN_le {kd m : Nat} (h : m ≤ 8) : sayN kd m ≤ 16 := by
  unfold sayN
  split
  · omega
  · split <;> omega
/-! what it brings -/
def goE (tb : Nat → Int32) (f : Nat → Int32) : Nat → Nat → Int32 → Int32
  | 0, _, s => s
  | d + 1, j, s => goE tb f d (j + 1) (tb ((s * 5) + fk_rem (f j) 5).toNatClampNeg)
def ilE (tb : Nat → Int32) (tr : Int32) (f : Nat → Int32) : Nat → Nat → Int32 → Int32 → Int32
  | 0, _, _, acc => acc
  | d + 1, j, s, acc => ilE tb tr f d (j + 1) (tb ((s * 5) + fk_rem (f j) 5).toNatClampNeg) (acc + ((tr >>> (tb ((s * 5) + fk_rem (f j) 5).toNatClampNeg &&& 31)) &&& 1))
theorem goE_eq {tb tb' : Nat → Int32} {f g : Nat → Int32} {c : Nat} (ht : ∀ i, i < 40 → tb i = tb' i) (htr : ∀ i, i < 40 → rg (tb i) 8) (h : ∀ i, i < c → f i = g i) (hr : ∀ i, i < c → rg (f i) 20) : ∀ (d j : Nat) (s : Int32), j + d ≤ c → rg s 8 → goE tb f d j s = goE tb' g d j s ∧ rg (goE tb f d j s) 8 := by
  intro d
  induction d with
  | zero => intro j s _ hs; exact ⟨rfl, hs⟩
  | succ d ih =>
    intro j s hj hs
    unfold goE
    have h1 := h j (by omega)
    have h2 := rem_rg (hr j (by omega)) (d := 5) (by decide) (by decide) (by decide)
    have hx : ((s * 5) + fk_rem (f j) 5).toNatClampNeg < 40 := by
      obtain ⟨a, ha, e1⟩ := hs
      obtain ⟨b, hb, e2⟩ := h2
      rw [← zl5] at e2
      rw [e1, e2, zl5, pk_mul, nI_add, nI_clamp (by omega)]
      omega
    rw [← h1, ← ht _ hx]
    exact ih (j + 1) _ (by omega) (htr _ hx)
theorem ilE_eq {tb tb' : Nat → Int32} {tr : Int32} {f g : Nat → Int32} {c : Nat} (ht : ∀ i, i < 40 → tb i = tb' i) (htr : ∀ i, i < 40 → rg (tb i) 8) (h : ∀ i, i < c → f i = g i) (hr : ∀ i, i < c → rg (f i) 20) : ∀ (d j : Nat) (s acc : Int32), j + d ≤ c → rg s 8 → ilE tb tr f d j s acc = ilE tb' tr g d j s acc := by
  intro d
  induction d with
  | zero => intro j s acc _ hs; rfl
  | succ d ih =>
    intro j s acc hj hs
    unfold ilE
    have h1 := h j (by omega)
    have h2 := rem_rg (hr j (by omega)) (d := 5) (by decide) (by decide) (by decide)
    have hx : ((s * 5) + fk_rem (f j) 5).toNatClampNeg < 40 := by
      obtain ⟨a, ha, e1⟩ := hs
      obtain ⟨b, hb, e2⟩ := h2
      rw [← zl5] at e2
      rw [e1, e2, zl5, pk_mul, nI_add, nI_clamp (by omega)]
      omega
    rw [← h1, ← ht _ hx]
    exact ih (j + 1) _ _ (by omega) (htr _ hx)
theorem coming_ok {o : Nat} {s r : Int32} {st : fkS} (hs : rg s 8) (hr : rg r 5) : F0_comingBy o s r st = some (gA st (o + 12) ((s * 5) + r).toNatClampNeg, st) := by
  obtain ⟨a, ha, rfl⟩ := hs
  obtain ⟨b, hb, rfl⟩ := hr
  have e1 : ¬ (8 : Int32) ≤ nI a := by
    rw [zl8, nI_leI (by omega) (by omega)]
    omega
  have e2 : nI b < (5 : Int32) := by
    rw [zl5, nI_ltI (by omega) (by omega)]
    omega
  unfold F0_comingBy
  rw [if_neg (nI_pos (by omega)), if_neg e1, if_neg (nI_pos (by omega)), if_pos e2, zl5, pk_mul, nI_add, fk_chk_in (by omega) (by omega)]
  rfl
theorem end_loop {h o c : Nat} {st : fkS} (hc : c ≤ 16) (h1 : gI st 124 o = nI c) (h2 : ∀ i, i < c → rg (gA st (o + 2) i) 20) (h3 : ∀ i, i < 40 → rg (gA st (h + 12) i) 8) : ∀ (d j fu : Nat) (s : Int32), j + d = c → d < fu → rg s 8 →
    fk_lp2 (B0_endOf_5 h o) fu s (nI j) st = some (goE (gA st (h + 12)) (gA st (o + 2)) d j s, st) := by
  intro d
  induction d with
  | zero =>
    intro j fu s hj hf hs
    obtain ⟨m, rfl⟩ : ∃ m, fu = m + 1 := ⟨fu - 1, by omega⟩
    obtain rfl : j = c := by omega
    rw [fk_lp2_s]
    simp only [B0_endOf_5, fk_let_e, h1]
    rw [if_pos (Int32.le_refl _)]
    rfl
  | succ d ih =>
    intro j fu s hj hf hs
    obtain ⟨m, rfl⟩ : ∃ m, fu = m + 1 := ⟨fu - 1, by omega⟩
    have q1 : ¬ nI c ≤ nI j := by
      rw [nI_leI (by omega) (by omega)]
      omega
    have q2 : ¬ (16 : Int32) ≤ nI j := by
      rw [zl16, nI_leI (by omega) (by omega)]
      omega
    have r5 : rg (fk_rem (gA st (o + 2) j) 5) 5 := rem_rg (h2 j (by omega)) (by decide) (by decide) (by decide)
    rw [fk_lp2_s]
    simp only [B0_endOf_5, fk_let_e, h1]
    rw [if_neg q1, if_neg q2, fk_chk_in (by omega) (by omega), nI_clamp (by omega), coming_ok hs r5, fk_bind_some, nI_1]
    have hx : ((s * 5) + fk_rem (gA st (o + 2) j) 5).toNatClampNeg < 40 := by
      obtain ⟨a, ha, e1⟩ := hs
      obtain ⟨b, hb, e2⟩ := r5
      rw [e1, e2, zl5, pk_mul, nI_add, nI_clamp (by omega)]
      omega
    rw [ih (j + 1) m _ (by omega) (by omega) (h3 _ hx)]
    rfl
theorem end_ok {h o c : Nat} {st : fkS} {s : Int32} (hc : c ≤ 16) (h1 : gI st 124 o = nI c) (h2 : ∀ i, i < c → rg (gA st (o + 2) i) 20) (h3 : ∀ i, i < 40 → rg (gA st (h + 12) i) 8) (hs : rg s 8) : F0_endOf h o s st = some (goE (gA st (h + 12)) (gA st (o + 2)) c 0 s, st) := by
  unfold F0_endOf
  rw [zl0, end_loop hc h1 h2 h3 c 0 fk_fuel s (by omega) (by unfold fk_fuel; omega) hs]
theorem ill_loop {h o c : Nat} {st : fkS} (hc : c ≤ 16) (h1 : gI st 124 o = nI c) (h2 : ∀ i, i < c → rg (gA st (o + 2) i) 20) (h3 : ∀ i, i < 40 → rg (gA st (h + 12) i) 8) : ∀ (d j fu : Nat) (s acc : Int32), j + d = c → d < fu → rg s 8 →
    fk_lp3 (B0_illsOf_10 h o) fu s acc (nI j) st = some (ilE (gA st (h + 12)) (gI st 7 h) (gA st (o + 2)) d j s acc, st) := by
  intro d
  induction d with
  | zero =>
    intro j fu s acc hj hf hs
    obtain ⟨m, rfl⟩ : ∃ m, fu = m + 1 := ⟨fu - 1, by omega⟩
    obtain rfl : j = c := by omega
    rw [fk_lp3_s]
    simp only [B0_illsOf_10, fk_let_e, h1]
    rw [if_pos (Int32.le_refl _)]
    rfl
  | succ d ih =>
    intro j fu s acc hj hf hs
    obtain ⟨m, rfl⟩ : ∃ m, fu = m + 1 := ⟨fu - 1, by omega⟩
    have q1 : ¬ nI c ≤ nI j := by
      rw [nI_leI (by omega) (by omega)]
      omega
    have q2 : ¬ (16 : Int32) ≤ nI j := by
      rw [zl16, nI_leI (by omega) (by omega)]
      omega
    have r5 : rg (fk_rem (gA st (o + 2) j) 5) 5 := rem_rg (h2 j (by omega)) (by decide) (by decide) (by decide)
    rw [fk_lp3_s]
    simp only [B0_illsOf_10, fk_let_e, h1]
    rw [if_neg q1, if_neg q2, fk_chk_in (by omega) (by omega), nI_clamp (by omega), coming_ok hs r5, fk_bind_some, nI_1]
    have hx : ((s * 5) + fk_rem (gA st (o + 2) j) 5).toNatClampNeg < 40 := by
      obtain ⟨a, ha, e1⟩ := hs
      obtain ⟨b, hb, e2⟩ := r5
      rw [e1, e2, zl5, pk_mul, nI_add, nI_clamp (by omega)]
      omega
    rw [ih (j + 1) m _ _ (by omega) (by omega) (h3 _ hx)]
    rfl
theorem ill_ok {h o c : Nat} {st : fkS} (hc : c ≤ 16) (h1 : gI st 124 o = nI c) (h2 : ∀ i, i < c → rg (gA st (o + 2) i) 20) (h3 : ∀ i, i < 40 → rg (gA st (h + 12) i) 8) (hs : rg (gI st 6 h) 8) : F0_illsOf h o st = some (ilE (gA st (h + 12)) (gI st 7 h) (gA st (o + 2)) c 0 (gI st 6 h) 0, st) := by
  simp only [F0_illsOf, fk_let_e]
  rw [zl0, ill_loop hc h1 h2 h3 c 0 fk_fuel _ _ (by omega) (by unfold fk_fuel; omega) hs]
