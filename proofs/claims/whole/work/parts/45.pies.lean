/-! pies -/
theorem fk_lp7_s {α1 α2 α3 α4 α5 α6 α7 β γ : Type} (B : (α1 → α2 → α3 → α4 → α5 → α6 → α7 → β → Option γ) → α1 → α2 → α3 → α4 → α5 → α6 → α7 → β → Option γ) (n : Nat) (a : α1) (b : α2) (c : α3) (d : α4) (e : α5) (f : α6) (g : α7) (h : β) : fk_lp7 B (n + 1) a b c d e f g h = B (fk_lp7 B n) a b c d e f g h := rfl
def cU (J : Nat → Int32) : Nat → Nat → Int32 → Int32
  | 0, _, v => v
  | d + 1, j, v => cU J d (j + 1) (if J j = 0 then v else v + 1)
def cD (J : Nat → Int32) : Nat → Int32 → Int32
  | 0, v => v
  | j + 1, v => cD J j (if J j = 0 then v else v + 1)
def fst (J : Nat → Int32) : Nat → Nat → Option Nat
  | 0, _ => none
  | d + 1, j => if J j = 0 then fst J d (j + 1) else some j
def fD (J : Nat → Int32) : Nat → Int32 → Int32
  | 0, v => v
  | j + 1, v => fD J j (if J j = 0 then v else nI j)
theorem cD_s (J : Nat → Int32) (j : Nat) (v : Int32) : cD J (j + 1) v = cD J j (if J j = 0 then v else v + 1) := rfl
theorem cU_s (J : Nat → Int32) (d j : Nat) (v : Int32) : cU J (d + 1) j v = cU J d (j + 1) (if J j = 0 then v else v + 1) := rfl
theorem fst_s (J : Nat → Int32) (d j : Nat) : fst J (d + 1) j = (if J j = 0 then fst J d (j + 1) else some j) := rfl
theorem cU_last (J : Nat → Int32) : ∀ (d j : Nat) (v : Int32), cU J (d + 1) j v = (if J (j + d) = 0 then cU J d j v else cU J d j v + 1) := by
  intro d
  induction d with
  | zero => intro j v; rfl
  | succ d ih =>
    intro j v
    have h1 : cU J (d + 2) j v = cU J (d + 1) (j + 1) (if J j = 0 then v else v + 1) := rfl
    have h2 : cU J (d + 1) j v = cU J d (j + 1) (if J j = 0 then v else v + 1) := rfl
    rw [h1, h2, ih, show j + 1 + d = j + (d + 1) by omega]
theorem cD_add (J : Nat → Int32) : ∀ (j : Nat) (v : Int32), cD J j (v + 1) = cD J j v + 1 := by
  intro j
  induction j with
  | zero => intro v; rfl
  | succ j ih =>
    intro v
    rw [cD_s, cD_s]
    by_cases q : J j = 0
    · rw [if_pos q, if_pos q, ih]
    · rw [if_neg q, if_neg q, ih]
theorem cUD (J : Nat → Int32) : ∀ (d : Nat) (v : Int32), cU J d 0 v = cD J d v := by
  intro d
  induction d with
  | zero => intro v; rfl
  | succ d ih =>
    intro v
    rw [cU_last, Nat.zero_add, ih, cD_s]
    by_cases q : J d = 0
    · rw [if_pos q, if_pos q]
    · rw [if_neg q, if_neg q, cD_add]
theorem fst_last (J : Nat → Int32) : ∀ (d j : Nat), fst J (d + 1) j = (match fst J d j with | some i => some i | none => if J (j + d) = 0 then none else some (j + d)) := by
  intro d
  induction d with
  | zero => intro j; rfl
  | succ d ih =>
    intro j
    have h1 : fst J (d + 2) j = (if J j = 0 then fst J (d + 1) (j + 1) else some j) := rfl
    have h2 : fst J (d + 1) j = (if J j = 0 then fst J d (j + 1) else some j) := rfl
    rw [h1, h2]
    by_cases q : J j = 0
    · rw [if_pos q, if_pos q, ih, show j + 1 + d = j + (d + 1) by omega]
    · rw [if_neg q, if_neg q]
theorem fst_lt (J : Nat → Int32) : ∀ (d j i : Nat), fst J d j = some i → i < j + d := by
  intro d
  induction d with
  | zero => intro j i h; cases h
  | succ d ih =>
    intro j i h
    unfold fst at h
    by_cases q : J j = 0
    · rw [if_pos q] at h
      have := ih _ _ h
      omega
    · rw [if_neg q] at h
      cases h
      omega
theorem fD_eq (J : Nat → Int32) : ∀ (j : Nat) (v : Int32), fD J j v = (match fst J j 0 with | some i => nI i | none => v) := by
  intro j
  induction j with
  | zero => intro v; rfl
  | succ j ih =>
    intro v
    have h1 : fD J (j + 1) v = fD J j (if J j = 0 then v else nI j) := rfl
    rw [h1, ih, fst_last, Nat.zero_add]
    cases fst J j 0 with
    | some i => rfl
    | none =>
      by_cases q : J j = 0
      · simp only [q, if_true]
      · simp only [q, if_false]
def dgz (n i : Nat) : Nat → Int32 := dg n i (fun _ => 0)
def prA (J : Nat → Int32) (n : Nat) (v4 : Int32) (d j : Nat) (v : Int32) : Int32 := if v4 = -1 then cU J d j v else match fst J d j with | none => -1 | some i => dgz n i v4.toNatClampNeg
theorem ten1000 {n : Nat} (hn : n ≤ 3) : 10 ^ n ≤ 1000 := by
  obtain rfl | rfl | rfl | rfl : n = 0 ∨ n = 1 ∨ n = 2 ∨ n = 3 := by omega
  · decide
  · decide
  · decide
  · decide
theorem pies_up {c m : fkS} {b kd hN n s nL : Nat} {a mo v4 : Int32} {L : Nat → Int32} (hB : Bv c m b kd hN a mo) (hs : s < 8) (hn : n ≤ 3) (hnL : nL ≤ 160) (t6 : gI c 103 (3 + s) = nI nL) (t8 : ∀ j, j < nL → (gL c (3 + s + 8) j).toInt32 = L j) (hv : v4 = -1 ∨ rg v4 n) :
    ∀ (d j fu : Nat) (v : Int32) (c1 : fkS), j + d = 10 ^ n → d < fu → EqC c c1 → Vc 40 c1 kd hN a mo →
    ∃ c', fk_lp5 B7_pies_102 fu (nI s) (nI n) v4 v (nI j) c1 = some (prA (fun i => jus L nL kd hN n a mo (dgz n i)) n v4 d j v, c') ∧ EqC c c' := by
  have hten := ten1000 hn
  intro d
  induction d with
  | zero =>
    intro j fu v c1 hj hf hC hV
    obtain ⟨w, rfl⟩ : ∃ w, fu = w + 1 := ⟨fu - 1, by omega⟩
    obtain rfl : j = 10 ^ n := by omega
    refine ⟨c1, ?_, hC⟩
    rw [fk_lp5_s, B7_pies_102, ten_ok hn, fk_bind_some, if_pos Int32.le_rfl]
    unfold prA
    by_cases q : v4 = -1
    · rw [if_pos q, if_pos q]
      rfl
    · rw [if_neg q, if_neg q]
      rfl
  | succ d ih =>
    intro j fu v c1 hj hf hC hV
    obtain ⟨w, rfl⟩ : ∃ w, fu = w + 1 := ⟨fu - 1, by omega⟩
    have q1 : ¬ nI (10 ^ n) ≤ nI j := by
      rw [nI_leI (by omega) (by omega)]
      omega
    have hC2 : EqC c (sAF (sI c1 61 38 (nI n)) 39 (dg n j (gA c1 39))) := (hC.sI rfl).sA rfl
    obtain ⟨c', s1, s2, s3, s4⟩ := jusC (c := sAF (sI c1 61 38 (nI n)) 39 (dg n j (gA c1 39))) (h := 40) (s := s) (nL := nL) (n := n) (p := dgz n j) (L := L) (Or.inl rfl) hs hV (by omega) hB.2.2.1 hB.2.1 (by rw [gI_sAF, gI_same]) (fun i hi => by rw [gA_same]; exact dg_in hi) hnL (by rw [hC2.1 _ _ (kCI_sh hs)]; exact t6) (fun i hi => by rw [hC2.2.2]; exact t8 i hi)
    have e6 : EqC c c' := hC2.tr (s2.eq (Or.inl rfl))
    rw [fk_lp5_s, B7_pies_102, ten_ok hn, fk_bind_some, if_neg q1, setNum_ok (by omega) (by omega), fk_bind_some, s1, fk_bind_some, fk_chk_in hs (by decide), nI_clamp (by omega), s4, fk_bind_some]
    by_cases q : jus L nL kd hN n a mo (dgz n j) = 0
    · obtain ⟨c2, o1, o2⟩ := ih (j + 1) w v c' (by omega) (by omega) e6 s3
      rw [if_pos q, B7_pies_167, nI_1, o1]
      refine ⟨c2, ?_, o2⟩
      unfold prA
      rw [cU_s, fst_s, if_pos q, if_pos q]
    · rw [if_neg q]
      by_cases q4 : v4 = -1
      · obtain ⟨c2, o1, o2⟩ := ih (j + 1) w (v + 1) c' (by omega) (by omega) e6 s3
        rw [if_pos q4, B7_pies_167, nI_1, o1]
        refine ⟨c2, ?_, o2⟩
        unfold prA
        rw [if_pos q4, if_pos q4]
        have : cU (fun i => jus L nL kd hN n a mo (dgz n i)) (d + 1) j v = cU (fun i => jus L nL kd hN n a mo (dgz n i)) d (j + 1) (if jus L nL kd hN n a mo (dgz n j) = 0 then v else v + 1) := rfl
        rw [this, if_neg q]
      · rw [if_neg q4]
        rcases hv with hv | ⟨k, hk, rfl⟩
        · exact absurd hv q4
        · rw [lay_ok (n := n) hk (by omega) (by rw [s2.1 61 38 (by decide), gI_sAF, gI_same]), fk_bind_some]
          refine ⟨c', ?_, e6⟩
          unfold prA
          rw [if_neg q4]
          have : fst (fun i => jus L nL kd hN n a mo (dgz n i)) (d + 1) j = some j := if_neg q
          rw [this, s2.2.1 39 (by decide), gA_same, nI_clamp (by omega)]
          rw [show dg n j (gA c1 39) k = dgz n j k from dg_in hk]
def prB (n : Nat) (v4 v6 v7 : Int32) : Int32 := if v4 = -1 then v6 else if v7 = -1 then -1 else dgz n v7.toNatClampNeg v4.toNatClampNeg
theorem pies_dn {c m : fkS} {b kd hN n s nL : Nat} {a mo v4 : Int32} {L : Nat → Int32} (hB : Bv c m b kd hN a mo) (hs : s < 8) (hn : n ≤ 3) (hnL : nL ≤ 160) (t7 : gA m 7 s = nI nL) (t9 : ∀ j, j < nL → (gL m 8 (160 * s + j)).toInt32 = L j) (hv : v4 = -1 ∨ rg v4 n) :
    ∀ (j fu : Nat) (v6 v7 : Int32) (m1 : fkS), j ≤ 10 ^ n → j < fu → EqM m m1 → (v7 = -1 ∨ rg v7 (10 ^ n)) →
    ∃ m', fk_lp7 B8_pies_75 fu (nI s) (nI b) (nI n) v4 v6 v7 (nI j - 1) m1 = some (prB n v4 (cD (fun i => jus L nL kd hN n a mo (dgz n i)) j v6) (fD (fun i => jus L nL kd hN n a mo (dgz n i)) j v7), m') ∧ EqM m m' := by
  have hten := ten1000 hn
  intro j
  induction j with
  | zero =>
    intro fu v6 v7 m1 hj hf hM h7
    obtain ⟨w, rfl⟩ : ∃ w, fu = w + 1 := ⟨fu - 1, by omega⟩
    rw [fk_lp7_s, B8_pies_75, if_pos (show nI 0 - 1 < 0 by decide)]
    unfold prB cD fD
    by_cases q : v4 = -1
    · rw [if_pos q, if_pos q]
      exact ⟨m1, rfl, hM⟩
    · rw [if_neg q, if_neg q]
      by_cases q7 : v7 = -1
      · rw [if_pos q7, if_pos q7]
        exact ⟨m1, rfl, hM⟩
      · rw [if_neg q7, if_neg q7]
        obtain ⟨i, hi, rfl⟩ := h7.resolve_left q7
        obtain ⟨k, hk, rfl⟩ := hv.resolve_left q
        rw [lays_ok (by omega) (by omega), fk_bind_some, fk_chk_in (by omega) (by decide), fk_let_e, gA_same, nI_clamp (by omega), nI_clamp (by omega), show dg n i (gA m1 14) k = dgz n i k from dg_in hk]
        exact ⟨_, rfl, (hM.sI rfl).sA rfl⟩
  | succ j ih =>
    intro fu v6 v7 m1 hj hf hM h7
    obtain ⟨w, rfl⟩ : ∃ w, fu = w + 1 := ⟨fu - 1, by omega⟩
    have hM2 : EqM m (sAF (sI m1 22 0 (nI n)) 14 (dg n j (gA m1 14))) := (hM.sI rfl).sA rfl
    obtain ⟨m', u1, u2⟩ := jusM (s := s) (nL := nL) (p := dgz n j) (n := n) (L := L) hs hB.1 (hB.hb hM2) (by omega) hB.2.2.1 hB.2.1 (by rw [gI_sAF, gI_same]) (fun i hi => by rw [gA_same]; exact dg_in hi) hnL (by rw [hM2.2.1 7 rfl]; exact t7) (fun i hi => by rw [hM2.2.2]; exact t9 i hi)
    have e3 : EqM m m' := hM2.tr u2.eq
    rw [fk_lp7_s, B8_pies_75, nI_pred, if_neg (nI_pos (by omega)), lays_ok (by omega) (by omega), fk_bind_some, u1, fk_bind_some]
    have hc : cD (fun i => jus L nL kd hN n a mo (dgz n i)) (j + 1) v6 = cD (fun i => jus L nL kd hN n a mo (dgz n i)) j (if jus L nL kd hN n a mo (dgz n j) = 0 then v6 else v6 + 1) := rfl
    have hd : fD (fun i => jus L nL kd hN n a mo (dgz n i)) (j + 1) v7 = fD (fun i => jus L nL kd hN n a mo (dgz n i)) j (if jus L nL kd hN n a mo (dgz n j) = 0 then v7 else nI j) := rfl
    rw [hc, hd]
    have hm1 : nI j + (-1 : Int32) = nI j - 1 := (Int32.sub_eq_add_neg _ _).symm
    by_cases q : jus L nL kd hN n a mo (dgz n j) = 0
    · rw [if_pos q, if_pos q, if_pos q, B8_pies_106, hm1]
      exact ih w v6 v7 m' (by omega) (by omega) e3 h7
    · rw [if_neg q, if_neg q, if_neg q, B8_pies_106, hm1]
      exact ih w (v6 + 1) (nI j) m' (by omega) (by omega) e3 (Or.inr (rg_nI (by omega)))
theorem pr_eq {J : Nat → Int32} {n N : Nat} {v4 : Int32} (hN : N ≤ 1000) : prA J n v4 N 0 0 = prB n v4 (cD J N 0) (fD J N (-1)) := by
  unfold prA prB
  rw [cUD, fD_eq]
  by_cases q : v4 = -1
  · rw [if_pos q, if_pos q]
  · rw [if_neg q, if_neg q]
    cases h : fst J N 0 with
    | none =>
      show (-1 : Int32) = if (-1 : Int32) = -1 then -1 else _
      rw [if_pos rfl]
    | some i =>
      have hi := fst_lt J N 0 i h
      show dgz n i v4.toNatClampNeg = if nI i = -1 then (-1 : Int32) else dgz n (nI i).toNatClampNeg v4.toNatClampNeg
      rw [if_neg (m1_rg (n := 1000) (by decide) (rg_nI (by omega))), nI_clamp (by omega)]
theorem rg4 {x : Int32} : rg x 4 ↔ ¬ x < 0 ∧ x ≤ 3 := by
  constructor
  · rintro ⟨a, ha, rfl⟩
    refine ⟨nI_pos (by omega), ?_⟩
    rw [show (3 : Int32) = nI 3 from rfl, nI_leI (by omega) (by decide)]
    omega
  · rintro ⟨h0, h1⟩
    obtain ⟨j, hj, rfl⟩ := nI_of h0
    rw [show (3 : Int32) = nI 3 from rfl, nI_leI hj (by decide)] at h1
    exact rg_nI (by omega)
theorem within4_in {x : Int32} {st : fkS} (h : rg x 4) : F8_within x 0 3 st = some (1, st) := by
  have := within_in (st := st) (n := 4) (by decide) h
  rw [← w4] at this
  exact this
theorem within4_out {x : Int32} {st : fkS} (h : ¬ rg x 4) : F8_within x 0 3 st = some (0, st) := by
  have := within_out (st := st) (n := 4) (by decide) h
  rw [← w4] at this
  exact this
theorem refFC {c m : fkS} (h : Rel c m) {code : Int32} (hc : RC code) : Op2 (fk_bind (F7_refuseFar code c) fun a b => some (a, b)) (fk_bind (F8_no10 code m) fun a b => some (a, b)) := by
  obtain ⟨-, -, k, h1, h7, e⟩ := hc.ref
  exact refF h k h1 h7 e
theorem pies_both {c m : fkS} {nb bN s n : Nat} {p4 : Int32} (h : RelN c m nb) (hb : bN < nb) (hs : s < 8) (hR : isR c m s) (hn : n ≤ 3) (hv : p4 = -1 ∨ rg p4 n) : Op2 (B7_pies_84 (nI s) (nI bN) (nI n) p4 c) (B8_pies_61 (nI s) (nI bN) (nI n) p4 m) := by
  have hten := ten1000 hn
  have hpos : 0 < 10 ^ n := Nat.pow_pos (by decide)
  obtain ⟨kd, hN, a, mo, hB⟩ := h.bv hb
  obtain ⟨c1, v1, v2, v3⟩ := take_ok (Or.inl rfl) h hb hB EqC.rf
  obtain ⟨-, -, nL, z5, z6, z7, z8⟩ := hR
  obtain ⟨c', o1, o2⟩ := pies_up (L := fun j => (gL m 8 (160 * s + j)).toInt32) hB hs hn z5 z6 (fun j hj => by rw [z8 j hj]) hv (10 ^ n) 0 fk_fuel 0 c1 (by omega) (by unfold fk_fuel; omega) (v2.eq (Or.inl rfl)) v3
  obtain ⟨m', u1, u2⟩ := pies_dn (L := fun j => (gL m 8 (160 * s + j)).toInt32) hB hs hn z5 z7 (fun _ _ => rfl) hv (10 ^ n) fk_fuel 0 (-1) m (Nat.le_refl _) (by unfold fk_fuel; omega) EqM.rf (Or.inl rfl)
  unfold B7_pies_84 B8_pies_61
  rw [v1, fk_bind_some, pow_ok (by omega), fk_bind_some, u1, show fk_lp5 B7_pies_102 fk_fuel (nI s) (nI n) p4 0 0 c1 = _ from o1, pr_eq hten]
  exact Op2.mk ⟨nb, h.keep o2 u2⟩
theorem op_pies {c m : fkS} (h : Rel c m) (x b p q : Int32) : Op2 (F7_pies x b p q c) (F8_pies x b p q m) := by
  have h0 := h
  obtain ⟨nb, h⟩ := h
  have hnb := h.1.1
  have k1 : ¬ (1 : Int32) = 0 := by decide
  have kn : ¬ (0 : Int32) ≤ -1 := by decide
  have kr : (0 : Int32) = 0 := rfl
  unfold F7_pies F8_pies B7_pies_19 B7_pies_53 B7_pies_77 F8_noPie
  rcases rgQ (x := x) 8 with hx | hx
  rotate_left
  · rw [noShelf_out hx, fk_bind_some, if_neg k1, within8_out hx, fk_bind_some, if_pos kr, fk_bind_some, if_neg kn]
    exact refF1 h0
  · rw [noShelf_in hx, fk_bind_some, if_pos kr, within8_in hx, fk_bind_some, if_neg k1]
    rcases rgQ (x := b) nb with hb | hb
    rotate_left
    · rw [lacks_out hnb h.1.2.1 hb, fk_bind_some, if_neg k1, isBird_out hnb h.1.2.2.1 hb, fk_bind_some, if_pos kr, fk_bind_some, if_neg kn]
      exact refF1 h0
    · rw [lacks_in hnb h.1.2.1 hb, fk_bind_some, if_pos kr, isBird_in hnb h.1.2.2.1 hb, fk_bind_some, if_neg k1]
      rcases row1 h x with ⟨s, hs, rfl, hR, e1, e2⟩ | ⟨code, hc, e1, e2⟩
      rotate_left
      · rw [e1, e2, fk_bind_some, fk_bind_some, fk_bind_some, if_neg hc.ref.1, if_neg hc.ref.2.1]
        exact refFC h0 hc
      · rw [e1, e2, fk_bind_some, fk_bind_some, fk_bind_some, if_pos kr, if_pos Int32.le_rfl]
        rcases rgQ (x := p) 4 with hp | hp
        rotate_left
        · rw [within4_out hp, fk_bind_some, if_pos kr]
          by_cases z : p < 0
          · rw [if_pos z]
            exact refF6 h0
          · rw [if_neg z, if_neg (fun y => hp (rg4.mpr ⟨z, y⟩))]
            exact refF6 h0
        · rw [within4_in hp, fk_bind_some, if_neg k1, if_neg (rg4.mp hp).1, if_pos (rg4.mp hp).2]
          obtain ⟨n, hn, rfl⟩ := hp
          obtain ⟨bN, hb, rfl⟩ := hb
          by_cases z : q = -1
          · rw [if_pos z, if_pos z]
            exact pies_both h hb hs hR (by omega) (Or.inl z)
          · rw [if_neg z, if_neg z]
            rcases rgQ (x := q) n with hq | hq
            · rw [within_in (by omega) hq, fk_bind_some, if_neg k1, if_neg (nneg (by omega) hq), if_pos (lt_lit (by omega) hq)]
              exact pies_both h hb hs hR (by omega) (Or.inr hq)
            · rw [within_out (by omega) hq, fk_bind_some, if_pos kr]
              by_cases y : q < 0
              · rw [if_pos y]
                exact refF5 h0
              · rw [if_neg y, if_neg (lt_of_not_le (ge_lit (by omega) hq y))]
                exact refF5 h0
