/-! tribes: the partings, purely -/
def jB (U : Nat → Bool) (B : Nat → Int32) (w : Int32) (b : Nat) : Int32 := if U b = true then 0 else if B b = w then 1 else 0
def setU (U : Nat → Bool) (b : Nat) : Nat → Bool := fun x => if x = b then true else U x
def gN (B W : Nat → Int32) (nb : Nat) : Nat → Nat → (Nat → Bool) → Nat
  | 0, _, _ => 0
  | d + 1, t, U => match fst (jB U B (W t)) nb 0 with | some b => gN B W nb d (t + 1) (setU U b) + 1 | none => gN B W nb d (t + 1) U
def grW (B W : Nat → Int32) (nb : Nat) : Nat → Nat → (Nat → Bool) → (Nat → Int32) → Nat → Int32
  | 0, _, _, A => A
  | d + 1, t, U, A => match fst (jB U B (W t)) nb 0 with | some b => grW B W nb d (t + 1) (setU U b) (upd A t (nI b)) | none => grW B W nb d (t + 1) U (upd A t (-1))
def cntN (J : Nat → Int32) : Nat → Nat → Nat
  | 0, _ => 0
  | d + 1, j => if J j = 0 then cntN J d (j + 1) else cntN J d (j + 1) + 1
theorem cntN_s (J : Nat → Int32) (d j : Nat) : cntN J (d + 1) j = (if J j = 0 then cntN J d (j + 1) else cntN J d (j + 1) + 1) := rfl
theorem cntN_eq {J J' : Nat → Int32} : ∀ (d j : Nat), (∀ i, j ≤ i → i < j + d → (J i = 0 ↔ J' i = 0)) → cntN J d j = cntN J' d j := by
  intro d
  induction d with
  | zero => intro j _; rfl
  | succ d ih =>
    intro j h
    have h0 := h j (Nat.le_refl _) (by omega)
    have h1 := ih (j + 1) (fun i hi hi2 => h i (by omega) (by omega))
    rw [cntN_s, cntN_s]
    by_cases q : J j = 0
    · rw [if_pos q, if_pos (h0.mp q), h1]
    · rw [if_neg q, if_neg (fun z => q (h0.mpr z)), h1]
theorem fst_none (J : Nat → Int32) : ∀ (d j : Nat), fst J d j = none → cntN J d j = 0 := by
  intro d
  induction d with
  | zero => intro j _; rfl
  | succ d ih =>
    intro j h
    rw [fst_s] at h
    rw [cntN_s]
    by_cases q : J j = 0
    · rw [if_pos q] at h ⊢
      exact ih (j + 1) h
    · rw [if_neg q] at h
      cases h
theorem fst_some (J : Nat → Int32) : ∀ (d j b : Nat), fst J d j = some b → j ≤ b ∧ b < j + d ∧ ¬ J b = 0 := by
  intro d
  induction d with
  | zero => intro j b h; cases h
  | succ d ih =>
    intro j b h
    rw [fst_s] at h
    by_cases q : J j = 0
    · rw [if_pos q] at h
      obtain ⟨h1, h2, h3⟩ := ih (j + 1) b h
      exact ⟨by omega, by omega, h3⟩
    · rw [if_neg q] at h
      cases h
      exact ⟨Nat.le_refl _, by omega, q⟩
theorem cntN_pos (J : Nat → Int32) : ∀ (d j b : Nat), j ≤ b → b < j + d → ¬ J b = 0 → 0 < cntN J d j := by
  intro d
  induction d with
  | zero => intro j b h1 h2 _; omega
  | succ d ih =>
    intro j b h1 h2 h3
    rw [cntN_s]
    by_cases q : J j = 0
    · rw [if_pos q]
      refine ih (j + 1) b ?_ (by omega) h3
      rcases Nat.lt_or_ge j b with z | z
      · omega
      · have : j = b := by omega
        rw [this] at q
        exact absurd q h3
    · rw [if_neg q]
      omega
theorem jB_iff {U : Nat → Bool} {B : Nat → Int32} {w : Int32} {b : Nat} : ¬ jB U B w b = 0 ↔ (U b = false ∧ B b = w) := by
  have k1 : ¬ (1 : Int32) = 0 := by decide
  unfold jB
  cases h : U b with
  | true =>
    rw [if_pos rfl]
    exact ⟨fun z => absurd rfl z, fun z => by cases z.1⟩
  | false =>
    rw [if_neg (by decide)]
    by_cases q : B b = w
    · rw [if_pos q]
      exact ⟨fun _ => ⟨rfl, q⟩, fun _ => k1⟩
    · rw [if_neg q]
      exact ⟨fun z => absurd rfl z, fun z => absurd z.2 q⟩
theorem jB_set {U : Nat → Bool} {B : Nat → Int32} {w : Int32} {b x : Nat} (h : x ≠ b) : jB (setU U b) B w x = jB U B w x := by
  unfold jB setU
  rw [if_neg h]
theorem jB_same {U : Nat → Bool} {B : Nat → Int32} {w : Int32} {b : Nat} : jB (setU U b) B w b = 0 := by
  unfold jB setU
  rw [if_pos rfl, if_pos rfl]
theorem cnt_out {U : Nat → Bool} {B : Nat → Int32} {w : Int32} {b d j : Nat} (h : b < j) : cntN (jB (setU U b) B w) d j = cntN (jB U B w) d j := by
  refine cntN_eq d j (fun i hi _ => ?_)
  rw [jB_set (by omega)]
theorem cnt_set {U : Nat → Bool} {B : Nat → Int32} {w : Int32} {b : Nat} (hU : U b = false) : ∀ (d j : Nat), j ≤ b → b < j + d → (if B b = w then cntN (jB (setU U b) B w) d j + 1 else cntN (jB (setU U b) B w) d j) = cntN (jB U B w) d j := by
  intro d
  induction d with
  | zero => intro j h1 h2; omega
  | succ d ih =>
    intro j h1 h2
    rw [cntN_s, cntN_s]
    by_cases e : j = b
    · subst e
      rw [if_pos jB_same, cnt_out (by omega)]
      by_cases q : B j = w
      · rw [if_pos q, if_neg (jB_iff.mpr ⟨hU, q⟩)]
      · rw [if_neg q, if_pos (Classical.not_not.mp (fun z => q (jB_iff.mp z).2))]
    · have h := ih (j + 1) (by omega) (by omega)
      rw [jB_set e]
      by_cases q : jB U B w j = 0
      · rw [if_pos q, if_pos q]
        exact h
      · rw [if_neg q, if_neg q, ← h]
        split <;> rfl
def decC (C : Int32 → Nat) (w : Int32) : Int32 → Nat := fun x => if x = w then C x - 1 else C x
def cntU (nb : Nat) (U : Nat → Bool) (B : Nat → Int32) : Int32 → Nat := fun w => cntN (jB U B w) nb 0
theorem cntU_set {nb : Nat} {U : Nat → Bool} {B : Nat → Int32} {b : Nat} (hU : U b = false) (hb : b < nb) : cntU nb (setU U b) B = decC (cntU nb U B) (B b) := by
  funext w
  have := cnt_set (w := w) (B := B) hU nb 0 (by omega) (by omega)
  unfold decC cntU
  by_cases q : B b = w
  · rw [if_pos q] at this
    rw [if_pos q.symm]
    omega
  · rw [if_neg q] at this
    rw [if_neg (fun z => q z.symm)]
    exact this
def Mx (W : Nat → Int32) : Nat → Nat → (Int32 → Nat) → Nat
  | 0, _, _ => 0
  | d + 1, t, C => if C (W t) = 0 then Mx W d (t + 1) C else Mx W d (t + 1) (decC C (W t)) + 1
theorem Mx_s (W : Nat → Int32) (d t : Nat) (C : Int32 → Nat) : Mx W (d + 1) t C = (if C (W t) = 0 then Mx W d (t + 1) C else Mx W d (t + 1) (decC C (W t)) + 1) := rfl
theorem decC_comm {C : Int32 → Nat} {v w : Int32} : decC (decC C v) w = decC (decC C w) v := by
  funext x
  unfold decC
  by_cases q : x = v
  · by_cases q2 : x = w
    · rw [if_pos q, if_pos q2, if_pos q, if_pos q2]
    · rw [if_pos q, if_neg q2, if_pos q, if_neg q2]
  · by_cases q2 : x = w
    · rw [if_neg q, if_pos q2, if_neg q]
    · rw [if_neg q, if_neg q2, if_neg q]
theorem decC_ne {C : Int32 → Nat} {v w : Int32} (h : v ≠ w) : decC C w v = C v := by
  unfold decC
  rw [if_neg h]
theorem decC_eq {C : Int32 → Nat} {w : Int32} : decC C w w = C w - 1 := by
  unfold decC
  rw [if_pos rfl]
theorem Mx_dec {W : Nat → Int32} {w : Int32} : ∀ (d t : Nat) (C : Int32 → Nat), 0 < C w → Mx W d t C ≤ Mx W d t (decC C w) + 1 := by
  intro d
  induction d with
  | zero => intro t C _; exact Nat.zero_le _
  | succ d ih =>
    intro t C h
    rw [Mx_s, Mx_s]
    by_cases e : W t = w
    · rw [e, if_neg (by omega), decC_eq]
      by_cases q : C w - 1 = 0
      · rw [if_pos q]
        exact Nat.le_refl _
      · rw [if_neg q]
        have := ih (t + 1) (decC C w) (by rw [decC_eq]; omega)
        omega
    · rw [decC_ne e]
      by_cases q : C (W t) = 0
      · rw [if_pos q, if_pos q]
        exact ih (t + 1) C h
      · rw [if_neg q, if_neg q]
        have := ih (t + 1) (decC C (W t)) (by rw [decC_ne (fun z => e z.symm)]; exact h)
        rw [decC_comm] at this
        omega
theorem Mx_mono {W : Nat → Int32} {d t : Nat} {C : Int32 → Nat} : Mx W d (t + 1) C ≤ Mx W (d + 1) t C := by
  rw [Mx_s]
  by_cases q : C (W t) = 0
  · rw [if_pos q]
    exact Nat.le_refl _
  · rw [if_neg q]
    exact Mx_dec d (t + 1) C (by omega)
theorem gN_none {B W : Nat → Int32} {nb d t : Nat} {U : Nat → Bool} (h : fst (jB U B (W t)) nb 0 = none) : gN B W nb (d + 1) t U = gN B W nb d (t + 1) U := by
  show (match fst (jB U B (W t)) nb 0 with | some b => gN B W nb d (t + 1) (setU U b) + 1 | none => gN B W nb d (t + 1) U) = _
  rw [h]
theorem gN_some {B W : Nat → Int32} {nb d t b : Nat} {U : Nat → Bool} (h : fst (jB U B (W t)) nb 0 = some b) : gN B W nb (d + 1) t U = gN B W nb d (t + 1) (setU U b) + 1 := by
  show (match fst (jB U B (W t)) nb 0 with | some b => gN B W nb d (t + 1) (setU U b) + 1 | none => gN B W nb d (t + 1) U) = _
  rw [h]
theorem grW_none {B W A : Nat → Int32} {nb d t : Nat} {U : Nat → Bool} (h : fst (jB U B (W t)) nb 0 = none) : grW B W nb (d + 1) t U A = grW B W nb d (t + 1) U (upd A t (-1)) := by
  show (match fst (jB U B (W t)) nb 0 with | some b => grW B W nb d (t + 1) (setU U b) (upd A t (nI b)) | none => grW B W nb d (t + 1) U (upd A t (-1))) = _
  rw [h]
theorem grW_some {B W A : Nat → Int32} {nb d t b : Nat} {U : Nat → Bool} (h : fst (jB U B (W t)) nb 0 = some b) : grW B W nb (d + 1) t U A = grW B W nb d (t + 1) (setU U b) (upd A t (nI b)) := by
  show (match fst (jB U B (W t)) nb 0 with | some b => grW B W nb d (t + 1) (setU U b) (upd A t (nI b)) | none => grW B W nb d (t + 1) U (upd A t (-1))) = _
  rw [h]
theorem gN_Mx {B W : Nat → Int32} {nb : Nat} : ∀ (d t : Nat) (U : Nat → Bool), gN B W nb d t U = Mx W d t (cntU nb U B) := by
  intro d
  induction d with
  | zero => intro t U; rfl
  | succ d ih =>
    intro t U
    rw [Mx_s]
    cases h : fst (jB U B (W t)) nb 0 with
    | none =>
      rw [gN_none h, if_pos (show cntU nb U B (W t) = 0 from fst_none _ _ _ h), ih]
    | some b =>
      obtain ⟨-, h2, h3⟩ := fst_some _ _ _ _ h
      have h4 := jB_iff.mp h3
      rw [gN_some h, ih, if_neg (show ¬ cntU nb U B (W t) = 0 from Nat.pos_iff_ne_zero.mp (cntN_pos (jB U B (W t)) nb 0 b (by omega) h2 h3)), cntU_set h4.1 (by omega), h4.2]
theorem gN_any {B W : Nat → Int32} {nb d t b : Nat} {U : Nat → Bool} (hb : b < nb) (hU : U b = false) (hB : B b = W t) : gN B W nb (d + 1) t U = gN B W nb d (t + 1) (setU U b) + 1 := by
  rw [gN_Mx, gN_Mx, Mx_s, if_neg (show ¬ cntU nb U B (W t) = 0 from Nat.pos_iff_ne_zero.mp (cntN_pos (jB U B (W t)) nb 0 b (by omega) (by omega) (jB_iff.mpr ⟨hU, hB⟩))), cntU_set hU hb, hB]
theorem gN_mono {B W : Nat → Int32} {nb d t : Nat} {U : Nat → Bool} : gN B W nb d (t + 1) U ≤ gN B W nb (d + 1) t U := by
  rw [gN_Mx, gN_Mx]
  exact Mx_mono
theorem gN_le {B W : Nat → Int32} {nb : Nat} : ∀ (d t : Nat) (U : Nat → Bool), gN B W nb d t U ≤ d := by
  intro d
  induction d with
  | zero => intro t U; exact Nat.le_refl _
  | succ d ih =>
    intro t U
    cases h : fst (jB U B (W t)) nb 0 with
    | none =>
      rw [gN_none h]
      have := ih (t + 1) U
      omega
    | some b =>
      rw [gN_some h]
      have := ih (t + 1) (setU U b)
      omega
/-! bits of used birds -/
def tb (u : Nat) : Nat → Bool := fun b => Nat.testBit u b
theorem tb_or {u b : Nat} : tb (u ||| 2 ^ b) = setU (tb u) b := by
  funext x
  unfold tb setU
  rw [Nat.testBit_or, Nat.testBit_two_pow]
  by_cases q : x = b
  · rw [if_pos q, q, decide_eq_true rfl, Bool.or_true]
  · rw [if_neg q, decide_eq_false (fun z => q z.symm), Bool.or_false]
theorem hasb : ∀ (u : Fin 128) (b : Fin 7), ((nI u.1 >>> (nI b.1 &&& 31)) &&& 1) = (if Nat.testBit u.1 b.1 = true then 1 else 0) := by
  decide +kernel
theorem orb : ∀ (u : Fin 128) (b : Fin 7), (nI u.1 ||| ((1 : Int32) <<< (nI b.1 &&& 31))) = nI (u.1 ||| 2 ^ b.1) ∧ u.1 ||| 2 ^ b.1 < 128 := by
  decide +kernel
/-! the class's parting -/
theorem left_loop {c : fkS} {nb : Nat} {B : Nat → Int32} {U : Nat → Bool} {w : Int32} (hnb : nb ≤ 7) (hw : ¬ w = -1) (h : ∀ b, b < nb → gA c 47 b = if U b = true then -1 else B b) : ∀ (d j fu : Nat), j + d = nb → d < fu → fk_lp3 B2_firstLeft_2 fu w (nI nb) (nI j) c = some ((match fst (jB U B w) d j with | some b => nI b | none => -1), c) := by
  intro d
  induction d with
  | zero =>
    intro j fu hj hf
    obtain ⟨v, rfl⟩ : ∃ v, fu = v + 1 := ⟨fu - 1, by omega⟩
    obtain rfl : j = nb := by omega
    rw [fk_lp3_s, B2_firstLeft_2, if_pos Int32.le_rfl]
    rfl
  | succ d ih =>
    intro j fu hj hf
    obtain ⟨v, rfl⟩ : ∃ v, fu = v + 1 := ⟨fu - 1, by omega⟩
    have q1 : ¬ nI nb ≤ nI j := by
      rw [nI_leI (by omega) (by omega)]
      omega
    have q2 : ¬ (7 : Int32) ≤ nI j := by
      rw [zl7, nI_leI (by decide) (by omega)]
      omega
    rw [fk_lp3_s, B2_firstLeft_2, if_neg q1, if_neg q2, fk_chk_in (by omega) (by decide), fk_let_e, nI_clamp (by omega), h j (by omega), fst_s, nI_1]
    by_cases q : jB U B w j = 0
    · rw [if_pos q, if_neg (show ¬ (if U j = true then -1 else B j) = w from ?_)]
      · exact ih (j + 1) v (by omega) (by omega)
      · intro z
        cases hu : U j with
        | true =>
          rw [hu, if_pos rfl] at z
          exact hw z.symm
        | false =>
          rw [hu, if_neg (show ¬ false = true by decide)] at z
          exact (jB_iff.mpr ⟨hu, z⟩) q
    · have q' := jB_iff.mp q
      rw [if_neg q, q'.1, if_neg (show ¬ false = true by decide), if_pos q'.2]
def PtC (c0 c : fkS) (nb T : Nat) (B W : Nat → Int32) (U : Nat → Bool) : Prop := EqC c0 c ∧ gI c 40 44 = nI T ∧ (∀ i, i < T → gA c 45 i = W i) ∧ ∀ b, b < nb → gA c 47 b = if U b = true then -1 else B b
theorem partC_loop {c0 : fkS} {nb T : Nat} {B W : Nat → Int32} (hnb : nb ≤ 7) (hT : T ≤ 7) (hW : ∀ i, i < T → rg (W i) 8) : ∀ (d t fu k : Nat) (U : Nat → Bool) (c : fkS), t + d = T → d < fu → k ≤ t → PtC c0 c nb T B W U → gI c 41 44 = nI k →
    ∃ c', fk_lp2 B2_part_7 fu (nI nb) (nI t) c = some ((), c') ∧ EqC c0 c' ∧ gI c' 40 44 = nI T ∧ gI c' 41 44 = nI (k + gN B W nb d t U) ∧ gA c' 46 = grW B W nb d t U (gA c 46) := by
  intro d
  induction d with
  | zero =>
    intro t fu k U c hj hf hk hP hs
    obtain ⟨v, rfl⟩ : ∃ v, fu = v + 1 := ⟨fu - 1, by omega⟩
    obtain rfl : t = T := by omega
    rw [fk_lp2_s, B2_part_7, fk_let_e, hP.2.1, if_pos Int32.le_rfl]
    exact ⟨c, rfl, hP.1, hP.2.1, hs, rfl⟩
  | succ d ih =>
    intro t fu k U c hj hf hk hP hs
    obtain ⟨v, rfl⟩ : ∃ v, fu = v + 1 := ⟨fu - 1, by omega⟩
    obtain ⟨p1, p2, p3, p4⟩ := hP
    have q1 : ¬ nI T ≤ nI t := by
      rw [nI_leI (by omega) (by omega)]
      omega
    have q2 : ¬ (7 : Int32) ≤ nI t := by
      rw [zl7, nI_leI (by decide) (by omega)]
      omega
    have e1 : F2_firstLeft (W t) (nI nb) c = some ((match fst (jB U B (W t)) nb 0 with | some b => nI b | none => -1), c) :=
      left_loop (w := W t) hnb (m1_rg (n := 8) (by decide) (hW t (by omega))) p4 nb 0 fk_fuel (by omega) (by unfold fk_fuel; omega)
    rw [fk_lp2_s, B2_part_7, fk_let_e, p2, if_neg q1, if_neg q2, fk_chk_in (by omega) (by decide), fk_let_e, nI_clamp (by omega), p3 t (by omega), e1, fk_bind_some, fk_chk_in (by omega) (by decide), fk_let_e, fk_chk_in (by omega) (by decide), fk_let_e, sA_def, gA_same, upd_same]
    cases h : fst (jB U B (W t)) nb 0 with
    | none =>
      show ∃ c', (if (-1 : Int32) = -1 then _ else _) = _ ∧ _
      rw [if_pos rfl, B2_part_73, nI_1]
      obtain ⟨c', o1, o2, o3, o4, o5⟩ := ih (t + 1) v k U (sAF c 46 (upd (gA c 46) t (-1))) (by omega) (by omega) (by omega) ⟨p1.sA rfl, by rw [gI_sAF]; exact p2, fun i hi => by rw [gA_ne (by decide)]; exact p3 i hi, fun b hb => by rw [gA_ne (by decide)]; exact p4 b hb⟩ (by rw [gI_sAF]; exact hs)
      refine ⟨c', o1, o2, o3, ?_, ?_⟩
      · rw [gN_none h]
        exact o4
      · rw [grW_none h, o5, gA_same]
    | some b =>
      obtain ⟨-, h2, h3⟩ := fst_some _ _ _ _ h
      have h4 := jB_iff.mp h3
      have hb : b < nb := by omega
      show ∃ c', (if nI b = -1 then _ else _) = _ ∧ _
      rw [if_neg (m1_rg (n := 7) (by decide) (rg_nI (by omega))), fk_let_e, fk_let_e, fk_chk_in (by omega) (by decide), fk_let_e, gA_sI, gA_same, upd_same, fk_chk_in (by omega) (by decide), fk_let_e, nI_clamp (by omega), B2_part_73, gI_sAF, hs, nI_1, nI_1, sA_def]
      obtain ⟨c', o1, o2, o3, o4, o5⟩ := ih (t + 1) v (k + 1) (setU U b) (sAF (sI (sAF c 46 (upd (gA c 46) t (nI b))) 41 44 (nI (k + 1))) 47 (upd (gA (sI (sAF c 46 (upd (gA c 46) t (nI b))) 41 44 (nI (k + 1))) 47) b (-1))) (by omega) (by omega) (by omega) ⟨((p1.sA rfl).sI rfl).sA rfl, by rw [gI_sAF, gI_nf (by decide), gI_sAF]; exact p2, fun i hi => by rw [gA_ne (by decide), gA_sI, gA_ne (by decide)]; exact p3 i hi, fun x hx => by
          rw [gA_same, gA_sI, gA_ne (by decide)]
          unfold setU
          by_cases z : x = b
          · rw [z, upd_same, if_pos rfl, if_pos rfl]
          · rw [upd_ne z, if_neg z]
            exact p4 x hx⟩ (by rw [gI_sAF, gI_same])
      refine ⟨c', o1, o2, o3, ?_, ?_⟩
      · rw [gN_some h, o4, show k + 1 + gN B W nb d (t + 1) (setU U b) = k + (gN B W nb d (t + 1) (setU U b) + 1) by omega]
      · rw [grW_some h, o5, gA_ne (by decide), gA_sI, gA_same]
