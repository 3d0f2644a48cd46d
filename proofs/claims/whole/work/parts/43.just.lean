/-! IS JUST THIS SAID: both sides -/
def alE (f g : Nat → Int32) : Nat → Nat → Int32
  | 0, _ => 1
  | d + 1, j => if f j = g j then alE f g d (j + 1) else 0
theorem alE_eq {f f' g g' : Nat → Int32} {c : Nat} (h1 : ∀ i, i < c → f i = f' i) (h2 : ∀ i, i < c → g i = g' i) : ∀ (d j : Nat), j + d ≤ c → alE f g d j = alE f' g' d j := by
  intro d
  induction d with
  | zero => intro j _; rfl
  | succ d ih =>
    intro j hj
    unfold alE
    rw [h1 j (by omega), h2 j (by omega), ih (j + 1) (by omega)]
theorem just_loop {h s K : Nat} {c : fkS} (hK : K ≤ 16) (h1 : gI c 124 h = nI K) (h2 : gI c 103 (3 + s) = nI K) : ∀ (d j fu : Nat), j + d = K → d < fu → fk_lp1 (B6_saysJust_15 h (3 + s)) fu (nI j) c = some (alE (gA c (h + 2)) (fun i => (gL c (3 + s + 8) i).toInt32) d j, c) := by
  intro d
  induction d with
  | zero =>
    intro j fu hj hf
    obtain ⟨w, rfl⟩ : ∃ w, fu = w + 1 := ⟨fu - 1, by omega⟩
    obtain rfl : j = K := by omega
    rw [fk_lp1_s, B6_saysJust_15, fk_let_e, h1, if_pos Int32.le_rfl]
    rfl
  | succ d ih =>
    intro j fu hj hf
    obtain ⟨w, rfl⟩ : ∃ w, fu = w + 1 := ⟨fu - 1, by omega⟩
    have q1 : ¬ nI K ≤ nI j := by
      rw [nI_leI (by omega) (by omega)]
      omega
    have q2 : ¬ (16 : Int32) ≤ nI j := by
      rw [show (16 : Int32) = nI 16 from rfl, nI_leI (by decide) (by omega)]
      omega
    rw [fk_lp1_s, B6_saysJust_15, fk_let_e, h1, if_neg q1, if_neg q2, fk_chk_in (by omega) (by decide), fk_let_e, nI_clamp (by omega), number_in h2 (by omega) (by omega), fk_bind_some, alE]
    by_cases q : gA c (h + 2) j = (gL c (3 + s + 8) j).toInt32
    · rw [if_pos q, if_pos q, nI_1, ih (j + 1) w (by omega) (by omega)]
    · rw [if_neg q, if_neg q]
theorem just_ok {h s K n : Nat} {c : fkS} (hK : K ≤ 16) (hn : n ≤ 160) (h1 : gI c 124 h = nI K) (h2 : gI c 103 (3 + s) = nI n) : F6_saysJust h (3 + s) c = some (if K = n then alE (gA c (h + 2)) (fun i => (gL c (3 + s + 8) i).toInt32) K 0 else 0, c) := by
  unfold F6_saysJust
  rw [fk_let_e, fk_let_e, h1, h2]
  by_cases q : K = n
  · subst q
    rw [if_pos rfl, if_pos rfl]
    exact just_loop hK h1 h2 K 0 fk_fuel (by omega) (by unfold fk_fuel; omega)
  · rw [if_neg (by rw [nI_eq (by omega) (by omega)]; exact q), if_neg q]
theorem told_ok {s j : Nat} {m : fkS} (hs : s < 8) (hj : j < 160) : F8_toldAt (nI s) (nI j) m = some ((gL m 8 (160 * s + j)).toInt32, m) := by
  unfold F8_toldAt
  rw [zl160, pk_mul, nI_add, fk_chk_in (by omega) (by decide), fk_let_e, nI_clamp (by omega)]
theorem isSaid_loop {s K : Nat} {m : fkS} (hs : s < 8) (hK : K ≤ 16) (h1 : gI m 24 0 = nI K) : ∀ (d j fu : Nat), j + d = K → d < fu → fk_lp2 B8_isSaid_22 fu (nI s) (nI j) m = some (alE (gA m 15) (fun i => (gL m 8 (160 * s + i)).toInt32) d j, m) := by
  intro d
  induction d with
  | zero =>
    intro j fu hj hf
    obtain ⟨w, rfl⟩ : ∃ w, fu = w + 1 := ⟨fu - 1, by omega⟩
    obtain rfl : j = K := by omega
    rw [fk_lp2_s, B8_isSaid_22, fk_let_e, h1, if_pos Int32.le_rfl]
    rfl
  | succ d ih =>
    intro j fu hj hf
    obtain ⟨w, rfl⟩ : ∃ w, fu = w + 1 := ⟨fu - 1, by omega⟩
    have q1 : ¬ nI K ≤ nI j := by
      rw [nI_leI (by omega) (by omega)]
      omega
    rw [fk_lp2_s, B8_isSaid_22, fk_let_e, h1, if_neg q1, fk_chk_in (by omega) (by decide), fk_let_e, nI_clamp (by omega), told_ok hs (by omega), fk_bind_some, alE]
    by_cases q : gA m 15 j = (gL m 8 (160 * s + j)).toInt32
    · rw [if_pos q, if_pos q, nI_1, ih (j + 1) w (by omega) (by omega)]
    · rw [if_neg q, if_neg q]
/-- what both answer: is the row s just what a bird of this kind says of the pie p -/
def jus (L : Nat → Int32) (nL kd hN n : Nat) (a mo : Int32) (p : Nat → Int32) : Int32 := if sayN kd (min n hN) = nL then alE (sayF kd (min n hN) a (sg (nI hN) mo p)) L (sayN kd (min n hN)) 0 else 0
theorem jusC {c : fkS} {kd hN n h s nL : Nat} {a mo : Int32} {p L : Nat → Int32} (hh : h = 40 ∨ h = 41) (hs : s < 8) (hV : Vc h c kd hN a mo) (hn : n ≤ 8) (hhN : hN < 10) (hkd : kd < 7) (p1 : gI c 61 38 = nI n) (p2 : ∀ i, i < n → gA c 39 i = p i) (hnL : nL ≤ 160) (t6 : gI c 103 (3 + s) = nI nL) (t8 : ∀ j, j < nL → (gL c (3 + s + 8) j).toInt32 = L j) :
    ∃ c', F6_speak h c = some ((), c') ∧ KeC h c c' ∧ Vc h c' kd hN a mo ∧ F6_saysJust h (3 + s) c' = some (jus L nL kd hN n a mo p, c') := by
  obtain ⟨c', e1, e2, e3, e4, e5⟩ := speakV hh hV hn hhN hkd p1 p2
  have hK : sayN kd (min n hN) ≤ 16 := sayN_le (by omega)
  refine ⟨c', e1, e2, e3, ?_⟩
  rw [just_ok hK hnL e4 (by rw [e2.1 _ _ (by omega)]; exact t6)]
  unfold jus
  by_cases q : sayN kd (min n hN) = nL
  · rw [if_pos q, if_pos q]
    congr 2
    refine alE_eq (c := sayN kd (min n hN)) e5 (fun i hi => ?_) _ 0 (by omega)
    rw [e2.2.2]
    exact t8 i (by omega)
  · rw [if_neg q, if_neg q]
theorem jusM {m : fkS} {b kd hN n s nL : Nat} {a mo : Int32} {p L : Nat → Int32} (hs : s < 8) (hb : b < 7) (hB : HB m b kd a mo (nI hN) (gA m 14)) (hn : n ≤ 8) (hhN : hN < 10) (hkd : kd < 7) (p1 : gI m 22 0 = nI n) (p2 : ∀ i, i < n → gA m 14 i = p i) (hnL : nL ≤ 160) (t7 : gA m 7 s = nI nL) (t8 : ∀ j, j < nL → (gL m 8 (160 * s + j)).toInt32 = L j) :
    ∃ m', F8_isSaid (nI b) (nI s) m = some (jus L nL kd hN n a mo p, m') ∧ KeM m m' := by
  obtain ⟨arr, e1, e2⟩ := tells_ok hb hn hhN hkd hB p1
  have hK : sayN kd (min n hN) ≤ 16 := sayN_le (by omega)
  have hk : KeM m (sAF (sI m 24 0 (nI (sayN kd (min n hN)))) 15 arr) := (KeM.rf.sI (Or.inl rfl)).sA
  have e5 : ∀ i, i < sayN kd (min n hN) → arr i = sayF kd (min n hN) a (sg (nI hN) mo p) i := fun i hi => by
    rw [e2 i hi]
    refine sayF_eq (fun i hi => ?_) i hi
    unfold sg
    rw [p2 i (by omega)]
  refine ⟨_, ?_, hk⟩
  unfold F8_isSaid
  rw [e1, fk_bind_some, fk_let_e, fk_chk_in hs (by decide), fk_let_e, nI_clamp (by omega), hk.2.1 7 (by decide), t7, gI_sAF, gI_same]
  unfold jus
  by_cases q : sayN kd (min n hN) = nL
  · rw [if_pos (by rw [q]), if_pos q]
    have := isSaid_loop (m := sAF (sI m 24 0 (nI (sayN kd (min n hN)))) 15 arr) hs hK (by rw [gI_sAF, gI_same]) (sayN kd (min n hN)) 0 fk_fuel (by omega) (by unfold fk_fuel; omega)
    rw [show fk_lp2 B8_isSaid_22 fk_fuel (nI s) 0 _ = _ from this]
    congr 2
    refine alE_eq (c := sayN kd (min n hN)) (fun i hi => ?_) (fun i hi => ?_) _ 0 (by omega)
    · rw [gA_same]
      exact e5 i hi
    · rw [hk.2.2]
      exact t8 i (by omega)
  · rw [if_neg (by rw [nI_eq (by omega) (by omega)]; exact q), if_neg q]
