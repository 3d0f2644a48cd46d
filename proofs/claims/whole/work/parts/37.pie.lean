/-! A PIE OFF A SHELF, A BIRD THAT SINGS IT: both sides -/
theorem within_c {x lo hi : Int32} {st : fkS} : F8_within x lo hi st = some (if x < lo then 0 else if hi < x then 0 else 1, st) := by
  unfold F8_within
  by_cases q : x < lo
  · rw [if_pos q, if_pos q]
  · rw [if_neg q, if_neg q]
    by_cases q2 : hi < x
    · rw [if_pos q2, if_pos q2]
    · rw [if_neg q2, if_neg q2]
theorem lt10 {x : Int32} : ¬ (9 : Int32) < x ↔ x < 10 := by
  rw [Int32.lt_iff_toInt_lt, Int32.lt_iff_toInt_lt, show (9 : Int32).toInt = 9 from rfl, show (10 : Int32).toInt = 10 from rfl]
  omega
theorem take_loop {s n : Nat} {lo : Int32} {c0 m0 : fkS} (hs : s < 8) (hn : n ≤ 8) (t6 : gI c0 103 (3 + s) = nI n) (t8 : ∀ j, j < n → gL c0 (3 + s + 8) j = gL m0 8 (160 * s + j)) : ∀ (d j fu : Nat) (c m : fkS), j + d = n → d < fu → EqC c0 c → EqM m0 m → gI c 61 38 = nI n → gI m 22 0 = nI n → (∀ k, k < j → gA c 39 k = gA m 14 k ∧ ¬ gA c 39 k < lo ∧ gA c 39 k < 10) →
    ∃ (r : Int32) (c' m' : fkS), fk_lp2 (B3_take_21 (3 + s)) fu lo (nI j) c = some (r, c') ∧ fk_lp3 B8_isPie_23 fu (nI s) lo (nI j) m = some (r, m') ∧ EqC c0 c' ∧ EqM m0 m' ∧
      (r = 0 ∨ (r = 1 ∧ gI c' 61 38 = nI n ∧ gI m' 22 0 = nI n ∧ ∀ k, k < n → gA c' 39 k = gA m' 14 k ∧ ¬ gA c' 39 k < lo ∧ gA c' 39 k < 10)) := by
  intro d
  induction d with
  | zero =>
    intro j fu c m hj hf hC hM h1 h2 h3
    obtain ⟨w, rfl⟩ : ∃ w, fu = w + 1 := ⟨fu - 1, by omega⟩
    have hj : j = n := by omega
    subst hj
    rw [fk_lp2_s, fk_lp3_s, B3_take_21, B8_isPie_23, fk_let_e, fk_let_e, h1, h2, if_pos Int32.le_rfl, if_pos Int32.le_rfl]
    exact ⟨1, c, m, rfl, rfl, hC, hM, Or.inr ⟨rfl, h1, h2, h3⟩⟩
  | succ d ih =>
    intro j fu c m hj hf hC hM h1 h2 h3
    obtain ⟨w, rfl⟩ : ∃ w, fu = w + 1 := ⟨fu - 1, by omega⟩
    have q1 : ¬ nI n ≤ nI j := by
      rw [nI_leI (by omega) (by omega)]
      omega
    have q2 : ¬ (8 : Int32) ≤ nI j := by
      rw [zl8, nI_leI (by decide) (by omega)]
      omega
    have eT : F8_toldAt (nI s) (nI j) m = some ((gL c (3 + s + 8) j).toInt32, m) := by
      unfold F8_toldAt
      rw [zl160, pk_mul, nI_add, fk_chk_in (by omega) (by decide), fk_let_e, nI_clamp (by omega), hM.2.2, ← t8 j (by omega), hC.2.2]
    rw [fk_lp2_s, fk_lp3_s, B3_take_21, B8_isPie_23, fk_let_e, fk_let_e, h1, h2, if_neg q1, if_neg q1, if_neg q2, number_in (show gI c 103 (3 + s) = nI n by rw [hC.1 _ _ (kCI_sh hs)]; exact t6) (by omega) (by omega), eT, fk_bind_some, fk_bind_some, fk_chk_in (show j < 8 by omega) (by decide), fk_chk_in (show j < 8 by omega) (by decide), fk_let_e, fk_let_e, fk_chk_in (show j < 8 by omega) (by decide), fk_let_e, nI_clamp (by omega), sA_def m, gA_same, upd_same, within_c, fk_bind_some]
    have hM' : EqM m0 (sAF m 14 (upd (gA m 14) j (gL c (3 + s + 8) j).toInt32)) := hM.sA rfl
    by_cases q3 : (gL c (3 + s + 8) j).toInt32 < lo
    · rw [if_pos q3, if_pos q3, if_pos rfl]
      exact ⟨0, _, _, rfl, rfl, hC, hM', Or.inl rfl⟩
    · rw [if_neg q3, if_neg q3]
      by_cases q4 : (gL c (3 + s + 8) j).toInt32 < 10
      · rw [if_pos q4, if_neg (lt10.mpr q4), if_neg (show ¬ (1 : Int32) = 0 by decide), sA_def, nI_1]
        refine ih (j + 1) w _ _ (by omega) (by omega) (hC.sA rfl) hM' ?_ ?_ ?_
        · rw [gI_sAF]
          exact h1
        · rw [gI_sAF]
          exact h2
        · intro k hk
          rw [gA_same, gA_same]
          by_cases e : k = j
          · subst e
            rw [upd_same, upd_same]
            exact ⟨rfl, q3, q4⟩
          · rw [upd_ne e, upd_ne e]
            exact h3 k (by omega)
      · rw [if_neg q4, if_pos (Classical.not_not.mp (fun z => q4 (lt10.mp z))), if_pos rfl]
        exact ⟨0, _, _, rfl, rfl, hC, hM', Or.inl rfl⟩
theorem take2 {s : Nat} {lo : Int32} {c m : fkS} (hs : s < 8) (h : isR c m s) :
    ∃ (r : Int32) (c' m' : fkS), F3_take (3 + s) lo c = some (r, c') ∧ F8_isPie (nI s) lo m = some (r, m') ∧ EqC c c' ∧ EqM m m' ∧
      (r = 0 ∨ (r = 1 ∧ ∃ n, n ≤ 8 ∧ gI c 103 (3 + s) = nI n ∧ gI c' 61 38 = nI n ∧ gI m' 22 0 = nI n ∧ ∀ k, k < n → gA c' 39 k = gA m' 14 k ∧ ¬ gA c' 39 k < lo ∧ gA c' 39 k < 10)) := by
  obtain ⟨t1, -, n, t5, t6, t7, t8⟩ := h
  unfold F3_take F8_isPie
  rw [zl8, fk_let_e, fk_let_e, t6, fk_chk_in hs (by decide), fk_let_e, nI_clamp (by omega), t7, fk_let_e, fk_let_e, gI_same, fk_let_e]
  have hM' : EqM m (sI m 22 0 (nI n)) := EqM.rf.sI rfl
  by_cases q : n ≤ 8
  · rw [if_pos ((nI_leI (by omega) (by decide)).mpr q), if_pos ((nI_leI (by omega) (by decide)).mpr q)]
    obtain ⟨r, c', m', e1, e2, e3, e4, e5⟩ := take_loop (lo := lo) (c0 := c) (m0 := m) hs q t6 t8 n 0 fk_fuel (sI c 61 38 (nI n)) (sI m 22 0 (nI n)) (by omega) (by unfold fk_fuel; omega) (EqC.rf.sI rfl) hM' gI_same gI_same (fun k hk => by omega)
    refine ⟨r, c', m', e1, e2, e3, e4, ?_⟩
    rcases e5 with e5 | ⟨e5, e6, e7, e8⟩
    · exact Or.inl e5
    · exact Or.inr ⟨e5, n, q, rfl, e6, e7, e8⟩
  · rw [if_neg (fun z => q ((nI_leI (by omega) (by decide)).mp z)), if_neg (fun z => q ((nI_leI (by omega) (by decide)).mp z))]
    exact ⟨0, _, _, rfl, rfl, EqC.rf, hM', Or.inl rfl⟩
/-- what the class's voice h leaves alone; what the reference's signs leave alone -/
def KeC (h : Nat) (c c' : fkS) : Prop := (∀ f i, i ≠ h → gI c' f i = gI c f i) ∧ (∀ i, i ≠ h + 2 → gA c' i = gA c i) ∧ ∀ i, gL c' i = gL c i
def KeM (m m' : fkS) : Prop := (∀ f i, f ≠ 24 → f ≠ 26 → f ≠ 27 → gI m' f i = gI m f i) ∧ (∀ i, i ≠ 15 → gA m' i = gA m i) ∧ ∀ i, gL m' i = gL m i
theorem KeC.eq {h : Nat} {c c' : fkS} (hh : h = 40 ∨ h = 41) (k : KeC h c c') : EqC c c' := by
  refine ⟨fun f i q => k.1 f i ?_, fun i q => k.2.1 i ?_, k.2.2⟩
  · intro z
    subst z
    rcases hh with rfl | rfl <;> (unfold kCI at q; simp at q)
  · intro z
    subst z
    rcases hh with rfl | rfl <;> cases q
theorem KeM.eq {m m' : fkS} (k : KeM m m') : EqM m m' := by
  refine ⟨fun f i q => k.1 f i ?_ ?_ ?_, fun i q => k.2.1 i ?_, k.2.2⟩ <;> (intro z; subst z; cases q)
theorem KeC.sI {h f : Nat} {c c' : fkS} {v : Int32} (k : KeC h c c') : KeC h c (sI c' f h v) := by
  refine ⟨fun f' i q => ?_, k.2.1, k.2.2⟩
  rw [gI_sI, if_neg (fun z => q z.2)]
  exact k.1 f' i q
theorem KeC.sA {h : Nat} {c c' : fkS} {u : Nat → Int32} (k : KeC h c c') : KeC h c (sAF c' (h + 2) u) := by
  refine ⟨k.1, fun i q => ?_, k.2.2⟩
  rw [gA_sAF, if_neg q]
  exact k.2.1 i q
theorem KeC.rf {h : Nat} {c : fkS} : KeC h c c := ⟨fun _ _ _ => rfl, fun _ _ => rfl, fun _ => rfl⟩
theorem KeM.rf {c : fkS} : KeM c c := ⟨fun _ _ _ _ _ => rfl, fun _ _ => rfl, fun _ => rfl⟩
theorem KeM.sI {f i : Nat} {c c' : fkS} {v : Int32} (k : KeM c c') (hf : f = 24 ∨ f = 26 ∨ f = 27) : KeM c (sI c' f i v) := by
  refine ⟨fun f' i q1 q2 q3 => ?_, k.2.1, k.2.2⟩
  rw [gI_sI, if_neg (by omega)]
  exact k.1 f' i q1 q2 q3
theorem KeM.sA {c c' : fkS} {u : Nat → Int32} (k : KeM c c') : KeM c (sAF c' 15 u) := by
  refine ⟨k.1, fun i q => ?_, k.2.2⟩
  rw [gA_sAF, if_neg q]
  exact k.2.1 i q
theorem spk {c m : fkS} {nb b n h : Nat} (hh : h = 40 ∨ h = 41) (hR : RelN c m nb) (hb : b < nb) (hn : n ≤ 8) (p1 : gI c 61 38 = nI n) (p2 : gI m 22 0 = nI n) (hp : ∀ i, i < n → gA c 39 i = gA m 14 i ∧ rg (gA c 39 i) 10) :
    ∃ (K : Nat) (f : Nat → Int32), K ≤ 16 ∧ (∀ i, i < K → rg (f i) 20) ∧
      (∃ c1 c', F6_take h 19 (nI b) c = some ((), c1) ∧ F6_speak h c1 = some ((), c') ∧ KeC h c c' ∧ gI c' 124 h = nI K ∧ ∀ i, i < K → gA c' (h + 2) i = f i) ∧
      (∃ m', F8_tells (nI b) m = some ((), m') ∧ KeM m m' ∧ gI m' 24 0 = nI K ∧ ∀ i, i < K → gA m' 15 i = f i) ∧
      (∀ s, rg s 8 → ∃ m', F8_goes (nI b) s m = some ((), m') ∧ KeM m m' ∧ gI m' 26 0 = goE (gA m 5) f K 0 s ∧ gI m' 27 0 = ilE (gA m 5) (gA m 4 2) f K 0 s 0) := by
  obtain ⟨⟨hnb, a2, a3, a4, a5, a6⟩, ⟨b1, b2, b3, b4⟩, -⟩ := hR
  have hb7 : b < 7 := by omega
  obtain ⟨kd, hkd, ek⟩ := (a4 b hb7).2
  obtain ⟨hN, hhN, eh⟩ := b2.2
  have ha := (a5 b hb7).2
  have hmo := (a6 b hb7).2
  have hpm : ∀ i, i < n → rg (gA m 14 i) 10 := fun i hi => by
    rw [← (hp i hi).1]
    exact (hp i hi).2
  have hsg : ∀ i, i < min n hN → sg (nI hN) (gA c 28 b) (gA c 39) i = sg (nI hN) (gA c 28 b) (gA m 14) i := fun i hi => by
    unfold sg
    rw [(hp i (by omega)).1]
  have hrg : ∀ i, i < sayN kd (min n hN) → rg (sayF kd (min n hN) (gA c 25 b) (sg (nI hN) (gA c 28 b) (gA m 14)) i) 20 := by
    refine sayF_rg ha (fun i hi => sg_rg (rg_nI hhN) hmo (hpm i (by omega)))
  have hB : HB m b kd (gA c 25 b) (gA c 28 b) (nI hN) (gA m 14) := ⟨by rw [← (a4 b hb7).1]; exact ek, ((a5 b hb7).1).symm, ((a6 b hb7).1).symm, by rw [← b2.1]; exact eh, rfl⟩
  refine ⟨sayN kd (min n hN), sayF kd (min n hN) (gA c 25 b) (sg (nI hN) (gA c 28 b) (gA m 14)), sayN_le (by omega), hrg, ?_, ?_, ?_⟩
  · have hsp := speak_ok (h := h) (n := n) (hN := hN) (kd := kd) (st := sI (sI (sI (sI c 120 h (nI kd)) 121 h (gA c 25 b)) 122 h (gA c 28 b)) 123 h (nI hN)) hh hn hhN hkd
      (by rw [gI_nf (by decide), gI_nf (by decide), gI_nf (by decide), gI_nf (by decide)]; exact p1) gI_same (by rw [gI_nf (by decide), gI_nf (by decide), gI_nf (by decide), gI_same])
    obtain ⟨arr, e1, e2⟩ := hsp
    refine ⟨_, _, ?_, e1, ((((KeC.rf.sI).sI).sI).sI).sI.sA, ?_, ?_⟩
    · unfold F6_take
      rw [lacks_in hnb a2 (rg_nI hb), fk_bind_some, if_pos rfl]
      simp (disch := omega) only [fk_chk_in, fk_let_e, nI_clamp]
      rw [← ek, ← eh]
      rfl
    · rw [gI_sAF, gI_same]
    · intro i hi
      rw [gA_same, e2 i hi, gI_nf (by decide), gI_nf (by decide), gI_same, gI_nf (by decide), gI_same]
      exact sayF_eq hsg i hi
  · obtain ⟨arr, e1, e2⟩ := tells_ok hb7 hn hhN hkd hB p2
    refine ⟨_, e1, (KeM.rf.sI (Or.inl rfl)).sA, ?_, ?_⟩
    · rw [gI_sAF, gI_same]
    · intro i hi
      rw [gA_same]
      exact e2 i hi
  · intro s hs
    obtain ⟨arr, e1, e2⟩ := goes_ok (s := s) (tb := gA m 5) (tr := gA m 4 2) hb7 hn hhN hkd hB p2 ha hmo hpm rfl (fun i hi => by rw [← (b1 i hi).1]; exact (b1 i hi).2) rfl hs
    refine ⟨_, e1, ((KeM.rf.sI (Or.inl rfl)).sA.sI (Or.inr (Or.inl rfl))).sI (Or.inr (Or.inr rfl)), ?_, ?_⟩
    · rw [gI_nf (by decide), gI_same]
    · rw [gI_same]
