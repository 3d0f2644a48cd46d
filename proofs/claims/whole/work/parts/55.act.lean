/-! act: the moves and their trace -/
def bdT (mv k : Nat) : Int32 := if mv = 0 then (if k = 1 then 20 else if k = 3 then 40 else if k = 4 then 51 else if k = 6 then 70 else 10) else if mv = 1 then (if k = 2 then 30 else if k = 5 then 30 else if k = 6 then 71 else 11) else (if k = 4 then 50 else if k = 5 then 60 else 12)
theorem body_ok {mv k : Nat} {c : fkS} (hm : mv < 3) (hk : k < 7) : F1_bodyFrom (nI mv) (nI k) c = some (bdT mv k, c) := by
  unfold F1_bodyFrom
  obtain ⟨w, hw⟩ : ∃ w, fk_fuel = w + 10 := ⟨1190, rfl⟩
  rw [hw]
  rcases mv with _ | _ | _ | mv <;> (try (exfalso; omega)) <;> rcases k with _ | _ | _ | _ | _ | _ | _ | k <;> (try (exfalso; omega)) <;> rfl
def EqTC (c0 c : fkS) : Prop := (∀ f i, i ≠ 36 → gI c f i = gI c0 f i) ∧ (∀ i, i ≠ 37 → gA c i = gA c0 i) ∧ ∀ i, gL c i = gL c0 i
def EqTM (m0 m : fkS) : Prop := (∀ f i, f ≠ 17 → gI m f i = gI m0 f i) ∧ (∀ i, i ≠ 11 → gA m i = gA m0 i) ∧ ∀ i, gL m i = gL m0 i
def Mr (c0 m0 : fkS) (b kd R : Nat) (a : Int32) (c m : fkS) : Prop := b < 7 ∧ kd < 7 ∧ (gI c 22 36 = nI kd ∧ gI c 23 36 = nI b ∧ gI c 24 36 = a) ∧ (gA m 1 b = nI kd ∧ gA m 2 b = a) ∧ (∃ r, r ≤ R ∧ gI c 21 36 = nI r ∧ gI m 17 0 = nI r) ∧ (∀ j, j < 20 → gA c 37 j = gA m 11 j) ∧ EqTC c0 c ∧ EqTM m0 m
theorem Mr.mono {c0 m0 c m : fkS} {b kd R R' : Nat} {a : Int32} (h : Mr c0 m0 b kd R a c m) (hR : R ≤ R') : Mr c0 m0 b kd R' a c m := by
  obtain ⟨h0, h0', h1, h2, ⟨r, h3, h4⟩, h5⟩ := h
  exact ⟨h0, h0', h1, h2, ⟨r, by omega, h4⟩, h5⟩
theorem both_begin {c0 m0 c m : fkS} {b kd R : Nat} {a : Int32} (h : Mr c0 m0 b kd R a c m) (hR : R ≤ 100) (bo : Int32) : ∃ c' m', F1_begin bo c = some ((), c') ∧ F8_ran bo m = some ((), m') ∧ Mr c0 m0 b kd (R + 1) a c' m' := by
  obtain ⟨h0, h0', ⟨k1, k2, k3⟩, ⟨l1, l2⟩, ⟨r, r1, r2, r3⟩, hj, ⟨x1, x2, x3⟩, y1, y2, y3⟩ := h
  unfold F1_begin F8_ran
  have q0 : ¬ nI r < 0 := nI_pos (by omega)
  by_cases q : 20 ≤ r
  · have q' : (20 : Int32) ≤ nI r := by
      rw [zl20, nI_leI (by decide) (by omega)]
      exact q
    simp only [fk_let_e, r2, r3, if_neg q0, if_pos q', B1_begin_29, B8_ran_19, nI_1]
    refine ⟨_, _, rfl, rfl, h0, h0', ⟨?_, ?_, ?_⟩, ⟨l1, l2⟩, ⟨r + 1, by omega, gI_same, gI_same⟩, hj, ⟨fun f i n => ?_, x2, x3⟩, fun f i n => ?_, y2, y3⟩
    · rw [gI_nf (by decide)]; exact k1
    · rw [gI_nf (by decide)]; exact k2
    · rw [gI_nf (by decide)]; exact k3
    · rw [gI_ni n]; exact x1 f i n
    · rw [gI_nf n]; exact y1 f i n
  · have q' : ¬ (20 : Int32) ≤ nI r := by
      rw [zl20, nI_leI (by decide) (by omega)]
      exact q
    simp (disch := omega) only [fk_let_e, r2, r3, if_neg q0, if_neg q', fk_chk_in, nI_clamp, B1_begin_29, B8_ran_19, gI_sA, nI_1]
    refine ⟨_, _, rfl, rfl, h0, h0', ⟨?_, ?_, ?_⟩, ⟨?_, ?_⟩, ⟨r + 1, by omega, gI_same, gI_same⟩, fun j hj2 => ?_, ⟨fun f i n => ?_, fun i n => ?_, x3⟩, fun f i n => ?_, fun i n => ?_, y3⟩
    · rw [gI_nf (by decide)]; exact k1
    · rw [gI_nf (by decide)]; exact k2
    · rw [gI_nf (by decide)]; exact k3
    · rw [gA_sI, gA_sA, if_neg (by decide)]; exact l1
    · rw [gA_sI, gA_sA, if_neg (by decide)]; exact l2
    · rw [gA_sI, gA_sA, if_pos rfl, gA_sI, gA_sA, if_pos rfl]
      by_cases z : j = r
      · rw [z, upd_same, upd_same]
      · rw [upd_ne z, upd_ne z]
        exact hj j hj2
    · rw [gI_ni n]; exact x1 f i n
    · rw [gA_sI, gA_sA, if_neg n]; exact x2 i n
    · rw [gI_nf n]; exact y1 f i n
    · rw [gA_sI, gA_sA, if_neg n]; exact y2 i n
def runT (rec : Int32 → Int32 → Int32 → Int32 → fkS → Option (Int32 × fkS)) (x1 p3 p4 : Int32) (st3 : fkS) : Option (Int32 × fkS) :=
 if x1 = (10 : Int32) then
 (fk_let (gI st3 23 36) <| fun x5 =>
 some ((p3 + x5), st3))
 else
 (if x1 = (11 : Int32) then
 (fk_let (gI st3 22 36) <| fun x7 =>
 fk_bind (rec (0 : Int32) x7 p3 (p4 + (1 : Int32)) st3) <| fun x8 st9 =>
 some ((x8 * (2 : Int32)), st9))
 else
 (if x1 = (12 : Int32) then
 (fk_let (gI st3 22 36) <| fun x11 =>
 fk_bind (rec (1 : Int32) x11 p3 (p4 + (1 : Int32)) st3) <| fun x12 st13 =>
 fk_let (gI st13 22 36) <| fun x14 =>
 fk_let (gI st13 24 36) <| fun x15 =>
 fk_bind (rec (0 : Int32) x14 (p3 - x15) (p4 + (1 : Int32)) st13) <| fun x16 st17 =>
 some ((x12 ^^^ x16), st17))
 else
 (if x1 = (20 : Int32) then
 (fk_bind (rec (0 : Int32) (0 : Int32) p3 (p4 + (1 : Int32)) st3) <| fun x19 st20 =>
 fk_let (gI st20 24 36) <| fun x21 =>
 some ((x19 + x21), st20))
 else
 (if x1 = (30 : Int32) then
 (fk_bind (rec (1 : Int32) (0 : Int32) p3 (p4 + (1 : Int32)) st3) <| fun x23 st24 =>
 some ((x23 * (3 : Int32)), st24))
 else
 (if x1 = (40 : Int32) then
 (fk_bind (rec (0 : Int32) (1 : Int32) (p3 + (1 : Int32)) (p4 + (1 : Int32)) st3) <| fun x26 st27 =>
 some (x26, st27))
 else
 (if x1 = (50 : Int32) then
 (fk_bind (rec (2 : Int32) (0 : Int32) p3 (p4 + (1 : Int32)) st3) <| fun x29 st30 =>
 some ((-x29), st30))
 else
 (if x1 = (51 : Int32) then
 (fk_bind (rec (0 : Int32) (0 : Int32) p3 (p4 + (1 : Int32)) st3) <| fun x32 st33 =>
 fk_let (gI st33 23 36) <| fun x34 =>
 some ((x32 - x34), st33))
 else
 (if x1 = (60 : Int32) then
 (fk_bind (rec (2 : Int32) (2 : Int32) p3 (p4 + (1 : Int32)) st3) <| fun x36 st37 =>
 some ((x36 ^^^ (5 : Int32)), st37))
 else
 (if x1 = (70 : Int32) then
 (fk_bind (rec (0 : Int32) (3 : Int32) p3 (p4 + (1 : Int32)) st3) <| fun x39 st40 =>
 some ((x39 * (2 : Int32)), st40))
 else
 (if x1 = (71 : Int32) then
 (fk_let (gI st3 24 36) <| fun x42 =>
 fk_bind (rec (1 : Int32) (3 : Int32) (p3 - x42) (p4 + (1 : Int32)) st3) <| fun x43 st44 =>
 some (x43, st44))
 else
 (some ((0 : Int32), st3))))))))))))
theorem run_b {mv k d n : Nat} {B x : Int32} {c c1 : fkS} (hm : mv < 3) (hk : k < 7) (hd : d ≤ 8) (hB : bdT mv k = B) (h : F1_begin B c = some ((), c1)) : fk_lp4 G1_run (n + 1) (nI mv) (nI k) x (nI d) c = runT (fk_lp4 G1_run n) B x (nI d) c1 := by
  rw [fk_lp4_s, G1_run, if_pos (show nI d ≤ (8 : Int32) by rw [zl8, nI_leI (by omega) (by decide)]; exact hd), body_ok hm hk, fk_bind_some, hB, h, fk_bind_some]
  rfl
theorem run_al {mv k k' n : Nat} {x d : Int32} {c : fkS} (hm : mv < 3) (hk : k < 7) (hk' : k' < 7) (hB : bdT mv k = bdT mv k') : fk_lp4 G1_run (n + 1) (nI mv) (nI k) x d c = fk_lp4 G1_run (n + 1) (nI mv) (nI k') x d c := by
  rw [fk_lp4_s, fk_lp4_s, G1_run, G1_run, body_ok hm hk, body_ok hm hk', hB]
def OkR (c0 m0 : fkS) (b kd : Nat) (a : Int32) (G : (Int32 → Int32 → Int32 → fkS → Option (Int32 × fkS)) → Int32 → Int32 → Int32 → fkS → Option (Int32 × fkS)) (mv k h i g : Nat) : Prop :=
  ∀ (n d fm : Nat) (x : Int32) (c m : fkS) (R : Nat), h < n → d + h ≤ 8 → g ≤ fm → R + i ≤ 100 → Mr c0 m0 b kd R a c m → ∃ (v : Int32) (c' m' : fkS), fk_lp4 G1_run n (nI mv) (nI k) x (nI d) c = some (v, c') ∧ fk_lp3 G fm (nI b) (nI k) x m = some (v, m') ∧ Mr c0 m0 b kd (R + i) a c' m'
theorem OkR.mono {c0 m0 : fkS} {b kd mv k h i g h' i' g' : Nat} {a : Int32} {G : (Int32 → Int32 → Int32 → fkS → Option (Int32 × fkS)) → Int32 → Int32 → Int32 → fkS → Option (Int32 × fkS)} (o : OkR c0 m0 b kd a G mv k h i g) (hh : h ≤ h') (hi : i ≤ i') (hg : g ≤ g') : OkR c0 m0 b kd a G mv k h' i' g' := by
  intro n d fm x c m R q1 q2 q3 q4 q5
  obtain ⟨v, c', m', e1, e2, e3⟩ := o n d fm x c m R (by omega) (by omega) (by omega) (by omega) q5
  exact ⟨v, c', m', e1, e2, e3.mono (by omega)⟩
theorem OkR.al {c0 m0 : fkS} {b kd mv k k' h i g : Nat} {a : Int32} {G : (Int32 → Int32 → Int32 → fkS → Option (Int32 × fkS)) → Int32 → Int32 → Int32 → fkS → Option (Int32 × fkS)} (o : OkR c0 m0 b kd a G mv k' h i g) (hm : mv < 3) (hk : k < 7) (hk' : k' < 7) (hB : bdT mv k = bdT mv k')
    (hG : ∀ rec x m, G rec (nI b) (nI k) x m = fk_bind (rec (nI b) (nI k') x m) (fun u v => some (u, v))) : OkR c0 m0 b kd a G mv k h i (g + 1) := by
  intro n d fm x c m R q1 q2 q3 q4 q5
  obtain ⟨n', rfl⟩ : ∃ w, n = w + 1 := ⟨n - 1, by omega⟩
  obtain ⟨f', rfl⟩ : ∃ w, fm = w + 1 := ⟨fm - 1, by omega⟩
  obtain ⟨v, c', m', e1, e2, e3⟩ := o (n' + 1) d f' x c m R q1 q2 (by omega) q4 q5
  refine ⟨v, c', m', ?_, ?_, e3⟩
  · rw [run_al hm hk hk' hB]
    exact e1
  · rw [fk_lp3_s, hG, e2, fk_bind_some]
theorem sing0 {c0 m0 : fkS} {b kd : Nat} {a : Int32} : OkR c0 m0 b kd a G8_singsBy 0 0 0 1 1 := by
  intro n d fm x c m R q1 q2 q3 q4 q5
  obtain ⟨n', rfl⟩ : ∃ w, n = w + 1 := ⟨n - 1, by omega⟩
  obtain ⟨f', rfl⟩ : ∃ w, fm = w + 1 := ⟨fm - 1, by omega⟩
  obtain ⟨c1, m1, b1, b2, b3⟩ := both_begin q5 (by omega) (10 : Int32)
  rw [run_b (by decide) (by decide) (by omega) (show bdT 0 0 = 10 from rfl) b1, runT, if_pos rfl, fk_lp3_s]
  rw [G8_singsBy, if_pos (show nI 0 = 0 from rfl), b2, fk_bind_some, fk_let_e, b3.2.2.1.2.1]
  exact ⟨_, _, _, rfl, rfl, b3⟩
theorem sing1 {c0 m0 : fkS} {b kd : Nat} {a : Int32} : OkR c0 m0 b kd a G8_singsBy 0 1 1 2 2 := by
  intro n d fm x c m R q1 q2 q3 q4 q5
  obtain ⟨n', rfl⟩ : ∃ w, n = w + 1 := ⟨n - 1, by omega⟩
  obtain ⟨f', rfl⟩ : ∃ w, fm = w + 1 := ⟨fm - 1, by omega⟩
  obtain ⟨c1, m1, b1, b2, b3⟩ := both_begin q5 (by omega) (20 : Int32)
  rw [run_b (by decide) (by decide) (by omega) (show bdT 0 1 = 20 from rfl) b1, runT, if_neg (show ¬ (20 : Int32) = 10 by decide), if_neg (show ¬ (20 : Int32) = 11 by decide), if_neg (show ¬ (20 : Int32) = 12 by decide), if_pos rfl, fk_lp3_s]
  obtain ⟨v, c2, m2, e1, e2, e3⟩ := sing0 n' (d + 1) f' x c1 m1 (R + 1) (by omega) (by omega) (by omega) (by omega) b3
  rw [nI_1, show fk_lp4 G1_run n' (0 : Int32) (0 : Int32) x (nI (d + 1)) c1 = _ from e1, fk_bind_some, fk_let_e, e3.2.2.1.2.2, G8_singsBy, if_neg (show ¬ nI 1 = 0 by decide), if_pos (show nI 1 = 1 from rfl), b2, fk_bind_some, show fk_lp3 G8_singsBy f' (nI b) (0 : Int32) x m1 = _ from e2, fk_bind_some, fk_chk_in e3.1 (by decide), fk_let_e, nI_clamp (have := e3.1; by omega), e3.2.2.2.1.2]
  exact ⟨_, _, _, rfl, rfl, e3.mono (by omega)⟩
theorem sing2 {c0 m0 : fkS} {b kd : Nat} {a : Int32} : OkR c0 m0 b kd a G8_singsBy 0 2 0 1 2 := by
  refine OkR.al sing0 (by decide) (by decide) (by decide) rfl (fun rec x m => ?_)
  rw [G8_singsBy, if_neg (show ¬ nI 2 = 0 by decide), if_neg (show ¬ nI 2 = 1 by decide), if_pos (show nI 2 = 2 from rfl)]
  rfl
theorem sing3 {c0 m0 : fkS} {b kd : Nat} {a : Int32} : OkR c0 m0 b kd a G8_singsBy 0 3 2 3 3 := by
  intro n d fm x c m R q1 q2 q3 q4 q5
  obtain ⟨n', rfl⟩ : ∃ w, n = w + 1 := ⟨n - 1, by omega⟩
  obtain ⟨f', rfl⟩ : ∃ w, fm = w + 1 := ⟨fm - 1, by omega⟩
  obtain ⟨c1, m1, b1, b2, b3⟩ := both_begin q5 (by omega) (40 : Int32)
  rw [run_b (by decide) (by decide) (by omega) (show bdT 0 3 = 40 from rfl) b1, runT, if_neg (show ¬ (40 : Int32) = 10 by decide), if_neg (show ¬ (40 : Int32) = 11 by decide), if_neg (show ¬ (40 : Int32) = 12 by decide), if_neg (show ¬ (40 : Int32) = 20 by decide), if_neg (show ¬ (40 : Int32) = 30 by decide), if_pos rfl, fk_lp3_s]
  obtain ⟨v, c2, m2, e1, e2, e3⟩ := sing1 n' (d + 1) f' (x + 1) c1 m1 (R + 1) (by omega) (by omega) (by omega) (by omega) b3
  rw [nI_1, show fk_lp4 G1_run n' (0 : Int32) (1 : Int32) (x + 1) (nI (d + 1)) c1 = _ from e1, fk_bind_some, G8_singsBy, if_neg (show ¬ nI 3 = 0 by decide), if_neg (show ¬ nI 3 = 1 by decide), if_neg (show ¬ nI 3 = 2 by decide), if_pos (show nI 3 = 3 from rfl), b2, fk_bind_some, show fk_lp3 G8_singsBy f' (nI b) (1 : Int32) (x + 1) m1 = _ from e2, fk_bind_some]
  exact ⟨_, _, _, rfl, rfl, e3.mono (by omega)⟩
theorem sing4 {c0 m0 : fkS} {b kd : Nat} {a : Int32} : OkR c0 m0 b kd a G8_singsBy 0 4 1 2 2 := by
  intro n d fm x c m R q1 q2 q3 q4 q5
  obtain ⟨n', rfl⟩ : ∃ w, n = w + 1 := ⟨n - 1, by omega⟩
  obtain ⟨f', rfl⟩ : ∃ w, fm = w + 1 := ⟨fm - 1, by omega⟩
  obtain ⟨c1, m1, b1, b2, b3⟩ := both_begin q5 (by omega) (51 : Int32)
  rw [run_b (by decide) (by decide) (by omega) (show bdT 0 4 = 51 from rfl) b1, runT, if_neg (show ¬ (51 : Int32) = 10 by decide), if_neg (show ¬ (51 : Int32) = 11 by decide), if_neg (show ¬ (51 : Int32) = 12 by decide), if_neg (show ¬ (51 : Int32) = 20 by decide), if_neg (show ¬ (51 : Int32) = 30 by decide), if_neg (show ¬ (51 : Int32) = 40 by decide), if_neg (show ¬ (51 : Int32) = 50 by decide), if_pos rfl, fk_lp3_s]
  obtain ⟨v, c2, m2, e1, e2, e3⟩ := sing0 n' (d + 1) f' x c1 m1 (R + 1) (by omega) (by omega) (by omega) (by omega) b3
  rw [nI_1, show fk_lp4 G1_run n' (0 : Int32) (0 : Int32) x (nI (d + 1)) c1 = _ from e1, fk_bind_some, fk_let_e, e3.2.2.1.2.1, G8_singsBy, if_neg (show ¬ nI 4 = 0 by decide), if_neg (show ¬ nI 4 = 1 by decide), if_neg (show ¬ nI 4 = 2 by decide), if_neg (show ¬ nI 4 = 3 by decide), if_pos (show nI 4 = 4 from rfl), b2, fk_bind_some, show fk_lp3 G8_singsBy f' (nI b) (0 : Int32) x m1 = _ from e2, fk_bind_some]
  exact ⟨_, _, _, rfl, rfl, e3.mono (by omega)⟩
theorem sing5 {c0 m0 : fkS} {b kd : Nat} {a : Int32} : OkR c0 m0 b kd a G8_singsBy 0 5 0 1 3 := by
  refine OkR.al sing2 (by decide) (by decide) (by decide) rfl (fun rec x m => ?_)
  rw [G8_singsBy, if_neg (show ¬ nI 5 = 0 by decide), if_neg (show ¬ nI 5 = 1 by decide), if_neg (show ¬ nI 5 = 2 by decide), if_neg (show ¬ nI 5 = 3 by decide), if_neg (show ¬ nI 5 = 4 by decide), if_pos (show nI 5 = 5 from rfl)]
  rfl
theorem sing6 {c0 m0 : fkS} {b kd : Nat} {a : Int32} : OkR c0 m0 b kd a G8_singsBy 0 6 3 4 4 := by
  intro n d fm x c m R q1 q2 q3 q4 q5
  obtain ⟨n', rfl⟩ : ∃ w, n = w + 1 := ⟨n - 1, by omega⟩
  obtain ⟨f', rfl⟩ : ∃ w, fm = w + 1 := ⟨fm - 1, by omega⟩
  obtain ⟨c1, m1, b1, b2, b3⟩ := both_begin q5 (by omega) (70 : Int32)
  rw [run_b (by decide) (by decide) (by omega) (show bdT 0 6 = 70 from rfl) b1, runT, if_neg (show ¬ (70 : Int32) = 10 by decide), if_neg (show ¬ (70 : Int32) = 11 by decide), if_neg (show ¬ (70 : Int32) = 12 by decide), if_neg (show ¬ (70 : Int32) = 20 by decide), if_neg (show ¬ (70 : Int32) = 30 by decide), if_neg (show ¬ (70 : Int32) = 40 by decide), if_neg (show ¬ (70 : Int32) = 50 by decide), if_neg (show ¬ (70 : Int32) = 51 by decide), if_neg (show ¬ (70 : Int32) = 60 by decide), if_pos rfl, fk_lp3_s]
  obtain ⟨v, c2, m2, e1, e2, e3⟩ := sing3 n' (d + 1) f' x c1 m1 (R + 1) (by omega) (by omega) (by omega) (by omega) b3
  rw [nI_1, show fk_lp4 G1_run n' (0 : Int32) (3 : Int32) x (nI (d + 1)) c1 = _ from e1, fk_bind_some, G8_singsBy, if_neg (show ¬ nI 6 = 0 by decide), if_neg (show ¬ nI 6 = 1 by decide), if_neg (show ¬ nI 6 = 2 by decide), if_neg (show ¬ nI 6 = 3 by decide), if_neg (show ¬ nI 6 = 4 by decide), if_neg (show ¬ nI 6 = 5 by decide), if_pos (show nI 6 = 6 from rfl), b2, fk_bind_some, show fk_lp3 G8_singsBy f' (nI b) (3 : Int32) x m1 = _ from e2, fk_bind_some]
  exact ⟨_, _, _, rfl, rfl, e3.mono (by omega)⟩
theorem sing_ok {c0 m0 : fkS} {b kd k : Nat} {a : Int32} (hk : k < 7) : OkR c0 m0 b kd a G8_singsBy 0 k 3 4 4 := by
  rcases k with _ | _ | _ | _ | _ | _ | _ | k <;> (try (exfalso; omega))
  · exact sing0.mono (by decide) (by decide) (by decide)
  · exact sing1.mono (by decide) (by decide) (by decide)
  · exact sing2.mono (by decide) (by decide) (by decide)
  · exact sing3.mono (by decide) (by decide) (by decide)
  · exact sing4.mono (by decide) (by decide) (by decide)
  · exact sing5.mono (by decide) (by decide) (by decide)
  · exact sing6.mono (by decide) (by decide) (by decide)
theorem steam0 {c0 m0 : fkS} {b kd : Nat} {a : Int32} : OkR c0 m0 b kd a G8_steamsBy 1 0 4 5 1 := by
  intro n d fm x c m R q1 q2 q3 q4 q5
  obtain ⟨n', rfl⟩ : ∃ w, n = w + 1 := ⟨n - 1, by omega⟩
  obtain ⟨f', rfl⟩ : ∃ w, fm = w + 1 := ⟨fm - 1, by omega⟩
  obtain ⟨c1, m1, b1, b2, b3⟩ := both_begin q5 (by omega) (11 : Int32)
  rw [run_b (by decide) (by decide) (by omega) (show bdT 1 0 = 11 from rfl) b1, runT, if_neg (show ¬ (11 : Int32) = 10 by decide), if_pos rfl, fk_lp3_s]
  obtain ⟨v, c2, m2, e1, e2, e3⟩ := sing_ok b3.2.1 n' (d + 1) 12 x c1 m1 (R + 1) (by omega) (by omega) (by omega) (by omega) b3
  rw [fk_let_e, b3.2.2.1.1, nI_1, show fk_lp4 G1_run n' (0 : Int32) (nI kd) x (nI (d + 1)) c1 = _ from e1, fk_bind_some, G8_steamsBy, if_pos (show nI 0 = 0 from rfl), b2, fk_bind_some, fk_chk_in b3.1 (by decide), fk_let_e, nI_clamp (have := b3.1; by omega), b3.2.2.2.1.1, F8_singsBy, e2, fk_bind_some]
  exact ⟨_, _, _, rfl, rfl, e3.mono (by omega)⟩
theorem steam1 {c0 m0 : fkS} {b kd : Nat} {a : Int32} : OkR c0 m0 b kd a G8_steamsBy 1 1 4 5 2 := by
  refine OkR.al steam0 (by decide) (by decide) (by decide) rfl (fun rec x m => ?_)
  rw [G8_steamsBy, if_neg (show ¬ nI 1 = 0 by decide), if_neg (show ¬ nI 1 = 2 by decide), if_neg (show ¬ nI 1 = 6 by decide)]
  rfl
theorem steam2 {c0 m0 : fkS} {b kd : Nat} {a : Int32} : OkR c0 m0 b kd a G8_steamsBy 1 2 5 6 2 := by
  intro n d fm x c m R q1 q2 q3 q4 q5
  obtain ⟨n', rfl⟩ : ∃ w, n = w + 1 := ⟨n - 1, by omega⟩
  obtain ⟨f', rfl⟩ : ∃ w, fm = w + 1 := ⟨fm - 1, by omega⟩
  obtain ⟨c1, m1, b1, b2, b3⟩ := both_begin q5 (by omega) (30 : Int32)
  rw [run_b (by decide) (by decide) (by omega) (show bdT 1 2 = 30 from rfl) b1, runT, if_neg (show ¬ (30 : Int32) = 10 by decide), if_neg (show ¬ (30 : Int32) = 11 by decide), if_neg (show ¬ (30 : Int32) = 12 by decide), if_neg (show ¬ (30 : Int32) = 20 by decide), if_pos rfl, fk_lp3_s]
  obtain ⟨v, c2, m2, e1, e2, e3⟩ := steam0 n' (d + 1) f' x c1 m1 (R + 1) (by omega) (by omega) (by omega) (by omega) b3
  rw [nI_1, show fk_lp4 G1_run n' (1 : Int32) (0 : Int32) x (nI (d + 1)) c1 = _ from e1, fk_bind_some, G8_steamsBy, if_neg (show ¬ nI 2 = 0 by decide), if_pos (show nI 2 = 2 from rfl), b2, fk_bind_some, show fk_lp3 G8_steamsBy f' (nI b) (0 : Int32) x m1 = _ from e2, fk_bind_some]
  exact ⟨_, _, _, rfl, rfl, e3.mono (by omega)⟩
theorem steam3 {c0 m0 : fkS} {b kd : Nat} {a : Int32} : OkR c0 m0 b kd a G8_steamsBy 1 3 4 5 3 := by
  refine OkR.al steam1 (by decide) (by decide) (by decide) rfl (fun rec x m => ?_)
  rw [G8_steamsBy, if_neg (show ¬ nI 3 = 0 by decide), if_neg (show ¬ nI 3 = 2 by decide), if_neg (show ¬ nI 3 = 6 by decide)]
  rfl
theorem steam4 {c0 m0 : fkS} {b kd : Nat} {a : Int32} : OkR c0 m0 b kd a G8_steamsBy 1 4 4 5 2 := by
  refine OkR.al steam0 (by decide) (by decide) (by decide) rfl (fun rec x m => ?_)
  rw [G8_steamsBy, if_neg (show ¬ nI 4 = 0 by decide), if_neg (show ¬ nI 4 = 2 by decide), if_neg (show ¬ nI 4 = 6 by decide)]
  rfl
theorem steam5 {c0 m0 : fkS} {b kd : Nat} {a : Int32} : OkR c0 m0 b kd a G8_steamsBy 1 5 5 6 3 := by
  refine OkR.al steam2 (by decide) (by decide) (by decide) rfl (fun rec x m => ?_)
  rw [G8_steamsBy, if_neg (show ¬ nI 5 = 0 by decide), if_neg (show ¬ nI 5 = 2 by decide), if_neg (show ¬ nI 5 = 6 by decide)]
  rfl
theorem steam6 {c0 m0 : fkS} {b kd : Nat} {a : Int32} : OkR c0 m0 b kd a G8_steamsBy 1 6 5 6 4 := by
  intro n d fm x c m R q1 q2 q3 q4 q5
  obtain ⟨n', rfl⟩ : ∃ w, n = w + 1 := ⟨n - 1, by omega⟩
  obtain ⟨f', rfl⟩ : ∃ w, fm = w + 1 := ⟨fm - 1, by omega⟩
  obtain ⟨c1, m1, b1, b2, b3⟩ := both_begin q5 (by omega) (71 : Int32)
  rw [run_b (by decide) (by decide) (by omega) (show bdT 1 6 = 71 from rfl) b1, runT, if_neg (show ¬ (71 : Int32) = 10 by decide), if_neg (show ¬ (71 : Int32) = 11 by decide), if_neg (show ¬ (71 : Int32) = 12 by decide), if_neg (show ¬ (71 : Int32) = 20 by decide), if_neg (show ¬ (71 : Int32) = 30 by decide), if_neg (show ¬ (71 : Int32) = 40 by decide), if_neg (show ¬ (71 : Int32) = 50 by decide), if_neg (show ¬ (71 : Int32) = 51 by decide), if_neg (show ¬ (71 : Int32) = 60 by decide), if_neg (show ¬ (71 : Int32) = 70 by decide), if_pos rfl, fk_lp3_s]
  obtain ⟨v, c2, m2, e1, e2, e3⟩ := steam3 n' (d + 1) f' (x - a) c1 m1 (R + 1) (by omega) (by omega) (by omega) (by omega) b3
  rw [fk_let_e, b3.2.2.1.2.2, nI_1, show fk_lp4 G1_run n' (1 : Int32) (3 : Int32) (x - a) (nI (d + 1)) c1 = _ from e1, fk_bind_some, G8_steamsBy, if_neg (show ¬ nI 6 = 0 by decide), if_neg (show ¬ nI 6 = 2 by decide), if_pos (show nI 6 = 6 from rfl), b2, fk_bind_some, fk_chk_in b3.1 (by decide), fk_let_e, nI_clamp (have := b3.1; by omega), b3.2.2.2.1.2, show fk_lp3 G8_steamsBy f' (nI b) (3 : Int32) (x - a) m1 = _ from e2, fk_bind_some]
  exact ⟨_, _, _, rfl, rfl, e3.mono (by omega)⟩
theorem steam_ok {c0 m0 : fkS} {b kd k : Nat} {a : Int32} (hk : k < 7) : OkR c0 m0 b kd a G8_steamsBy 1 k 5 6 4 := by
  rcases k with _ | _ | _ | _ | _ | _ | _ | k <;> (try (exfalso; omega))
  · exact steam0.mono (by decide) (by decide) (by decide)
  · exact steam1.mono (by decide) (by decide) (by decide)
  · exact steam2.mono (by decide) (by decide) (by decide)
  · exact steam3.mono (by decide) (by decide) (by decide)
  · exact steam4.mono (by decide) (by decide) (by decide)
  · exact steam5.mono (by decide) (by decide) (by decide)
  · exact steam6.mono (by decide) (by decide) (by decide)
theorem fall0 {c0 m0 : fkS} {b kd : Nat} {a : Int32} : OkR c0 m0 b kd a G8_fallsBy 2 0 6 11 1 := by
  intro n d fm x c m R q1 q2 q3 q4 q5
  obtain ⟨n', rfl⟩ : ∃ w, n = w + 1 := ⟨n - 1, by omega⟩
  obtain ⟨f', rfl⟩ : ∃ w, fm = w + 1 := ⟨fm - 1, by omega⟩
  obtain ⟨c1, m1, b1, b2, b3⟩ := both_begin q5 (by omega) (12 : Int32)
  rw [run_b (by decide) (by decide) (by omega) (show bdT 2 0 = 12 from rfl) b1, runT, if_neg (show ¬ (12 : Int32) = 10 by decide), if_neg (show ¬ (12 : Int32) = 11 by decide), if_pos rfl, fk_lp3_s]
  obtain ⟨v, c2, m2, e1, e2, e3⟩ := steam_ok b3.2.1 n' (d + 1) 12 x c1 m1 (R + 1) (by omega) (by omega) (by omega) (by omega) b3
  obtain ⟨v2, c3, m3, g1, g2, g3⟩ := sing_ok e3.2.1 n' (d + 1) 12 (x - a) c2 m2 (R + 1 + 6) (by omega) (by omega) (by omega) (by omega) e3
  rw [fk_let_e, b3.2.2.1.1, nI_1, show fk_lp4 G1_run n' (1 : Int32) (nI kd) x (nI (d + 1)) c1 = _ from e1, fk_bind_some, fk_let_e, fk_let_e, e3.2.2.1.1, e3.2.2.1.2.2, show fk_lp4 G1_run n' (0 : Int32) (nI kd) (x - a) (nI (d + 1)) c2 = _ from g1, fk_bind_some, G8_fallsBy, if_pos (show nI 0 = 0 from rfl), b2, fk_bind_some, fk_chk_in b3.1 (by decide), fk_let_e, nI_clamp (have := b3.1; by omega), b3.2.2.2.1.1, F8_steamsBy, e2, fk_bind_some, fk_chk_in b3.1 (by decide), fk_let_e, fk_chk_in b3.1 (by decide), fk_let_e, e3.2.2.2.1.1, e3.2.2.2.1.2, F8_singsBy, g2, fk_bind_some]
  exact ⟨_, _, _, rfl, rfl, g3.mono (by omega)⟩
theorem fall1 {c0 m0 : fkS} {b kd : Nat} {a : Int32} : OkR c0 m0 b kd a G8_fallsBy 2 1 6 11 2 := by
  refine OkR.al fall0 (by decide) (by decide) (by decide) rfl (fun rec x m => ?_)
  rw [G8_fallsBy, if_neg (show ¬ nI 1 = 0 by decide), if_neg (show ¬ nI 1 = 4 by decide), if_neg (show ¬ nI 1 = 5 by decide)]
  rfl
theorem fall2 {c0 m0 : fkS} {b kd : Nat} {a : Int32} : OkR c0 m0 b kd a G8_fallsBy 2 2 6 11 2 := by
  refine OkR.al fall0 (by decide) (by decide) (by decide) rfl (fun rec x m => ?_)
  rw [G8_fallsBy, if_neg (show ¬ nI 2 = 0 by decide), if_neg (show ¬ nI 2 = 4 by decide), if_neg (show ¬ nI 2 = 5 by decide)]
  rfl
theorem fall3 {c0 m0 : fkS} {b kd : Nat} {a : Int32} : OkR c0 m0 b kd a G8_fallsBy 2 3 6 11 3 := by
  refine OkR.al fall1 (by decide) (by decide) (by decide) rfl (fun rec x m => ?_)
  rw [G8_fallsBy, if_neg (show ¬ nI 3 = 0 by decide), if_neg (show ¬ nI 3 = 4 by decide), if_neg (show ¬ nI 3 = 5 by decide)]
  rfl
theorem fall4 {c0 m0 : fkS} {b kd : Nat} {a : Int32} : OkR c0 m0 b kd a G8_fallsBy 2 4 7 12 2 := by
  intro n d fm x c m R q1 q2 q3 q4 q5
  obtain ⟨n', rfl⟩ : ∃ w, n = w + 1 := ⟨n - 1, by omega⟩
  obtain ⟨f', rfl⟩ : ∃ w, fm = w + 1 := ⟨fm - 1, by omega⟩
  obtain ⟨c1, m1, b1, b2, b3⟩ := both_begin q5 (by omega) (50 : Int32)
  rw [run_b (by decide) (by decide) (by omega) (show bdT 2 4 = 50 from rfl) b1, runT, if_neg (show ¬ (50 : Int32) = 10 by decide), if_neg (show ¬ (50 : Int32) = 11 by decide), if_neg (show ¬ (50 : Int32) = 12 by decide), if_neg (show ¬ (50 : Int32) = 20 by decide), if_neg (show ¬ (50 : Int32) = 30 by decide), if_neg (show ¬ (50 : Int32) = 40 by decide), if_pos rfl, fk_lp3_s]
  obtain ⟨v, c2, m2, e1, e2, e3⟩ := fall0 n' (d + 1) f' x c1 m1 (R + 1) (by omega) (by omega) (by omega) (by omega) b3
  rw [nI_1, show fk_lp4 G1_run n' (2 : Int32) (0 : Int32) x (nI (d + 1)) c1 = _ from e1, fk_bind_some, G8_fallsBy, if_neg (show ¬ nI 4 = 0 by decide), if_pos (show nI 4 = 4 from rfl), b2, fk_bind_some, show fk_lp3 G8_fallsBy f' (nI b) (0 : Int32) x m1 = _ from e2, fk_bind_some]
  exact ⟨_, _, _, rfl, rfl, e3.mono (by omega)⟩
theorem fall5 {c0 m0 : fkS} {b kd : Nat} {a : Int32} : OkR c0 m0 b kd a G8_fallsBy 2 5 7 12 3 := by
  intro n d fm x c m R q1 q2 q3 q4 q5
  obtain ⟨n', rfl⟩ : ∃ w, n = w + 1 := ⟨n - 1, by omega⟩
  obtain ⟨f', rfl⟩ : ∃ w, fm = w + 1 := ⟨fm - 1, by omega⟩
  obtain ⟨c1, m1, b1, b2, b3⟩ := both_begin q5 (by omega) (60 : Int32)
  rw [run_b (by decide) (by decide) (by omega) (show bdT 2 5 = 60 from rfl) b1, runT, if_neg (show ¬ (60 : Int32) = 10 by decide), if_neg (show ¬ (60 : Int32) = 11 by decide), if_neg (show ¬ (60 : Int32) = 12 by decide), if_neg (show ¬ (60 : Int32) = 20 by decide), if_neg (show ¬ (60 : Int32) = 30 by decide), if_neg (show ¬ (60 : Int32) = 40 by decide), if_neg (show ¬ (60 : Int32) = 50 by decide), if_neg (show ¬ (60 : Int32) = 51 by decide), if_pos rfl, fk_lp3_s]
  obtain ⟨v, c2, m2, e1, e2, e3⟩ := fall2 n' (d + 1) f' x c1 m1 (R + 1) (by omega) (by omega) (by omega) (by omega) b3
  rw [nI_1, show fk_lp4 G1_run n' (2 : Int32) (2 : Int32) x (nI (d + 1)) c1 = _ from e1, fk_bind_some, G8_fallsBy, if_neg (show ¬ nI 5 = 0 by decide), if_neg (show ¬ nI 5 = 4 by decide), if_pos (show nI 5 = 5 from rfl), b2, fk_bind_some, show fk_lp3 G8_fallsBy f' (nI b) (2 : Int32) x m1 = _ from e2, fk_bind_some]
  exact ⟨_, _, _, rfl, rfl, e3.mono (by omega)⟩
theorem fall6 {c0 m0 : fkS} {b kd : Nat} {a : Int32} : OkR c0 m0 b kd a G8_fallsBy 2 6 6 11 4 := by
  refine OkR.al fall3 (by decide) (by decide) (by decide) rfl (fun rec x m => ?_)
  rw [G8_fallsBy, if_neg (show ¬ nI 6 = 0 by decide), if_neg (show ¬ nI 6 = 4 by decide), if_neg (show ¬ nI 6 = 5 by decide)]
  rfl
theorem fall_ok {c0 m0 : fkS} {b kd k : Nat} {a : Int32} (hk : k < 7) : OkR c0 m0 b kd a G8_fallsBy 2 k 7 12 4 := by
  rcases k with _ | _ | _ | _ | _ | _ | _ | k <;> (try (exfalso; omega))
  · exact fall0.mono (by decide) (by decide) (by decide)
  · exact fall1.mono (by decide) (by decide) (by decide)
  · exact fall2.mono (by decide) (by decide) (by decide)
  · exact fall3.mono (by decide) (by decide) (by decide)
  · exact fall4.mono (by decide) (by decide) (by decide)
  · exact fall5.mono (by decide) (by decide) (by decide)
  · exact fall6.mono (by decide) (by decide) (by decide)
/-- behind the moves all is as before but the trace -/
theorem RelN.moved {c m c' m' : fkS} {nb b kd R : Nat} {a : Int32} (h : RelN c m nb) (hM : Mr c m b kd R a c' m') (hR : R < 1000000) : RelN c' m' nb := by
  obtain ⟨-, -, -, -, ⟨r, r1, r2, r3⟩, hj, ⟨c1, c2, c3⟩, m1, m2, m3⟩ := hM
  obtain ⟨⟨a1, a2, a3, a4, a5, a6⟩, ⟨b1, b2, b3, b4⟩, ⟨d1, d2, d3⟩, hs, ⟨e1, e2, e3, e4⟩, ⟨f1, f2⟩⟩ := h
  refine ⟨⟨a1, ?_, ?_, ?_, ?_, ?_⟩, ⟨?_, ?_, ?_, ?_⟩, ⟨?_, ?_, ?_⟩, ?_, ⟨?_, ⟨r, by omega, r2, r3⟩, hj, ?_⟩, ⟨?_, ?_⟩⟩
  · rw [c1 0 19 (by decide)]; exact a2
  · rw [m1 0 0 (by decide)]; exact a3
  · rw [c2 22 (by decide), m2 1 (by decide)]; exact a4
  · rw [c2 25 (by decide), m2 2 (by decide)]; exact a5
  · rw [c2 28 (by decide), m2 3 (by decide)]; exact a6
  · rw [c2 31 (by decide), m2 5 (by decide)]; exact b1
  · rw [c1 5 19 (by decide), m2 4 (by decide)]; exact b2
  · rw [c1 6 19 (by decide), m2 4 (by decide)]; exact b3
  · rw [c1 7 19 (by decide), m2 4 (by decide)]; exact b4
  · rw [c1 8 19 (by decide), m1 6 0 (by decide)]; exact d1
  · rw [c1 9 19 (by decide), m1 7 0 (by decide)]; exact d2
  · rw [c1 10 19 (by decide), m1 8 0 (by decide)]; exact d3
  · intro s hs8
    have := hs s hs8
    unfold isE isB isR at this ⊢
    rw [c1 100 (3 + s) (by omega), c1 101 (3 + s) (by omega), c1 102 (3 + s) (by omega), c1 103 (3 + s) (by omega), m2 6 (by decide), m2 7 (by decide), c3, m3]
    exact this
  · rw [c1 80 34 (by decide), m1 15 0 (by decide)]; exact e1
  · rw [c2 1 (by decide), m2 12 (by decide)]; exact e4
  · rw [c1 144 0 (by decide), m1 20 0 (by decide)]; exact f1
  · rw [c1 144 0 (by decide)]
    unfold Kp at f2 ⊢
    rw [c1 0 21 (by decide), c2 24 (by decide), c2 27 (by decide), c2 30 (by decide), c2 33 (by decide), c1 5 21 (by decide), c1 6 21 (by decide), c1 7 21 (by decide), c1 8 21 (by decide), c1 9 21 (by decide), c1 10 21 (by decide), m2 13 (by decide), m1 36 0 (by decide)]
    exact f2
theorem RelN.forget {c m : fkS} {nb : Nat} (h : RelN c m nb) : RelN (sI c 21 36 0) (sI m 17 0 0) nb := by
  obtain ⟨ha, hb, hd, hs, ⟨e1, e2, e3, e4⟩, hi⟩ := h
  exact ⟨ha, hb, hd, hs, ⟨e1, ⟨0, by decide, gI_same, gI_same⟩, e3, e4⟩, hi⟩
theorem op_act {c m : fkS} (h : Rel c m) (b p x : Int32) : Op2 (F7_act b p x c) (F8_act b p x m) := by
  obtain ⟨nb, h⟩ := h
  have h := h.forget
  have hnb := h.1.1
  have k1 : ¬ (1 : Int32) = 0 := by decide
  have kr : (0 : Int32) = 0 := rfl
  unfold F7_act F8_act F1_forget
  rw [fk_let_e, fk_let_e, fk_bind_some]
  have h0 : gI (sI c 21 36 0) 21 36 = 0 := gI_same
  generalize sI c 21 36 0 = c at h h0 ⊢
  generalize sI m 17 0 0 = m at h ⊢
  rcases rgQ (x := b) nb with hb | hb
  rotate_left
  · rw [lacks_out hnb h.1.2.1 hb, fk_bind_some, if_neg k1, isBird_out hnb h.1.2.2.1 hb, fk_bind_some, if_pos kr]
    exact Op2.mk ⟨nb, h⟩
  · rw [lacks_in hnb h.1.2.1 hb, fk_bind_some, if_pos kr, isBird_in hnb h.1.2.2.1 hb, fk_bind_some, if_neg k1]
    rcases rgQ (x := p) 3 with hp | hp
    rotate_left
    · rw [within3_out hp, fk_bind_some, if_pos kr]
      by_cases z : p < 0
      · rw [if_pos z]
        exact Op2.mk ⟨nb, h⟩
      · rw [if_neg z, if_neg (fun y => hp (rg3.mpr ⟨z, y⟩))]
        exact Op2.mk ⟨nb, h⟩
    · rw [within3_in hp, fk_bind_some, if_neg k1, if_neg (rg3.mp hp).1, if_pos (rg3.mp hp).2]
      obtain ⟨bN, hb2, rfl⟩ := id hb
      have hb7 : bN < 7 := by omega
      obtain ⟨kd, hkd, ek⟩ := (h.1.2.2.2.1 bN hb7).2
      have e1 : gA m 1 bN = nI kd := by rw [← (h.1.2.2.2.1 bN hb7).1]; exact ek
      have e2 : gA m 2 bN = gA c 25 bN := (h.1.2.2.2.2.1 bN hb7).1.symm
      obtain ⟨r, r1, r2, r3⟩ := h.2.2.2.2.1.2.1
      have eT : F1_take 19 (nI bN) c = some ((), sI (sI (sI c 22 36 (nI kd)) 23 36 (nI bN)) 24 36 (gA c 25 bN)) := by
        unfold F1_take
        rw [lacks_in hnb h.1.2.1 hb, fk_bind_some, if_pos kr, fk_chk_in hb7 (by decide), fk_let_e, fk_let_e, fk_let_e, fk_chk_in hb7 (by decide), fk_let_e, fk_let_e, nI_clamp (by omega), show gA c (19 + 3) bN = nI kd from ek]
        rfl
      have hM : Mr c m bN kd 0 (gA c 25 bN) (sI (sI (sI c 22 36 (nI kd)) 23 36 (nI bN)) 24 36 (gA c 25 bN)) m := by
        have hr : r = 0 := by
          rw [r2, zl0, nI_eq (by omega) (by decide)] at h0
          exact h0
        subst hr
        refine ⟨hb7, hkd, ⟨?_, ?_, gI_same⟩, ⟨e1, e2⟩, ⟨0, Nat.le_refl _, ?_, r3⟩, h.2.2.2.2.1.2.2.1, ⟨fun f i n => ?_, fun _ _ => rfl, fun _ => rfl⟩, fun _ _ _ => rfl, fun _ _ => rfl, fun _ => rfl⟩
        · rw [gI_nf (by decide), gI_nf (by decide), gI_same]
        · rw [gI_nf (by decide), gI_same]
        · rw [gI_nf (by decide), gI_nf (by decide), gI_nf (by decide)]; exact r2
        · rw [gI_ni n, gI_ni n, gI_ni n]
      rw [eT, fk_bind_some, fk_let_e, hM.2.2.1.1, fk_chk_in hb7 (by decide), fk_let_e, nI_clamp (by omega), e1]
      obtain ⟨pN, hpN, rfl⟩ := hp
      unfold F1_run
      obtain rfl | rfl | rfl : pN = 0 ∨ pN = 1 ∨ pN = 2 := by omega
      · obtain ⟨v, c', m', g1, g2, g3⟩ := sing_ok hkd 12 0 12 x _ m 0 (by decide) (by decide) (by decide) (by decide) hM
        rw [if_pos (show nI 0 = 0 from rfl), show fk_lp4 G1_run 12 (nI 0) (nI kd) x (0 : Int32) _ = _ from g1, fk_bind_some, F8_singsBy, g2, fk_bind_some]
        exact Op2.mk ⟨nb, h.moved g3 (by decide)⟩
      · obtain ⟨v, c', m', g1, g2, g3⟩ := steam_ok hkd 12 0 12 x _ m 0 (by decide) (by decide) (by decide) (by decide) hM
        rw [if_neg (show ¬ nI 1 = 0 by decide), if_pos (show nI 1 = 1 from rfl), show fk_lp4 G1_run 12 (nI 1) (nI kd) x (0 : Int32) _ = _ from g1, fk_bind_some, F8_steamsBy, g2, fk_bind_some]
        exact Op2.mk ⟨nb, h.moved g3 (by decide)⟩
      · obtain ⟨v, c', m', g1, g2, g3⟩ := fall_ok hkd 12 0 12 x _ m 0 (by decide) (by decide) (by decide) (by decide) hM
        rw [if_neg (show ¬ nI 2 = 0 by decide), if_neg (show ¬ nI 2 = 1 by decide), show fk_lp4 G1_run 12 (nI 2) (nI kd) x (0 : Int32) _ = _ from g1, fk_bind_some, F8_fallsBy, g2, fk_bind_some]
        exact Op2.mk ⟨nb, h.moved g3 (by decide)⟩

