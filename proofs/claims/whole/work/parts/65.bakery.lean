/-! bakery: what is told, the call -/
def Told (c0 m0 : fkS) (s n : Nat) (v3 : Int32) (N : Nat) (H : Nat → Nat) (K : fkS → Option (Int32 × fkS)) : Prop := ∀ (pos : Nat) (V : Nat → Nat) (c m : fkS), Lv c0 m0 s n pos c m → Vals N H V c m → ∃ c' m', F4_tell 20 v3 c = some ((), c') ∧ K m = some (1, m') ∧ Lv c0 m0 s n pos c' m'
theorem RdC.dI {c0 c : fkS} {s n pos f : Nat} {v : Int32} (h : RdC c0 c s n pos) : RdC c0 (sI c f 20 v) s n pos := by
  obtain ⟨h1, h2, h3, h4, h5, h6⟩ := h
  refine ⟨h1, ?_, h3, fun f i n1 n2 => ?_, h5, h6⟩
  · rw [gI_ni (by decide)]
    exact h2
  · rw [gI_ni n1]
    exact h4 f i n1 n2
theorem RdC.dA {c0 c : fkS} {s n pos k j : Nat} {v : Int32} (h : RdC c0 c s n pos) (hk : k = 23 ∨ k = 26 ∨ k = 29 ∨ k = 32) : RdC c0 (sA c k j v) s n pos := by
  obtain ⟨h1, h2, h3, h4, h5, h6⟩ := h
  refine ⟨h1, h2, h3, h4, fun i n1 n2 n3 n4 n5 => ?_, h6⟩
  rw [gA_sA, if_neg (by omega)]
  exact h5 i n1 n2 n3 n4 n5
theorem RdM.dI {m0 m : fkS} {s pos : Nat} {v : Int32} (h : RdM m0 m s pos) : RdM m0 (sI m 0 0 v) s pos := by
  obtain ⟨h1, h2, h3, h4, h5⟩ := h
  refine ⟨?_, ?_, fun f i n1 n2 => ?_, h4, h5⟩
  · rw [gI_nf (by decide)]
    exact h1
  · rw [gI_nf (by decide)]
    exact h2
  · rw [gI_nf n1]
    exact h3 f i n1 n2
theorem RdM.dA {m0 m : fkS} {s pos k j : Nat} {v : Int32} (h : RdM m0 m s pos) (hk : k < 6) : RdM m0 (sA m k j v) s pos := by
  obtain ⟨h1, h2, h3, h4, h5⟩ := h
  refine ⟨h1, h2, h3, fun i n1 n2 => ?_, h5⟩
  rw [gA_sA, if_neg (by omega)]
  exact h4 i n1 n2
theorem told_h {c0 m0 : fkS} {s n : Nat} {K : fkS → Option (Int32 × fkS)} (hK : ∀ m, K m = some (1, sA m 4 0 (gA m 9 0))) : Told c0 m0 s n 104 1 (fun _ => 9) K := by
  intro pos V c m hL hV
  obtain ⟨v1, v2, v3⟩ := hV 0 (by decide)
  have v3 : V 0 ≤ 9 := v3
  obtain ⟨h1, h2, h3, d1, d2, d3, d4, d5, d6⟩ := hL
  refine ⟨sI c 5 20 (gA c 35 0), _, ?_, hK m, h1.dI, ?_, h3.dA (by decide), ?_, d2, d3, ⟨?_, ?_⟩, ?_, ?_, ?_⟩
  · unfold F4_tell
    rw [if_neg (by decide), if_neg (by decide), if_pos (by decide), chk0 (by decide) (by decide), fk_let_e, fk_let_e, cl0]
  · rw [gI_ni (by decide)]; exact h2
  · exact d1
  · show gA c 35 0 = upd (gA m 4) 0 (gA m 9 0) 0
    rw [upd_same, v1, v2]
  · show rg (gA c 35 0) 10
    rw [v1]
    exact rg_nI (by omega)
  · exact d5
  · exact d6.1
  · exact d6.2
theorem told_s {c0 m0 : fkS} {s n : Nat} {K : fkS → Option (Int32 × fkS)} (hK : ∀ m, K m = some (1, sA m 4 1 (gA m 9 0))) : Told c0 m0 s n 115 1 (fun _ => 7) K := by
  intro pos V c m hL hV
  obtain ⟨v1, v2, v3⟩ := hV 0 (by decide)
  have v3 : V 0 ≤ 7 := v3
  obtain ⟨h1, h2, h3, d1, d2, d3, d4, d5, d6⟩ := hL
  refine ⟨sI c 6 20 (gA c 35 0), _, ?_, hK m, h1.dI, ?_, h3.dA (by decide), ?_, d2, d3, ?_, ⟨?_, ?_⟩, ?_⟩
  · unfold F4_tell
    rw [if_neg (by decide), if_neg (by decide), if_neg (by decide), if_neg (by decide), if_pos (by decide), chk0 (by decide) (by decide), fk_let_e, fk_let_e, cl0]
  · rw [gI_ni (by decide)]; exact h2
  · exact d1
  · exact d4
  · show gA c 35 0 = upd (gA m 4) 1 (gA m 9 0) 1
    rw [upd_same, v1, v2]
  · show rg (gA c 35 0) 8
    rw [v1]
    exact rg_nI (by omega)
  · exact d6
theorem told_i {c0 m0 : fkS} {s n : Nat} {K : fkS → Option (Int32 × fkS)} (hK : ∀ m, K m = some (1, sA m 4 2 (gA m 4 2 ||| ((1 : Int32) <<< (gA m 9 0 &&& 31))))) : Told c0 m0 s n 105 1 (fun _ => 7) K := by
  intro pos V c m hL hV
  obtain ⟨v1, v2, v3⟩ := hV 0 (by decide)
  obtain ⟨h1, h2, h3, d1, d2, d3, d4, d5, d6, d7⟩ := hL
  refine ⟨sI c 7 20 (gI c 7 20 ||| ((1 : Int32) <<< (gA c 35 0 &&& 31))), _, ?_, hK m, h1.dI, ?_, h3.dA (by decide), ?_, d2, d3, d4, d5, ?_, d7⟩
  · unfold F4_tell
    rw [if_neg (by decide), if_neg (by decide), if_neg (by decide), if_pos (by decide), fk_let_e, chk0 (by decide) (by decide), fk_let_e, fk_let_e, cl0]
  · rw [gI_ni (by decide)]; exact h2
  · exact d1
  · show gI c 7 20 ||| ((1 : Int32) <<< (gA c 35 0 &&& 31)) = upd (gA m 4) 2 (gA m 4 2 ||| ((1 : Int32) <<< (gA m 9 0 &&& 31))) 2
    rw [upd_same, v1, v2, d6]
theorem told_w {c0 m0 : fkS} {s n : Nat} {K : fkS → Option (Int32 × fkS)} (hK : ∀ m, K m = some (1, sA m 4 2 (gA m 4 2 &&& (((1 : Int32) <<< (gA m 9 0 &&& 31)) ^^^ (-1 : Int32))))) : Told c0 m0 s n 119 1 (fun _ => 7) K := by
  intro pos V c m hL hV
  obtain ⟨v1, v2, v3⟩ := hV 0 (by decide)
  obtain ⟨h1, h2, h3, d1, d2, d3, d4, d5, d6, d7⟩ := hL
  refine ⟨sI c 7 20 (gI c 7 20 &&& (((1 : Int32) <<< (gA c 35 0 &&& 31)) ^^^ (-1 : Int32))), _, ?_, hK m, h1.dI, ?_, h3.dA (by decide), ?_, d2, d3, d4, d5, ?_, d7⟩
  · unfold F4_tell
    rw [if_neg (by decide), if_neg (by decide), if_neg (by decide), if_neg (by decide), if_neg (by decide), fk_let_e, chk0 (by decide) (by decide), fk_let_e, fk_let_e, cl0]
  · rw [gI_ni (by decide)]; exact h2
  · exact d1
  · show gI c 7 20 &&& (((1 : Int32) <<< (gA c 35 0 &&& 31)) ^^^ (-1 : Int32)) = upd (gA m 4) 2 (gA m 4 2 &&& (((1 : Int32) <<< (gA m 9 0 &&& 31)) ^^^ (-1 : Int32))) 2
    rw [upd_same, v1, v2, d6]
def Hg : Nat → Nat := fun i => if i = 1 then 4 else 7
def Hb : Nat → Nat := fun i => if i = 0 then 6 else if i = 1 then 9 else 19
theorem told_g {c0 m0 : fkS} {s n : Nat} {K : fkS → Option (Int32 × fkS)} (hK : ∀ m (a b v : Nat), gA m 9 0 = nI a → gA m 9 1 = nI b → gA m 9 2 = nI v → a < 8 → b < 5 → K m = some (1, sA m 5 (5 * a + b) (nI v))) : Told c0 m0 s n 103 3 Hg K := by
  intro pos V c m hL hV
  obtain ⟨v1, v2, v3⟩ := hV 0 (by decide)
  obtain ⟨w1, w2, w3⟩ := hV 1 (by decide)
  obtain ⟨x1, x2, x3⟩ := hV 2 (by decide)
  have v3 : V 0 ≤ 7 := v3
  have w3 : V 1 ≤ 4 := w3
  have x3 : V 2 ≤ 7 := x3
  obtain ⟨h1, h2, h3, d1, d2, d3, d4, d5, d6⟩ := hL
  have hco : F0_comingBy 20 (nI (V 0)) (nI (V 1)) c = some (gA c 32 (V 0 * 5 + V 1), c) := by
    rw [coming_ok (rg_nI (by omega)) (rg_nI (by omega)), zl5, pk_mul, nI_add, nI_clamp (by omega)]
  have hr := (d3 (V 0 * 5 + V 1) (by omega)).2
  refine ⟨sA c 32 (V 0 * 5 + V 1) (nI (V 2)), _, ?_, hK m _ _ _ v2 w2 x2 (by omega) (by omega), h1.dA (by decide), h2, h3.dA (by decide), d1, ?_, ?_, ⟨?_, d4.2⟩, ⟨?_, d5.2⟩, ?_⟩
  · unfold F4_tell
    rw [if_neg (by decide), if_pos (by decide), chk0 (by decide) (by decide), fk_let_e, fk_chk_t (show fk_in (1 : Int32) 3 = true by decide), fk_let_e, fk_chk_t (show fk_in (2 : Int32) 3 = true by decide), fk_let_e, cl0, cl1, show (2 : Int32).toNatClampNeg = 2 from rfl, v1, w1, x1]
    unfold F0_setComing
    rw [hco, fk_bind_some, if_neg (m1_rg (n := 8) (by decide) hr), zl5, pk_mul, nI_add, fk_chk_in (by omega) (by decide), fk_let_e, nI_clamp (by omega), fk_bind_some]
  · intro b hb
    rw [gA_sA, if_neg (by decide), gA_sA, if_neg (by decide), gA_sA, if_neg (by decide), gA_sA, if_neg (by decide), gA_sA, if_neg (by decide), gA_sA, if_neg (by decide)]
    exact d2 b hb
  · intro j hj
    rw [gA_sA, if_pos rfl, gA_sA, if_pos rfl, Nat.mul_comm 5 (V 0)]
    by_cases q : j = V 0 * 5 + V 1
    · rw [q, upd_same, upd_same]
      exact ⟨rfl, rg_nI (by omega)⟩
    · rw [upd_ne q, upd_ne q]
      exact d3 j hj
  · rw [gA_sA, if_neg (by decide)]
    exact d4.1
  · rw [gA_sA, if_neg (by decide)]
    exact d5.1
  · rw [gA_sA, if_neg (by decide)]
    exact d6
/-- a bird is told where there is room -/
theorem told_b {c0 m0 c m : fkS} {s n pos nb : Nat} {V : Nat → Nat} {K : fkS → Option (Int32 × fkS)} (hK : ∀ m, K m = fk_bind (F8_newBird (gA m 9 0) (gA m 9 1) (gA m 9 2) m) (fun _ st60 => some ((1 : Int32), st60))) (hL : Lv c0 m0 s n pos c m) (hV : Vals 3 Hb V c m) (hnb : gI c 0 20 = nI nb) (h7 : nb < 7) : ∃ c' m', F4_tell 20 98 c = some ((), c') ∧ K m = some (1, m') ∧ Lv c0 m0 s n pos c' m' := by
  obtain ⟨v1, v2, v3⟩ := hV 0 (by decide)
  obtain ⟨w1, w2, w3⟩ := hV 1 (by decide)
  obtain ⟨x1, x2, x3⟩ := hV 2 (by decide)
  have v3 : V 0 ≤ 6 := v3
  have w3 : V 1 ≤ 9 := w3
  have x3 : V 2 ≤ 19 := x3
  obtain ⟨h1, h2, h3, ⟨nb', n1, n2, n3, b0, n4, n5⟩, d2, d3, d4, d5, d6, d7, d8, d9⟩ := hL
  have en : nb' = nb := by
    rw [n2, nI_eq (by omega) (by omega)] at hnb
    exact hnb
  subst en
  refine ⟨sI (sA (sA (sA c 23 nb' (nI (V 0))) 26 nb' (nI (V 1))) 29 nb' (nI (V 2))) 0 20 (nI (nb' + 1)), sI (sA (sA (sA m 1 nb' (nI (V 0))) 2 nb' (nI (V 1))) 3 nb' (nI (V 2))) 0 0 (nI (nb' + 1)), ?_, ?_, (((h1.dA (by decide)).dA (by decide)).dA (by decide)).dI, ?_, (((h3.dA (by decide)).dA (by decide)).dA (by decide)).dI, ⟨nb' + 1, by omega, gI_same, gI_same, b0, by omega, n5⟩, ?_, ?_, ⟨?_, ?_⟩, ⟨?_, ?_⟩, ?_, ?_, ?_, ?_⟩
  · unfold F4_tell
    rw [if_pos (by decide), chk0 (by decide) (by decide), fk_let_e, fk_chk_t (show fk_in (1 : Int32) 3 = true by decide), fk_let_e, fk_chk_t (show fk_in (2 : Int32) 3 = true by decide), fk_let_e, cl0, cl1, show (2 : Int32).toNatClampNeg = 2 from rfl, v1, w1, x1]
    unfold F0_add
    have l7 : nI nb' < (7 : Int32) := by
      rw [zl7, nI_ltI (by omega) (by decide)]
      exact h7
    simp (disch := omega) only [fk_let_e, n2, if_neg (nI_pos (show nb' < 2 ^ 31 by omega)), if_pos l7, fk_chk_in, nI_clamp, gI_sA, nI_1, fk_bind_some]
  · rw [hK, v2, w2, x2]
    unfold F8_newBird
    simp (disch := omega) only [fk_let_e, n3, fk_chk_in, nI_clamp, gI_sA, nI_1, fk_bind_some]
  · rw [gI_ni (by decide)]; exact h2
  · intro b hb
    show (upd (gA c 23) nb' (nI (V 0)) b = upd (gA m 1) nb' (nI (V 0)) b ∧ rg (upd (gA c 23) nb' (nI (V 0)) b) 7) ∧ (upd (gA c 26) nb' (nI (V 1)) b = upd (gA m 2) nb' (nI (V 1)) b ∧ rg (upd (gA c 26) nb' (nI (V 1)) b) 10) ∧ (upd (gA c 29) nb' (nI (V 2)) b = upd (gA m 3) nb' (nI (V 2)) b ∧ rg (upd (gA c 29) nb' (nI (V 2)) b) 20)
    by_cases q : b = nb'
    · rw [q, upd_same, upd_same, upd_same, upd_same, upd_same, upd_same]
      exact ⟨⟨rfl, rg_nI (by omega)⟩, ⟨rfl, rg_nI (by omega)⟩, rfl, rg_nI (by omega)⟩
    · rw [upd_ne q, upd_ne q, upd_ne q, upd_ne q, upd_ne q, upd_ne q]
      exact d2 b hb
  · exact d3
  · exact d4.1
  · exact d4.2
  · exact d5.1
  · exact d5.2
  · exact d6
  · exact d7
  · exact d8
  · exact d9
/-! items -/
def ItemOk (c0 m0 : fkS) (s n pos : Nat) (A : Option (Unit × fkS)) (B : Option (Int32 × fkS)) : Prop :=
  (∃ c' m' pos', A = some ((), c') ∧ B = some (1, m') ∧ Lv c0 m0 s n pos' c' m' ∧ pos < pos') ∨ (∃ c' m' f, A = some ((), c') ∧ B = some (0, m') ∧ DdC c0 c' s n f ∧ RdM m0 m' s f)
theorem wl_pos {q : Nat} (hq : q < 6) : 0 < wl q ∧ wl q ≤ 5 := by
  have h : ∀ q, q < 6 → 0 < wl q ∧ wl q ≤ 5 := by decide
  exact h q hq
theorem item_k {c0 m0 c m : fkS} {s n pos q N : Nat} {v2 v3 : Int32} {H : Nat → Nat} {K : fkS → Option (Int32 × fkS)} (hx : Tx0 c0 m0 s n) (hL : Lv c0 m0 s n pos c m) (hq : q < 6) (hN : N ≤ 3) (hNb : ∀ st, F4_numbersBehind v3 st = some (nI N, st)) (hH : ∀ i, i < N → H i < 100 ∧ ∀ st, F4_most v3 (nI i) st = some (nI (H i), st)) (h98 : ¬ v3 = 98) (hT : Told c0 m0 s n v3 N H K) :
    ItemOk c0 m0 s n pos (fk_lp4 (B4_readItem_19 20) fk_fuel v2 v3 q 0 c) (fk_bind (F8_word q m) fun x st => if x = 0 then some ((0 : Int32), st) else nums H N 0 K st) := by
  have hw := wl_pos hq
  have e62 : ∀ c, B4_readItem_62 20 v2 v3 c = fk_lp2 (B4_readItem_85 20) fk_fuel v3 (nI 0) c := fun c => by
    unfold B4_readItem_62 B4_readItem_82
    rw [if_neg h98]
    rfl
  unfold F8_word
  rcases word2 (v2 := v2) (v3 := v3) hx hq (wl q) 0 fk_fuel fk_fuel pos c m (by omega) (by unfold fk_fuel; omega) (by unfold fk_fuel; omega) hL with ⟨c1, m1, o1, o2, o3, -⟩ | ⟨c1, m1, f, o1, o2, o3, o4⟩
  · rw [show fk_lp4 (B4_readItem_19 20) fk_fuel v2 v3 q 0 c = _ from o1, show fk_lp1 (B8_word_2 q) fk_fuel 0 m = _ from o2, fk_bind_some, if_neg (show ¬ (1 : Int32) = 0 by decide), e62]
    rcases live85 (K := K) hx hN hNb hH N 0 fk_fuel (pos + wl q) (fun _ => 0) c1 m1 (by omega) (by unfold fk_fuel; omega) o3 (fun k hk => by omega) with ⟨c2, m2, pos2, V, p1, p2, p3, p4, p5, -⟩ | ⟨c2, m2, f, p1, p2, p3, p4⟩
    · obtain ⟨c3, m3, t1, t2, t3⟩ := hT pos2 V c2 m2 p3 p5
      rw [p1, p2, t1, fk_bind_some, t2]
      exact Or.inl ⟨c3, m3, pos2, rfl, rfl, t3, by omega⟩
    · rw [p1, p2]
      exact Or.inr ⟨c2, m2, f, rfl, rfl, p3, p4⟩
  · obtain ⟨c2, d1, d2⟩ := dead62 (v2 := v2) (v3 := v3) hx o3
    rw [show fk_lp4 (B4_readItem_19 20) fk_fuel v2 v3 q 0 c = _ from o1, show fk_lp1 (B8_word_2 q) fk_fuel 0 m = _ from o2, fk_bind_some, if_pos rfl, d1]
    exact Or.inr ⟨c2, m1, f, rfl, rfl, d2, o4⟩
def Kb (st55 : fkS) : Option (Int32 × fkS) :=
 (fk_chk (fk_in (0 : Int32) 3) <| fk_let (gA st55 9 (0 : Int32).toNatClampNeg) <| fun x56 =>
 fk_chk (fk_in (1 : Int32) 3) <| fk_let (gA st55 9 (1 : Int32).toNatClampNeg) <| fun x57 =>
 fk_chk (fk_in (2 : Int32) 3) <| fk_let (gA st55 9 (2 : Int32).toNatClampNeg) <| fun x58 =>
 fk_bind (F8_newBird x56 x57 x58 st55) <| fun x59 st60 =>
 some ((1 : Int32), st60))
def Kg (st13 : fkS) : Option (Int32 × fkS) :=
 (fk_chk (fk_in (0 : Int32) 3) <| fk_let (gA st13 9 (0 : Int32).toNatClampNeg) <| fun x14 =>
 fk_chk (fk_in (1 : Int32) 3) <| fk_let (gA st13 9 (1 : Int32).toNatClampNeg) <| fun x15 =>
 fk_chk (fk_in (2 : Int32) 3) <| fk_let (gA st13 9 (2 : Int32).toNatClampNeg) <| fun x16 =>
 fk_chk (fk_in (((5 : Int32) * x14) + x15) 40) <| fk_let (sA st13 5 (((5 : Int32) * x14) + x15).toNatClampNeg x16) <| fun st17 =>
 some ((1 : Int32), st17))
def Kh (st22 : fkS) : Option (Int32 × fkS) :=
 (fk_chk (fk_in (0 : Int32) 3) <| fk_let (gA st22 9 (0 : Int32).toNatClampNeg) <| fun x23 =>
 fk_chk (fk_in (0 : Int32) 3) <| fk_let (sA st22 4 (0 : Int32).toNatClampNeg x23) <| fun st24 =>
 some ((1 : Int32), st24))
def Ki (st29 : fkS) : Option (Int32 × fkS) :=
 (fk_chk (fk_in (2 : Int32) 3) <| fk_let (gA st29 4 (2 : Int32).toNatClampNeg) <| fun x30 =>
 fk_chk (fk_in (0 : Int32) 3) <| fk_let (gA st29 9 (0 : Int32).toNatClampNeg) <| fun x31 =>
 fk_chk (fk_in (2 : Int32) 3) <| fk_let (sA st29 4 (2 : Int32).toNatClampNeg (x30 ||| ((1 : Int32) <<< (x31 &&& 31)))) <| fun st32 =>
 some ((1 : Int32), st32))
def Ks (st37 : fkS) : Option (Int32 × fkS) :=
 (fk_chk (fk_in (0 : Int32) 3) <| fk_let (gA st37 9 (0 : Int32).toNatClampNeg) <| fun x38 =>
 fk_chk (fk_in (1 : Int32) 3) <| fk_let (sA st37 4 (1 : Int32).toNatClampNeg x38) <| fun st39 =>
 some ((1 : Int32), st39))
def Kw (st44 : fkS) : Option (Int32 × fkS) :=
 (fk_chk (fk_in (2 : Int32) 3) <| fk_let (gA st44 4 (2 : Int32).toNatClampNeg) <| fun x45 =>
 fk_chk (fk_in (0 : Int32) 3) <| fk_let (gA st44 9 (0 : Int32).toNatClampNeg) <| fun x46 =>
 fk_chk (fk_in (2 : Int32) 3) <| fk_let (sA st44 4 (2 : Int32).toNatClampNeg (x45 &&& (((1 : Int32) <<< (x46 &&& 31)) ^^^ (-1 : Int32)))) <| fun st47 =>
 some ((1 : Int32), st47))
theorem c3_0 : fk_in (0 : Int32) 3 = true := by decide
theorem c3_1 : fk_in (1 : Int32) 3 = true := by decide
theorem c3_2 : fk_in (2 : Int32) 3 = true := by decide
theorem Kh_ok (m : fkS) : Kh m = some (1, sA m 4 0 (gA m 9 0)) := by
  unfold Kh
  rw [fk_chk_t c3_0, fk_let_e, fk_chk_t c3_0, fk_let_e, cl0]
theorem Ks_ok (m : fkS) : Ks m = some (1, sA m 4 1 (gA m 9 0)) := by
  unfold Ks
  rw [fk_chk_t c3_0, fk_let_e, fk_chk_t c3_1, fk_let_e, cl0, cl1]
theorem Ki_ok (m : fkS) : Ki m = some (1, sA m 4 2 (gA m 4 2 ||| ((1 : Int32) <<< (gA m 9 0 &&& 31)))) := by
  unfold Ki
  rw [fk_chk_t c3_2, fk_let_e, fk_chk_t c3_0, fk_let_e, fk_chk_t c3_2, fk_let_e, cl0, cl2]
theorem Kw_ok (m : fkS) : Kw m = some (1, sA m 4 2 (gA m 4 2 &&& (((1 : Int32) <<< (gA m 9 0 &&& 31)) ^^^ (-1 : Int32)))) := by
  unfold Kw
  rw [fk_chk_t c3_2, fk_let_e, fk_chk_t c3_0, fk_let_e, fk_chk_t c3_2, fk_let_e, cl0, cl2]
theorem Kg_ok (m : fkS) (a b v : Nat) (h0 : gA m 9 0 = nI a) (h1 : gA m 9 1 = nI b) (h2 : gA m 9 2 = nI v) (ha : a < 8) (hb : b < 5) : Kg m = some (1, sA m 5 (5 * a + b) (nI v)) := by
  unfold Kg
  rw [fk_chk_t c3_0, fk_let_e, fk_chk_t c3_1, fk_let_e, fk_chk_t c3_2, fk_let_e, cl0, cl1, cl2, h0, h1, h2, zl5, pk_mul, nI_add, fk_chk_in (by omega) (by decide), fk_let_e, nI_clamp (by omega)]
theorem Kb_ok (m : fkS) : Kb m = fk_bind (F8_newBird (gA m 9 0) (gA m 9 1) (gA m 9 2) m) (fun _ st60 => some ((1 : Int32), st60)) := by
  unfold Kb
  rw [fk_chk_t c3_0, fk_let_e, fk_chk_t c3_1, fk_let_e, fk_chk_t c3_2, fk_let_e, cl0, cl1, cl2]
theorem item_b {c0 m0 c m : fkS} {s n pos nb : Nat} (hx : Tx0 c0 m0 s n) (hL : Lv c0 m0 s n pos c m) (hnb : gI m 0 0 = nI nb) (h7 : nb ≤ 7) :
    ItemOk c0 m0 s n pos (fk_lp4 (B4_readItem_19 20) fk_fuel (nI pos) 98 0 0 c) (if (7 : Int32) ≤ gI m 0 0 then B8_item_81 0 0 m else B8_item_81 0 1 m) := by
  have hp := hL.1.2.2.1
  have hw := wl_pos (q := 0) (by decide)
  have e81 : ∀ p, B8_item_81 0 p m = fk_bind (F8_word_ 0 p m) fun x st => if x = 0 then some ((0 : Int32), st) else nums Hb 3 0 Kb st := fun p => rfl
  have eR : (if (7 : Int32) ≤ gI m 0 0 then B8_item_81 0 0 m else B8_item_81 0 1 m) = fk_bind (F8_word_ 0 (if 7 ≤ nb then 0 else 1) m) fun x st => if x = 0 then some ((0 : Int32), st) else nums Hb 3 0 Kb st := by
    rw [hnb, zl7]
    by_cases q : 7 ≤ nb
    · rw [if_pos ((nI_leI (by decide) (by omega)).mpr q), if_pos q, e81]
    · rw [if_neg (fun z => q ((nI_leI (by decide) (by omega)).mp z)), if_neg q, e81]
  have e62 : ∀ (c : fkS), gI c 0 20 = nI nb → B4_readItem_62 20 (nI pos) 98 c = (if nb < 7 then B4_readItem_82 20 98 c else fk_bind (F4_fail (nI pos) c) fun _ st17 => B4_readItem_82 20 98 st17) := fun c hc => by
    unfold B4_readItem_62
    rw [if_pos rfl, fk_let_e, hc, zl7]
    by_cases q : nb < 7
    · rw [if_pos ((nI_ltI (by omega) (by decide)).mpr q), if_pos q]
    · rw [if_neg (fun z => q ((nI_ltI (by omega) (by decide)).mp z)), if_neg q]
  rw [eR]
  unfold F8_word_ F8_word B8_word__26
  rw [fk_let_e, hL.2.2.1.2.1]
  have draft : ∀ (c' m' : fkS) (p : Nat), Lv c0 m0 s n p c' m' → gI m' 0 0 = gI m 0 0 → gI c' 0 20 = nI nb := fun c' m' p h h2 => by
    obtain ⟨-, -, -, ⟨nb2, -, a2, a3, -⟩, -⟩ := h
    rw [a2, ← a3, h2, hnb]
  have k10 : ¬ (1 : Int32) = 0 := by decide
  have hHb : ∀ i, i < 3 → Hb i < 100 ∧ ∀ st, F4_most 98 (nI i) st = some (nI (Hb i), st) := by
    intro i hi
    obtain rfl | rfl | rfl : i = 0 ∨ i = 1 ∨ i = 2 := by omega
    · exact ⟨by decide, fun st => rfl⟩
    · exact ⟨by decide, fun st => rfl⟩
    · exact ⟨by decide, fun st => rfl⟩
  rcases word2 (v2 := nI pos) (v3 := 98) hx (show 0 < 6 by decide) (wl 0) 0 fk_fuel fk_fuel pos c m (by omega) (by unfold fk_fuel; omega) (by unfold fk_fuel; omega) hL with ⟨c1, m1, o1, o2, o3, o4⟩ | ⟨c1, m1, f, o1, o2, o3, o4⟩
  · rw [show fk_lp4 (B4_readItem_19 20) fk_fuel (nI pos) 98 0 0 c = _ from o1, show fk_lp1 (B8_word_2 0) fk_fuel 0 m = _ from o2, fk_bind_some, if_neg k10, e62 c1 (draft c1 m1 _ o3 o4)]
    by_cases q : nb < 7
    · rw [if_pos q, if_neg (show ¬ 7 ≤ nb by omega), if_neg k10, if_neg k10, if_neg k10, fk_bind_some, if_neg k10]
      rcases live85 (v3 := 98) (H := Hb) (K := Kb) hx (Nat.le_refl 3) (fun st => rfl) hHb 3 0 fk_fuel (pos + wl 0) (fun _ => 0) c1 m1 (by omega) (by unfold fk_fuel; omega) o3 (fun k hk => by omega) with ⟨c2, m2, pos2, V, p1, p2, p3, p4, p5, p6⟩ | ⟨c2, m2, f, p1, p2, p3, p4⟩
      · obtain ⟨c3, m3, t1, t2, t3⟩ := told_b Kb_ok p3 p5 (draft c2 m2 _ p3 (p6.trans o4)) q
        unfold B4_readItem_82
        rw [show fk_lp2 (B4_readItem_85 20) fk_fuel 98 0 c1 = _ from p1, p2, t1, fk_bind_some, t2]
        exact Or.inl ⟨c3, m3, pos2, rfl, rfl, t3, by omega⟩
      · unfold B4_readItem_82
        rw [show fk_lp2 (B4_readItem_85 20) fk_fuel 98 0 c1 = _ from p1, p2]
        exact Or.inr ⟨c2, m2, f, rfl, rfl, p3, p4⟩
    · obtain ⟨c2, d1, d2⟩ := dead82 (v3 := 98) hx (o3.die (f := pos) (by omega))
      rw [if_neg q, if_pos (show 7 ≤ nb by omega), if_pos rfl, fk_let_e, if_neg k10, if_pos rfl, fk_bind_some, if_pos rfl, fail_live o3.2.1, fk_bind_some, d1]
      exact Or.inr ⟨c2, _, pos, rfl, rfl, d2, o3.2.2.1.step⟩
  · obtain ⟨c2, d1, d2⟩ := dead62 (v2 := nI pos) (v3 := 98) hx o3
    rw [show fk_lp4 (B4_readItem_19 20) fk_fuel (nI pos) 98 0 0 c = _ from o1, show fk_lp1 (B8_word_2 0) fk_fuel 0 m = _ from o2, fk_bind_some, if_pos rfl, if_pos rfl, fk_bind_some, if_pos rfl, d1]
    exact Or.inr ⟨c2, m1, f, rfl, rfl, d2, o4⟩
theorem item2 {c0 m0 c m : fkS} {s n pos : Nat} (hx : Tx0 c0 m0 s n) (hL : Lv c0 m0 s n pos c m) : ItemOk c0 m0 s n pos (F4_readItem 20 c) (F8_item m) := by
  have hp := hL.1.2.2.1
  have hn := hx.2.1
  have h1 : ∀ (h : Nat), h < 100 → (∀ st, F4_most 104 (nI 0) st = some (nI 9, st)) := fun _ _ st => rfl
  unfold F4_readItem F8_item
  rw [fk_let_e, letter_ok hx hL.1, fk_bind_some, begins_ok, fk_bind_some, fk_chk_t (decide_eq_true (wq_lt _)), rsign_ok hx hL.2.2.1 hp, fk_bind_some, hL.1.2.1]
  generalize TX m0 s n pos = X
  by_cases x0 : X = 98
  · subst x0
    obtain ⟨nb, a1, a2, a3, -⟩ := hL.2.2.2.1
    rw [if_pos rfl, fk_let_e]
    exact item_b hx hL a3 a1
  rw [if_neg x0]
  by_cases x1 : X = 103
  · subst x1
    rw [if_pos rfl]
    exact item_k (N := 3) (H := Hg) (K := Kg) hx hL (show 3 < 6 by decide) (by decide) (fun st => rfl) (fun i hi => by
      obtain rfl | rfl | rfl : i = 0 ∨ i = 1 ∨ i = 2 := by omega
      · exact ⟨by decide, fun st => rfl⟩
      · exact ⟨by decide, fun st => rfl⟩
      · exact ⟨by decide, fun st => rfl⟩) (by decide) (told_g Kg_ok)
  rw [if_neg x1]
  by_cases x2 : X = 104
  · subst x2
    rw [if_pos rfl]
    exact item_k (N := 1) (H := fun _ => 9) (K := Kh) hx hL (show 1 < 6 by decide) (by decide) (fun st => rfl) (fun i hi => by
      obtain rfl : i = 0 := by omega
      exact ⟨by decide, fun st => rfl⟩) (by decide) (told_h Kh_ok)
  rw [if_neg x2]
  by_cases x3 : X = 105
  · subst x3
    rw [if_pos rfl]
    exact item_k (N := 1) (H := fun _ => 7) (K := Ki) hx hL (show 4 < 6 by decide) (by decide) (fun st => rfl) (fun i hi => by
      obtain rfl : i = 0 := by omega
      exact ⟨by decide, fun st => rfl⟩) (by decide) (told_i Ki_ok)
  rw [if_neg x3]
  by_cases x4 : X = 115
  · subst x4
    rw [if_pos rfl]
    exact item_k (N := 1) (H := fun _ => 7) (K := Ks) hx hL (show 2 < 6 by decide) (by decide) (fun st => rfl) (fun i hi => by
      obtain rfl : i = 0 := by omega
      exact ⟨by decide, fun st => rfl⟩) (by decide) (told_s Ks_ok)
  rw [if_neg x4]
  by_cases x5 : X = 119
  · subst x5
    rw [if_pos rfl]
    exact item_k (N := 1) (H := fun _ => 7) (K := Kw) hx hL (show 5 < 6 by decide) (by decide) (fun st => rfl) (fun i hi => by
      obtain rfl : i = 0 := by omega
      exact ⟨by decide, fun st => rfl⟩) (by decide) (told_w Kw_ok)
  rw [if_neg x5]
  have e6 : wq X = 6 := by
    unfold wq
    rw [if_neg x0, if_neg x1, if_neg x2, if_neg x3, if_neg x4, if_neg x5]
  obtain ⟨w, hw⟩ : ∃ w, fk_fuel = w + 1 := ⟨1199, rfl⟩
  have em : FS_empty 6 c = some (1, c) := rfl
  have l6 : wl 6 = 0 := rfl
  have hd : DdC c0 (sI c 80 34 (nI pos)) s n pos := hL.die hp
  obtain ⟨c', o1, o2⟩ := dead62 (v2 := nI pos) (v3 := X) hx hd
  rw [e6, hw, fk_lp4_s, B4_readItem_19, len_ok (by decide), fk_bind_some, l6, if_pos (show nI 0 ≤ 0 by decide), em, fk_bind_some, if_neg (show ¬ (1 : Int32) = 0 by decide), fk_let_e, hL.1.2.1, fail_live hL.2.1, fk_bind_some, o1]
  exact Or.inr ⟨c', m, pos, rfl, rfl, o2, hL.2.2.1⟩
/-! the reading -/
theorem read2 {c0 m0 : fkS} {s n : Nat} (hx : Tx0 c0 m0 s n) : ∀ (d pos k fu fv : Nat) (c m : fkS), n - pos ≤ d → k ≤ pos → d < fu → d + 1 < fv → Lv c0 m0 s n pos c m →
    (∃ x c' m', B4_read_27 (3 + s) 20 (fk_lp1 (B4_read_17 (3 + s) 20) fu) (nI k) c = some (x, c') ∧ fk_lp3 B8_bakery_39 fv (nI s) (nI k) 1 m = some (x, sI m' 15 0 (-1)) ∧ Lv c0 m0 s n n c' m') ∨
    (∃ x c' m' f, B4_read_27 (3 + s) 20 (fk_lp1 (B4_read_17 (3 + s) 20) fu) (nI k) c = some (x, c') ∧ fk_lp3 B8_bakery_39 fv (nI s) (nI k) 1 m = (fk_bind (F8_again 10 (sI m' 15 0 (nI f))) fun _ st10 => fk_bind (F8_no (-6) st10) fun x11 st12 => some (x11, st12)) ∧ DdC c0 c' s n f ∧ RdM m0 m' s f) := by
  obtain ⟨hs, hn, t6, t7, t8⟩ := id hx
  have k10 : ¬ (1 : Int32) = 0 := by decide
  have ended : ∀ (v : Nat) (x : Int32) (m : fkS) (f : Nat), RdM m0 m s f → fk_lp3 B8_bakery_39 (v + 1) (nI s) x 0 m = (fk_bind (F8_again 10 (sI m 15 0 (nI f))) fun _ st10 => fk_bind (F8_no (-6) st10) fun x11 st12 => some (x11, st12)) := fun v x m f h => by
    rw [fk_lp3_s, B8_bakery_39, if_pos rfl, fk_let_e, fk_let_e, h.2.1]
  intro d
  induction d with
  | zero =>
    intro pos k fu fv c m hd hk hf hf2 hL
    have hp := hL.1.2.2.1
    obtain ⟨w, rfl⟩ : ∃ w, fu = w + 1 := ⟨fu - 1, by omega⟩
    obtain ⟨v, rfl⟩ : ∃ v, fv = v + 2 := ⟨fv - 2, by omega⟩
    have h10 : ¬ (1 : Int32) = 0 := k10
    rcases item2 hx hL with ⟨c', m', pos', e1, e2, e3, e4⟩ | ⟨c', m', f, e1, e2, e3, e4⟩
    · have := e3.1.2.2.1
      omega
    · have hf1 := e3.1
      refine Or.inr ⟨nI k + 1, c', m', f, ?_, ?_, e3, e4⟩
      · unfold B4_read_27
        rw [e1, fk_bind_some, fk_let_e, e3.2.1, if_neg (m1_nI (by omega))]
      · rw [fk_lp3_s, B8_bakery_39, if_neg k10, e2, fk_bind_some, if_pos rfl, B8_bakery_58, if_pos rfl, B8_bakery_83, if_pos rfl, ended _ _ _ _ e4]
  | succ d ih =>
    intro pos k fu fv c m hd hk hf hf2 hL
    have hp := hL.1.2.2.1
    obtain ⟨w, rfl⟩ : ∃ w, fu = w + 1 := ⟨fu - 1, by omega⟩
    obtain ⟨v, rfl⟩ : ∃ v, fv = v + 2 := ⟨fv - 2, by omega⟩
    rcases item2 hx hL with ⟨c', m', pos', e1, e2, e3, e4⟩ | ⟨c', m', f, e1, e2, e3, e4⟩
    rotate_left
    · have hf1 := e3.1
      refine Or.inr ⟨nI k + 1, c', m', f, ?_, ?_, e3, e4⟩
      · unfold B4_read_27
        rw [e1, fk_bind_some, fk_let_e, e3.2.1, if_neg (m1_nI (by omega))]
      · rw [fk_lp3_s, B8_bakery_39, if_neg k10, e2, fk_bind_some, if_pos rfl, B8_bakery_58, if_pos rfl, B8_bakery_83, if_pos rfl, ended _ _ _ _ e4]
    · have hp' := e3.1.2.2.1
      have hc103 : gI c' 103 (3 + s) = nI n := (e3.1.2.2.2.1 103 (3 + s) (by omega) (by omega)).trans t6
      have hm7 : gA m' 7 s = nI n := by rw [e3.2.2.1.2.2.2.1 7 (by decide) (by decide)]; exact t7
      have eC : B4_read_27 (3 + s) 20 (fk_lp1 (B4_read_17 (3 + s) 20) (w + 1)) (nI k) c = (if n ≤ pos' then some (nI k + 1, c') else fk_lp1 (B4_read_17 (3 + s) 20) (w + 1) (nI (k + 1)) c') := by
        unfold B4_read_27
        rw [e1, fk_bind_some, fk_let_e, e3.2.1, if_pos rfl, fk_let_e, fk_let_e, e3.1.2.1, hc103, nI_1]
        by_cases q : n ≤ pos'
        · rw [if_pos ((nI_leI (by omega) (by omega)).mpr q), if_pos q]
        · rw [if_neg (fun z => q ((nI_leI (by omega) (by omega)).mp z)), if_neg q, if_pos (show nI (k + 1) < (160 : Int32) by rw [zl160, nI_ltI (by omega) (by decide)]; omega)]
      have eM : fk_lp3 B8_bakery_39 (v + 2) (nI s) (nI k) 1 m = (if pos' = n then some (nI k + 1, sI m' 15 0 (-1)) else fk_bind (F8_is 59 m') fun x18 st19 => fk_lp3 B8_bakery_39 (v + 1) (nI s) (nI (k + 1)) x18 st19) := by
        rw [fk_lp3_s, B8_bakery_39, if_neg k10, e2, fk_bind_some, if_neg k10, B8_bakery_58, if_neg k10, fk_let_e, fk_chk_in hs (by decide), fk_let_e, nI_clamp (by omega), hm7, e3.2.2.1.2.1, nI_1]
        by_cases q : pos' = n
        · rw [if_pos (show nI pos' = nI n by rw [q]), if_pos q, fk_let_e]
        · rw [if_neg (show ¬ nI pos' = nI n by rw [nI_eq (by omega) (by omega)]; exact q), if_neg q, B8_bakery_83, if_neg k10]
      rw [eC, eM]
      by_cases q : pos' = n
      · rw [if_pos (show n ≤ pos' by omega), if_pos q]
        refine Or.inl ⟨_, c', m', rfl, rfl, ?_⟩
        rw [q] at e3
        exact e3
      · rw [if_neg (show ¬ n ≤ pos' by omega), if_neg q, fk_lp1_s, B4_read_17, if_neg (show ¬ nI (k + 1) ≤ 0 by rw [zl0, nI_leI (by omega) (by decide)]; omega)]
        rcases expect2 hx e3 (show ¬ (59 : Int32) = -1 by decide) with ⟨g1, g2, g3, g4⟩ | ⟨g1, g2, g3⟩
        · rw [g1, g2, fk_bind_some, fk_bind_some]
          obtain ⟨w', rfl⟩ : ∃ w', w = w' + 1 := ⟨w - 1, by omega⟩
          exact ih (pos' + 1) (k + 1) (w' + 1) (v + 1) _ _ (by omega) (by omega) (by omega) (by omega) g4
        · obtain ⟨c2, i1, i2⟩ := item_dead hx g3
          rw [g1, g2, fk_bind_some, fk_bind_some, ended _ _ _ _ e3.2.2.1]
          refine Or.inr ⟨nI (k + 1) + 1, c2, m', pos', ?_, rfl, i2, e3.2.2.1⟩
          unfold B4_read_27
          rw [i1, fk_bind_some, fk_let_e, i2.2.1, if_neg (m1_nI (by omega))]
