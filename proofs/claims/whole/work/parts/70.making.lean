/-! MAKING: new rows whose class is known, worlds put in order, the constructors' tables -/
theorem fk_newI {p : Program} {l : Launch} {e : Env} {R : Room} {s : State} {m : MethodId} {args : Array Value} {below : List Frame} {meth : Method} {c : Code} {H H0 : Heap} {locs : List Loc} {cells slots pc : Nat} {Q : State → Prop} {ls : Array Slot} {rest : List Value} {cc : ByteArray} {A : Nat → Prop} {D : va_G} {cl : List vw_C} {ws : va_W} {tys : List (ClassId × FieldType)} {cI : ClassId}
    (hexec : p.tables.exec = Jvm.exec) (hb : c.code = cc) (harr : (Cond.arrayClass .int).before args s = true) (hK : va_K D cl tys s) (hP : va_P D cl ws H) (hD : va_D A ws) (hS : va_S A H0 H locs) (hA : ∀ q, H0.size ≤ q → A q) (t0 : Nat) (ht : tys[t0]? = some (cI, .int))
    {n : Int32} {N' : Nat} (hn : ¬ n < 0) (hN : n.toNatClampNeg = N') (hbytes : N' * componentBytes .int ≤ 536870912) (hcells : cells + 1 ≤ R.cells) (hslots : slots + N' ≤ R.slots) (hdg : decode cc pc = .ok (.newarray .int, 2))
    (kk : ∀ (q : Nat) (H1 : Heap), va_P D cl (ws ++ [(q, .inl (cI, N', .inl (fun _ => 0)))]) H1 → va_D A (ws ++ [(q, .inl (cI, N', .inl (fun _ => 0)))]) → va_S A H0 H1 locs →
      W p l e R s m args below meth c H1 locs (cells + 1) (slots + N') Q (F0 m (pc + 2) ls (.ref q :: rest))) : W p l e R s m args below meth c H locs cells slots Q (F0 m pc ls (.int n :: rest)) := by
  refine va_newa (atype := .int) (a0 := (N', .inl (fun _ => 0))) hexec hb harr rfl hK hP hD hS hA (fun cA => rfl) hn hN hbytes hcells hslots hdg (fun q cA H1 hK1 hP1 hD1 hS1 => ?_)
  have h1 : va_RA s cA .int := (hK1.2 tys.length (cA, .int) (by rw [List.getElem?_append_right (Nat.le_refl _), Nat.sub_self]; rfl)).2
  have h2 : va_RA s cI .int := (hK.2 t0 (cI, .int) ht).2
  have h3 : cA = cI := Option.some.inj (Eq.trans (Eq.symm h1) h2)
  subst h3
  exact kk q H1 hP1 hD1 hS1
theorem fk_newL {p : Program} {l : Launch} {e : Env} {R : Room} {s : State} {m : MethodId} {args : Array Value} {below : List Frame} {meth : Method} {c : Code} {H H0 : Heap} {locs : List Loc} {cells slots pc : Nat} {Q : State → Prop} {ls : Array Slot} {rest : List Value} {cc : ByteArray} {A : Nat → Prop} {D : va_G} {cl : List vw_C} {ws : va_W} {tys : List (ClassId × FieldType)} {cI : ClassId}
    (hexec : p.tables.exec = Jvm.exec) (hb : c.code = cc) (harr : (Cond.arrayClass .long).before args s = true) (hK : va_K D cl tys s) (hP : va_P D cl ws H) (hD : va_D A ws) (hS : va_S A H0 H locs) (hA : ∀ q, H0.size ≤ q → A q) (t0 : Nat) (ht : tys[t0]? = some (cI, .long))
    {n : Int32} {N' : Nat} (hn : ¬ n < 0) (hN : n.toNatClampNeg = N') (hbytes : N' * componentBytes .long ≤ 536870912) (hcells : cells + 1 ≤ R.cells) (hslots : slots + N' ≤ R.slots) (hdg : decode cc pc = .ok (.newarray .long, 2))
    (kk : ∀ (q : Nat) (H1 : Heap), va_P D cl (ws ++ [(q, .inl (cI, N', .inr (.inl (fun _ => 0))))]) H1 → va_D A (ws ++ [(q, .inl (cI, N', .inr (.inl (fun _ => 0))))]) → va_S A H0 H1 locs →
      W p l e R s m args below meth c H1 locs (cells + 1) (slots + N') Q (F0 m (pc + 2) ls (.ref q :: rest))) : W p l e R s m args below meth c H locs cells slots Q (F0 m pc ls (.int n :: rest)) := by
  refine va_newa (atype := .long) (a0 := (N', .inr (.inl (fun _ => 0)))) hexec hb harr rfl hK hP hD hS hA (fun cA => rfl) hn hN hbytes hcells hslots hdg (fun q cA H1 hK1 hP1 hD1 hS1 => ?_)
  have h1 : va_RA s cA .long := (hK1.2 tys.length (cA, .long) (by rw [List.getElem?_append_right (Nat.le_refl _), Nat.sub_self]; rfl)).2
  have h2 : va_RA s cI .long := (hK.2 t0 (cI, .long) ht).2
  have h3 : cA = cI := Option.some.inj (Eq.trans (Eq.symm h1) h2)
  subst h3
  exact kk q H1 hP1 hD1 hS1
theorem arrV_cg {cI : ClassId} {N : Nat} {f g : Nat → Value} (h : ∀ j, j < N → f j = g j) : arrV cI N f = arrV cI N g := by
  unfold arrV
  congr 1
  congr 1
  funext j
  exact h j.val j.isLt
theorem va_P.cg {D : va_G} {cl : List vw_C} {ws : va_W} {H : Heap} {k q : Nat} {a a' : ClassId × vp_A} (hP : va_P D cl ws H) (hk : ws[k]? = some (q, .inl a)) (h : vp_cell a.1 a.2 = vp_cell a'.1 a'.2) : va_P D cl (ws.set k (q, .inl a')) H := by
  intro j x hj
  rw [List.getElem?_set] at hj
  by_cases e : k = j
  · rw [if_pos e] at hj
    have hl : k < ws.length := (List.getElem?_eq_some_iff.mp hk).1
    rw [if_pos hl] at hj
    cases hj
    have := hP k _ hk
    show H[q]? = some (vp_cell a'.1 a'.2)
    rw [← h]
    exact this
  · rw [if_neg e] at hj
    exact hP j x hj
theorem fk_injD {w : fkW} {g : fkG} {A : Nat → Prop} {st : fkS} (h : va_D A (fk_ws w g st)) : fk_inj w g := by
  intro i j hi hj e
  exact h.1 i j _ _ (fk_wat hi) (fk_wat hj) e
/-- the table that a bakery begins with -/
def tabF : Nat → Int32 := fun j => nI ((j / 5 + j % 5 + 1) % 8)
theorem tab_ok {i : Nat} (h : i < 40) : (nI i / 5 + (nI i - nI i / 5 * 5) + 1) - (nI i / 5 + (nI i - nI i / 5 * 5) + 1) / 8 * 8 = tabF i := by
  have e1 : nI i / 5 = nI (i / 5) := pk_div (d := 5) (by omega) (by omega) (by omega)
  have e2 : nI i - nI i / 5 * 5 = nI (i % 5) := pk_rem (d := 5) (by omega) (by omega) (by omega)
  rw [e2, e1, nI_add, nI_1]
  exact pk_rem (d := 8) (by omega) (by omega) (by omega)
theorem tab_ok2 {i j : Nat} (hi : i < 8) (hj : j < 5) : (nI i + nI j + 1) - (nI i + nI j + 1) / 8 * 8 = tabF (5 * i + j) := by
  rw [nI_add, nI_1]
  unfold tabF
  rw [show (5 * i + j) / 5 = i by omega, show (5 * i + j) % 5 = j by omega]
  exact pk_rem (d := 8) (by omega) (by omega) (by omega)
