def fk_rem (x y : Int32) : Int32 := x - x / y * y
def fk_ushr (x y : Int32) : Int32 := (x.toUInt32 >>> (y.toUInt32 &&& Int32.toUInt32 31)).toInt32
def fk_max (x y : Int32) : Int32 := if x < y then y else x
def fk_min (x y : Int32) : Int32 := if y < x then y else x
def fk_nzL (y : Int64) : Bool := !(decide (y = 0))
theorem fk_nzL_ne {y : Int64} (h : fk_nzL y = true) : ¬ y = 0 := by
  unfold fk_nzL at h
  simpa using h
theorem j_iconst {w : fkW} {g : fkG} {k : fkK} {ρ : Type} {en : ρ → Option Value} {own : String} {cc : ByteArray} {nL fr lo pc : Nat} {ret : Option FieldType} {lv : List (Nat × Value)} {stk : List Value} {st : fkS} {F : Option (ρ × fkS)} (hk : fk_ok w g k own cc nL ret fr lo) {n : Int} {v : Int32} (hdg : decode cc pc = .ok (.iconst n, 1)) (hv : Int32.ofInt n = v)
    (kk : fk_J w g en k (pc + 1) lv (.int v :: stk) st F) : fk_J w g en k pc lv (stk) st F := by
  intro o ho hq
  have kk := kk o ho hq
  obtain ⟨p, l, e, R, s, m, args, below, meth, c, rv, sf⟩ := k
  obtain ⟨hx, hb, hml, hown, hts, hK, hE, hr, hlk, hinj, hfr, hlo⟩ := hk
  intro H locs ls hl hP hS
  exact lv_iconst hx hb hdg hv (kk H locs ls hl hP hS)
theorem j_bipush {w : fkW} {g : fkG} {k : fkK} {ρ : Type} {en : ρ → Option Value} {own : String} {cc : ByteArray} {nL fr lo pc : Nat} {ret : Option FieldType} {lv : List (Nat × Value)} {stk : List Value} {st : fkS} {F : Option (ρ × fkS)} (hk : fk_ok w g k own cc nL ret fr lo) {n : Int} {v : Int32} (hdg : decode cc pc = .ok (.bipush n, 2)) (hv : (Int8.ofInt n).toInt32 = v)
    (kk : fk_J w g en k (pc + 2) lv (.int v :: stk) st F) : fk_J w g en k pc lv (stk) st F := by
  intro o ho hq
  have kk := kk o ho hq
  obtain ⟨p, l, e, R, s, m, args, below, meth, c, rv, sf⟩ := k
  obtain ⟨hx, hb, hml, hown, hts, hK, hE, hr, hlk, hinj, hfr, hlo⟩ := hk
  intro H locs ls hl hP hS
  exact lv_bipush hx hb hdg hv (kk H locs ls hl hP hS)
theorem j_sipush {w : fkW} {g : fkG} {k : fkK} {ρ : Type} {en : ρ → Option Value} {own : String} {cc : ByteArray} {nL fr lo pc : Nat} {ret : Option FieldType} {lv : List (Nat × Value)} {stk : List Value} {st : fkS} {F : Option (ρ × fkS)} (hk : fk_ok w g k own cc nL ret fr lo) {n : Int} {v : Int32} (hdg : decode cc pc = .ok (.sipush n, 3)) (hv : (Int16.ofInt n).toInt32 = v)
    (kk : fk_J w g en k (pc + 3) lv (.int v :: stk) st F) : fk_J w g en k pc lv (stk) st F := by
  intro o ho hq
  have kk := kk o ho hq
  obtain ⟨p, l, e, R, s, m, args, below, meth, c, rv, sf⟩ := k
  obtain ⟨hx, hb, hml, hown, hts, hK, hE, hr, hlk, hinj, hfr, hlo⟩ := hk
  intro H locs ls hl hP hS
  exact lv_sipush hx hb hdg hv (kk H locs ls hl hP hS)
theorem j_lconst {w : fkW} {g : fkG} {k : fkK} {ρ : Type} {en : ρ → Option Value} {own : String} {cc : ByteArray} {nL fr lo pc : Nat} {ret : Option FieldType} {lv : List (Nat × Value)} {stk : List Value} {st : fkS} {F : Option (ρ × fkS)} (hk : fk_ok w g k own cc nL ret fr lo) {n : Fin 2} {v : Int64} (hdg : decode cc pc = .ok (.lconst n, 1)) (hv : Int64.ofNat (n : Nat) = v)
    (kk : fk_J w g en k (pc + 1) lv (.long v :: stk) st F) : fk_J w g en k pc lv (stk) st F := by
  intro o ho hq
  have kk := kk o ho hq
  obtain ⟨p, l, e, R, s, m, args, below, meth, c, rv, sf⟩ := k
  obtain ⟨hx, hb, hml, hown, hts, hK, hE, hr, hlk, hinj, hfr, hlo⟩ := hk
  intro H locs ls hl hP hS
  exact lv_lconst hx hb hdg hv (kk H locs ls hl hP hS)
theorem j_ldc {w : fkW} {g : fkG} {k : fkK} {ρ : Type} {en : ρ → Option Value} {own : String} {cc : ByteArray} {nL fr lo pc : Nat} {ret : Option FieldType} {lv : List (Nat × Value)} {stk : List Value} {st : fkS} {F : Option (ρ × fkS)} (hk : fk_ok w g k own cc nL ret fr lo) {i : Nat} {v : Int32} (hdg : decode cc pc = .ok (.ldc i, 2)) (hc : Cond.constant own i v ∈ fkB)
    (kk : fk_J w g en k (pc + 2) lv (.int v :: stk) st F) : fk_J w g en k pc lv (stk) st F := by
  intro o ho hq
  have kk := kk o ho hq
  obtain ⟨p, l, e, R, s, m, args, below, meth, c, rv, sf⟩ := k
  obtain ⟨hx, hb, hml, hown, hts, hK, hE, hr, hlk, hinj, hfr, hlo⟩ := hk
  intro H locs ls hl hP hS
  exact lv_ldc hx hb hown (hts _ hc) hdg (kk H locs ls hl hP hS)
theorem j_ldcw {w : fkW} {g : fkG} {k : fkK} {ρ : Type} {en : ρ → Option Value} {own : String} {cc : ByteArray} {nL fr lo pc : Nat} {ret : Option FieldType} {lv : List (Nat × Value)} {stk : List Value} {st : fkS} {F : Option (ρ × fkS)} (hk : fk_ok w g k own cc nL ret fr lo) {i : Nat} {v : Int32} (hdg : decode cc pc = .ok (.ldc_w i, 3)) (hc : Cond.constant own i v ∈ fkB)
    (kk : fk_J w g en k (pc + 3) lv (.int v :: stk) st F) : fk_J w g en k pc lv (stk) st F := by
  intro o ho hq
  have kk := kk o ho hq
  obtain ⟨p, l, e, R, s, m, args, below, meth, c, rv, sf⟩ := k
  obtain ⟨hx, hb, hml, hown, hts, hK, hE, hr, hlk, hinj, hfr, hlo⟩ := hk
  intro H locs ls hl hP hS
  exact lv_ldcw hx hb hown (hts _ hc) hdg (kk H locs ls hl hP hS)
theorem j_ldc2 {w : fkW} {g : fkG} {k : fkK} {ρ : Type} {en : ρ → Option Value} {own : String} {cc : ByteArray} {nL fr lo pc : Nat} {ret : Option FieldType} {lv : List (Nat × Value)} {stk : List Value} {st : fkS} {F : Option (ρ × fkS)} (hk : fk_ok w g k own cc nL ret fr lo) {i : Nat} {v : Int64} (hdg : decode cc pc = .ok (.ldc2_w i, 3)) (hc : Cond.constantLong own i v ∈ fkB)
    (kk : fk_J w g en k (pc + 3) lv (.long v :: stk) st F) : fk_J w g en k pc lv (stk) st F := by
  intro o ho hq
  have kk := kk o ho hq
  obtain ⟨p, l, e, R, s, m, args, below, meth, c, rv, sf⟩ := k
  obtain ⟨hx, hb, hml, hown, hts, hK, hE, hr, hlk, hinj, hfr, hlo⟩ := hk
  intro H locs ls hl hP hS
  exact lv_ldc2 hx hb hown (hts _ hc) hdg (kk H locs ls hl hP hS)
theorem j_ldcS {w : fkW} {g : fkG} {k : fkK} {ρ : Type} {en : ρ → Option Value} {own : String} {cc : ByteArray} {nL fr lo pc : Nat} {ret : Option FieldType} {lv : List (Nat × Value)} {stk : List Value} {st : fkS} {F : Option (ρ × fkS)} (hk : fk_ok w g k own cc nL ret fr lo) {i q : Nat} {tx : String} (hdg : decode cc pc = .ok (.ldc i, 2)) (hc : (own, i, tx, q) ∈ fk_strs)
    (kk : fk_J w g en k (pc + 2) lv (fk_q g q :: stk) st F) : fk_J w g en k pc lv (stk) st F := by
  intro o ho hq
  have kk := kk o ho hq
  obtain ⟨p, l, e, R, s, m, args, below, meth, c, rv, sf⟩ := k
  obtain ⟨hx, hb, hml, hown, hts, hK, hE, hr, hlk, hinj, hfr, hlo⟩ := hk
  intro H locs ls hl hP hS
  exact va_ldcS hx hb hown (hE.2.2.2.2.2.2.1 _ hc) hdg (kk H locs ls hl hP hS)
theorem j_iload_n {w : fkW} {g : fkG} {k : fkK} {ρ : Type} {en : ρ → Option Value} {own : String} {cc : ByteArray} {nL fr lo pc : Nat} {ret : Option FieldType} {lv : List (Nat × Value)} {stk : List Value} {st : fkS} {F : Option (ρ × fkS)} (hk : fk_ok w g k own cc nL ret fr lo) {i : Fin 4} {x : Int32} (j : Nat) (hj : lv[j]? = some ((i : Nat), .int x)) (hdg : decode cc pc = .ok (.iload_n i, 1)) 
    (kk : fk_J w g en k (pc + 1) lv (.int x :: stk) st F) : fk_J w g en k pc lv (stk) st F := by
  intro o ho hq
  have kk := kk o ho hq
  obtain ⟨p, l, e, R, s, m, args, below, meth, c, rv, sf⟩ := k
  obtain ⟨hx, hb, hml, hown, hts, hK, hE, hr, hlk, hinj, hfr, hlo⟩ := hk
  intro H locs ls hl hP hS
  exact lv_iload_n hx hb hdg rfl (lv_at hl j hj) (kk H locs ls hl hP hS)
theorem j_iload {w : fkW} {g : fkG} {k : fkK} {ρ : Type} {en : ρ → Option Value} {own : String} {cc : ByteArray} {nL fr lo pc : Nat} {ret : Option FieldType} {lv : List (Nat × Value)} {stk : List Value} {st : fkS} {F : Option (ρ × fkS)} (hk : fk_ok w g k own cc nL ret fr lo) {i : Nat} {x : Int32} (j : Nat) (hj : lv[j]? = some (i, .int x)) (hdg : decode cc pc = .ok (.iload i, 2)) 
    (kk : fk_J w g en k (pc + 2) lv (.int x :: stk) st F) : fk_J w g en k pc lv (stk) st F := by
  intro o ho hq
  have kk := kk o ho hq
  obtain ⟨p, l, e, R, s, m, args, below, meth, c, rv, sf⟩ := k
  obtain ⟨hx, hb, hml, hown, hts, hK, hE, hr, hlk, hinj, hfr, hlo⟩ := hk
  intro H locs ls hl hP hS
  exact lv_iload hx hb hdg (lv_at hl j hj) (kk H locs ls hl hP hS)
theorem j_lload_n {w : fkW} {g : fkG} {k : fkK} {ρ : Type} {en : ρ → Option Value} {own : String} {cc : ByteArray} {nL fr lo pc : Nat} {ret : Option FieldType} {lv : List (Nat × Value)} {stk : List Value} {st : fkS} {F : Option (ρ × fkS)} (hk : fk_ok w g k own cc nL ret fr lo) {i : Fin 4} {x : Int64} (j : Nat) (hj : lv[j]? = some ((i : Nat), .long x)) (hdg : decode cc pc = .ok (.lload_n i, 1)) 
    (kk : fk_J w g en k (pc + 1) lv (.long x :: stk) st F) : fk_J w g en k pc lv (stk) st F := by
  intro o ho hq
  have kk := kk o ho hq
  obtain ⟨p, l, e, R, s, m, args, below, meth, c, rv, sf⟩ := k
  obtain ⟨hx, hb, hml, hown, hts, hK, hE, hr, hlk, hinj, hfr, hlo⟩ := hk
  intro H locs ls hl hP hS
  exact lv_lload_n hx hb hdg rfl (lv_at hl j hj) (kk H locs ls hl hP hS)
theorem j_lload {w : fkW} {g : fkG} {k : fkK} {ρ : Type} {en : ρ → Option Value} {own : String} {cc : ByteArray} {nL fr lo pc : Nat} {ret : Option FieldType} {lv : List (Nat × Value)} {stk : List Value} {st : fkS} {F : Option (ρ × fkS)} (hk : fk_ok w g k own cc nL ret fr lo) {i : Nat} {x : Int64} (j : Nat) (hj : lv[j]? = some (i, .long x)) (hdg : decode cc pc = .ok (.lload i, 2)) 
    (kk : fk_J w g en k (pc + 2) lv (.long x :: stk) st F) : fk_J w g en k pc lv (stk) st F := by
  intro o ho hq
  have kk := kk o ho hq
  obtain ⟨p, l, e, R, s, m, args, below, meth, c, rv, sf⟩ := k
  obtain ⟨hx, hb, hml, hown, hts, hK, hE, hr, hlk, hinj, hfr, hlo⟩ := hk
  intro H locs ls hl hP hS
  exact lv_lload hx hb hdg (lv_at hl j hj) (kk H locs ls hl hP hS)
theorem j_aload_n {w : fkW} {g : fkG} {k : fkK} {ρ : Type} {en : ρ → Option Value} {own : String} {cc : ByteArray} {nL fr lo pc : Nat} {ret : Option FieldType} {lv : List (Nat × Value)} {stk : List Value} {st : fkS} {F : Option (ρ × fkS)} (hk : fk_ok w g k own cc nL ret fr lo) {i : Fin 4} {v : Value} (j : Nat) (hj : lv[j]? = some ((i : Nat), v)) (hv : ∃ a, v = .ref a) (hdg : decode cc pc = .ok (.aload_n i, 1)) 
    (kk : fk_J w g en k (pc + 1) lv (v :: stk) st F) : fk_J w g en k pc lv (stk) st F := by
  obtain ⟨a, rfl⟩ := hv
  intro o ho hq
  have kk := kk o ho hq
  obtain ⟨p, l, e, R, s, m, args, below, meth, c, rv, sf⟩ := k
  obtain ⟨hx, hb, hml, hown, hts, hK, hE, hr, hlk, hinj, hfr, hlo⟩ := hk
  intro H locs ls hl hP hS
  exact lv_aload_n hx hb hdg rfl (lv_at hl j hj) (kk H locs ls hl hP hS)
theorem j_aload {w : fkW} {g : fkG} {k : fkK} {ρ : Type} {en : ρ → Option Value} {own : String} {cc : ByteArray} {nL fr lo pc : Nat} {ret : Option FieldType} {lv : List (Nat × Value)} {stk : List Value} {st : fkS} {F : Option (ρ × fkS)} (hk : fk_ok w g k own cc nL ret fr lo) {i : Nat} {v : Value} (j : Nat) (hj : lv[j]? = some (i, v)) (hv : ∃ a, v = .ref a) (hdg : decode cc pc = .ok (.aload i, 2)) 
    (kk : fk_J w g en k (pc + 2) lv (v :: stk) st F) : fk_J w g en k pc lv (stk) st F := by
  obtain ⟨a, rfl⟩ := hv
  intro o ho hq
  have kk := kk o ho hq
  obtain ⟨p, l, e, R, s, m, args, below, meth, c, rv, sf⟩ := k
  obtain ⟨hx, hb, hml, hown, hts, hK, hE, hr, hlk, hinj, hfr, hlo⟩ := hk
  intro H locs ls hl hP hS
  exact lv_aload hx hb hdg (lv_at hl j hj) (kk H locs ls hl hP hS)
theorem j_istore_n {w : fkW} {g : fkG} {k : fkK} {ρ : Type} {en : ρ → Option Value} {own : String} {cc : ByteArray} {nL fr lo pc : Nat} {ret : Option FieldType} {lv : List (Nat × Value)} {stk : List Value} {st : fkS} {F : Option (ρ × fkS)} (hk : fk_ok w g k own cc nL ret fr lo) {ik : Fin 4} {i : Nat} {x : Int32} {lv' : List (Nat × Value)} (hi : (ik : Nat) = i) (hn : i < nL) (hs : (i, Value.int x) :: lv.filter (fun q => !(q.1 == i) && !(q.1 + 1 == i && q.2.category == 2)) = lv') (hdg : decode cc pc = .ok (.istore_n ik, 1))
    (kk : fk_J w g en k (pc + 1) lv' stk st F) : fk_J w g en k pc lv (.int x :: stk) st F := by
  intro o ho hq
  have kk := kk o ho hq
  obtain ⟨p, l, e, R, s, m, args, below, meth, c, rv, sf⟩ := k
  obtain ⟨hx, hb, hml, hown, hts, hK, hE, hr, hlk, hinj, hfr, hlo⟩ := hk
  intro H locs ls hl hP hS
  subst hml
  exact lv_istore_n hx hb hdg hi hl hn hs (fun ls' hl' => kk H locs ls' hl' hP hS)
theorem j_istore {w : fkW} {g : fkG} {k : fkK} {ρ : Type} {en : ρ → Option Value} {own : String} {cc : ByteArray} {nL fr lo pc : Nat} {ret : Option FieldType} {lv : List (Nat × Value)} {stk : List Value} {st : fkS} {F : Option (ρ × fkS)} (hk : fk_ok w g k own cc nL ret fr lo) {i : Nat} {x : Int32} {lv' : List (Nat × Value)} (hn : i < nL) (hs : (i, Value.int x) :: lv.filter (fun q => !(q.1 == i) && !(q.1 + 1 == i && q.2.category == 2)) = lv') (hdg : decode cc pc = .ok (.istore i, 2))
    (kk : fk_J w g en k (pc + 2) lv' stk st F) : fk_J w g en k pc lv (.int x :: stk) st F := by
  intro o ho hq
  have kk := kk o ho hq
  obtain ⟨p, l, e, R, s, m, args, below, meth, c, rv, sf⟩ := k
  obtain ⟨hx, hb, hml, hown, hts, hK, hE, hr, hlk, hinj, hfr, hlo⟩ := hk
  intro H locs ls hl hP hS
  subst hml
  exact lv_istore hx hb hdg hl hn hs (fun ls' hl' => kk H locs ls' hl' hP hS)
theorem j_astore_n {w : fkW} {g : fkG} {k : fkK} {ρ : Type} {en : ρ → Option Value} {own : String} {cc : ByteArray} {nL fr lo pc : Nat} {ret : Option FieldType} {lv : List (Nat × Value)} {stk : List Value} {st : fkS} {F : Option (ρ × fkS)} (hk : fk_ok w g k own cc nL ret fr lo) {ik : Fin 4} {i : Nat} {v : Value} {lv' : List (Nat × Value)} (hv : ∃ a, v = .ref a) (hi : (ik : Nat) = i) (hn : i < nL) (hs : (i, v) :: lv.filter (fun q => !(q.1 == i) && !(q.1 + 1 == i && q.2.category == 2)) = lv') (hdg : decode cc pc = .ok (.astore_n ik, 1))
    (kk : fk_J w g en k (pc + 1) lv' stk st F) : fk_J w g en k pc lv (v :: stk) st F := by
  obtain ⟨a, rfl⟩ := hv
  intro o ho hq
  have kk := kk o ho hq
  obtain ⟨p, l, e, R, s, m, args, below, meth, c, rv, sf⟩ := k
  obtain ⟨hx, hb, hml, hown, hts, hK, hE, hr, hlk, hinj, hfr, hlo⟩ := hk
  intro H locs ls hl hP hS
  subst hml
  exact lv_astore_n hx hb hdg hi hl hn hs (fun ls' hl' => kk H locs ls' hl' hP hS)
theorem j_astore {w : fkW} {g : fkG} {k : fkK} {ρ : Type} {en : ρ → Option Value} {own : String} {cc : ByteArray} {nL fr lo pc : Nat} {ret : Option FieldType} {lv : List (Nat × Value)} {stk : List Value} {st : fkS} {F : Option (ρ × fkS)} (hk : fk_ok w g k own cc nL ret fr lo) {i : Nat} {v : Value} {lv' : List (Nat × Value)} (hv : ∃ a, v = .ref a) (hn : i < nL) (hs : (i, v) :: lv.filter (fun q => !(q.1 == i) && !(q.1 + 1 == i && q.2.category == 2)) = lv') (hdg : decode cc pc = .ok (.astore i, 2))
    (kk : fk_J w g en k (pc + 2) lv' stk st F) : fk_J w g en k pc lv (v :: stk) st F := by
  obtain ⟨a, rfl⟩ := hv
  intro o ho hq
  have kk := kk o ho hq
  obtain ⟨p, l, e, R, s, m, args, below, meth, c, rv, sf⟩ := k
  obtain ⟨hx, hb, hml, hown, hts, hK, hE, hr, hlk, hinj, hfr, hlo⟩ := hk
  intro H locs ls hl hP hS
  subst hml
  exact lv_astore hx hb hdg hl hn hs (fun ls' hl' => kk H locs ls' hl' hP hS)
theorem j_iinc {w : fkW} {g : fkG} {k : fkK} {ρ : Type} {en : ρ → Option Value} {own : String} {cc : ByteArray} {nL fr lo pc : Nat} {ret : Option FieldType} {lv : List (Nat × Value)} {stk : List Value} {st : fkS} {F : Option (ρ × fkS)} (hk : fk_ok w g k own cc nL ret fr lo) {i : Nat} {n : Int} {x dd : Int32} {lv' : List (Nat × Value)} (j : Nat) (hj : lv[j]? = some (i, .int x)) (hv : Int32.ofInt n = dd) (hn : i < nL) (hs : (i, Value.int (x + dd)) :: lv.filter (fun q => !(q.1 == i) && !(q.1 + 1 == i && q.2.category == 2)) = lv') (hdg : decode cc pc = .ok (.iinc i n, 3))
    (kk : fk_J w g en k (pc + 3) lv' stk st F) : fk_J w g en k pc lv stk st F := by
  intro o ho hq
  have kk := kk o ho hq
  obtain ⟨p, l, e, R, s, m, args, below, meth, c, rv, sf⟩ := k
  obtain ⟨hx, hb, hml, hown, hts, hK, hE, hr, hlk, hinj, hfr, hlo⟩ := hk
  intro H locs ls hl hP hS
  subst hml
  exact lv_iinc hx hb hdg hl hj (by rw [hv]) hn hs (fun ls' hl' => kk H locs ls' hl' hP hS)
theorem j_iadd {w : fkW} {g : fkG} {k : fkK} {ρ : Type} {en : ρ → Option Value} {own : String} {cc : ByteArray} {nL fr lo pc : Nat} {ret : Option FieldType} {lv : List (Nat × Value)} {stk : List Value} {st : fkS} {F : Option (ρ × fkS)} (hk : fk_ok w g k own cc nL ret fr lo) {x y : Int32} (hdg : decode cc pc = .ok (.iadd, 1)) 
    (kk : fk_J w g en k (pc + 1) lv (.int (x + y) :: stk) st F) : fk_J w g en k pc lv (.int y :: .int x :: stk) st F := by
  intro o ho hq
  have kk := kk o ho hq
  obtain ⟨p, l, e, R, s, m, args, below, meth, c, rv, sf⟩ := k
  obtain ⟨hx, hb, hml, hown, hts, hK, hE, hr, hlk, hinj, hfr, hlo⟩ := hk
  intro H locs ls hl hP hS
  exact lv_iadd hx hb hdg (kk H locs ls hl hP hS)
theorem j_isub {w : fkW} {g : fkG} {k : fkK} {ρ : Type} {en : ρ → Option Value} {own : String} {cc : ByteArray} {nL fr lo pc : Nat} {ret : Option FieldType} {lv : List (Nat × Value)} {stk : List Value} {st : fkS} {F : Option (ρ × fkS)} (hk : fk_ok w g k own cc nL ret fr lo) {x y : Int32} (hdg : decode cc pc = .ok (.isub, 1)) 
    (kk : fk_J w g en k (pc + 1) lv (.int (x - y) :: stk) st F) : fk_J w g en k pc lv (.int y :: .int x :: stk) st F := by
  intro o ho hq
  have kk := kk o ho hq
  obtain ⟨p, l, e, R, s, m, args, below, meth, c, rv, sf⟩ := k
  obtain ⟨hx, hb, hml, hown, hts, hK, hE, hr, hlk, hinj, hfr, hlo⟩ := hk
  intro H locs ls hl hP hS
  exact lv_isub hx hb hdg (kk H locs ls hl hP hS)
theorem j_imul {w : fkW} {g : fkG} {k : fkK} {ρ : Type} {en : ρ → Option Value} {own : String} {cc : ByteArray} {nL fr lo pc : Nat} {ret : Option FieldType} {lv : List (Nat × Value)} {stk : List Value} {st : fkS} {F : Option (ρ × fkS)} (hk : fk_ok w g k own cc nL ret fr lo) {x y : Int32} (hdg : decode cc pc = .ok (.imul, 1)) 
    (kk : fk_J w g en k (pc + 1) lv (.int (x * y) :: stk) st F) : fk_J w g en k pc lv (.int y :: .int x :: stk) st F := by
  intro o ho hq
  have kk := kk o ho hq
  obtain ⟨p, l, e, R, s, m, args, below, meth, c, rv, sf⟩ := k
  obtain ⟨hx, hb, hml, hown, hts, hK, hE, hr, hlk, hinj, hfr, hlo⟩ := hk
  intro H locs ls hl hP hS
  exact lv_imul hx hb hdg (kk H locs ls hl hP hS)
theorem j_iand {w : fkW} {g : fkG} {k : fkK} {ρ : Type} {en : ρ → Option Value} {own : String} {cc : ByteArray} {nL fr lo pc : Nat} {ret : Option FieldType} {lv : List (Nat × Value)} {stk : List Value} {st : fkS} {F : Option (ρ × fkS)} (hk : fk_ok w g k own cc nL ret fr lo) {x y : Int32} (hdg : decode cc pc = .ok (.iand, 1)) 
    (kk : fk_J w g en k (pc + 1) lv (.int (x &&& y) :: stk) st F) : fk_J w g en k pc lv (.int y :: .int x :: stk) st F := by
  intro o ho hq
  have kk := kk o ho hq
  obtain ⟨p, l, e, R, s, m, args, below, meth, c, rv, sf⟩ := k
  obtain ⟨hx, hb, hml, hown, hts, hK, hE, hr, hlk, hinj, hfr, hlo⟩ := hk
  intro H locs ls hl hP hS
  exact lv_iand hx hb hdg (kk H locs ls hl hP hS)
theorem j_ior {w : fkW} {g : fkG} {k : fkK} {ρ : Type} {en : ρ → Option Value} {own : String} {cc : ByteArray} {nL fr lo pc : Nat} {ret : Option FieldType} {lv : List (Nat × Value)} {stk : List Value} {st : fkS} {F : Option (ρ × fkS)} (hk : fk_ok w g k own cc nL ret fr lo) {x y : Int32} (hdg : decode cc pc = .ok (.ior, 1)) 
    (kk : fk_J w g en k (pc + 1) lv (.int (x ||| y) :: stk) st F) : fk_J w g en k pc lv (.int y :: .int x :: stk) st F := by
  intro o ho hq
  have kk := kk o ho hq
  obtain ⟨p, l, e, R, s, m, args, below, meth, c, rv, sf⟩ := k
  obtain ⟨hx, hb, hml, hown, hts, hK, hE, hr, hlk, hinj, hfr, hlo⟩ := hk
  intro H locs ls hl hP hS
  exact lv_ior hx hb hdg (kk H locs ls hl hP hS)
theorem j_ixor {w : fkW} {g : fkG} {k : fkK} {ρ : Type} {en : ρ → Option Value} {own : String} {cc : ByteArray} {nL fr lo pc : Nat} {ret : Option FieldType} {lv : List (Nat × Value)} {stk : List Value} {st : fkS} {F : Option (ρ × fkS)} (hk : fk_ok w g k own cc nL ret fr lo) {x y : Int32} (hdg : decode cc pc = .ok (.ixor, 1)) 
    (kk : fk_J w g en k (pc + 1) lv (.int (x ^^^ y) :: stk) st F) : fk_J w g en k pc lv (.int y :: .int x :: stk) st F := by
  intro o ho hq
  have kk := kk o ho hq
  obtain ⟨p, l, e, R, s, m, args, below, meth, c, rv, sf⟩ := k
  obtain ⟨hx, hb, hml, hown, hts, hK, hE, hr, hlk, hinj, hfr, hlo⟩ := hk
  intro H locs ls hl hP hS
  exact lv_ixor hx hb hdg (kk H locs ls hl hP hS)
theorem j_ishl {w : fkW} {g : fkG} {k : fkK} {ρ : Type} {en : ρ → Option Value} {own : String} {cc : ByteArray} {nL fr lo pc : Nat} {ret : Option FieldType} {lv : List (Nat × Value)} {stk : List Value} {st : fkS} {F : Option (ρ × fkS)} (hk : fk_ok w g k own cc nL ret fr lo) {x y : Int32} (hdg : decode cc pc = .ok (.ishl, 1)) 
    (kk : fk_J w g en k (pc + 1) lv (.int (x <<< (y &&& 31)) :: stk) st F) : fk_J w g en k pc lv (.int y :: .int x :: stk) st F := by
  intro o ho hq
  have kk := kk o ho hq
  obtain ⟨p, l, e, R, s, m, args, below, meth, c, rv, sf⟩ := k
  obtain ⟨hx, hb, hml, hown, hts, hK, hE, hr, hlk, hinj, hfr, hlo⟩ := hk
  intro H locs ls hl hP hS
  exact lv_ishl hx hb hdg (kk H locs ls hl hP hS)
theorem j_ishr {w : fkW} {g : fkG} {k : fkK} {ρ : Type} {en : ρ → Option Value} {own : String} {cc : ByteArray} {nL fr lo pc : Nat} {ret : Option FieldType} {lv : List (Nat × Value)} {stk : List Value} {st : fkS} {F : Option (ρ × fkS)} (hk : fk_ok w g k own cc nL ret fr lo) {x y : Int32} (hdg : decode cc pc = .ok (.ishr, 1)) 
    (kk : fk_J w g en k (pc + 1) lv (.int (x >>> (y &&& 31)) :: stk) st F) : fk_J w g en k pc lv (.int y :: .int x :: stk) st F := by
  intro o ho hq
  have kk := kk o ho hq
  obtain ⟨p, l, e, R, s, m, args, below, meth, c, rv, sf⟩ := k
  obtain ⟨hx, hb, hml, hown, hts, hK, hE, hr, hlk, hinj, hfr, hlo⟩ := hk
  intro H locs ls hl hP hS
  exact lv_ishr hx hb hdg (kk H locs ls hl hP hS)
theorem j_ladd {w : fkW} {g : fkG} {k : fkK} {ρ : Type} {en : ρ → Option Value} {own : String} {cc : ByteArray} {nL fr lo pc : Nat} {ret : Option FieldType} {lv : List (Nat × Value)} {stk : List Value} {st : fkS} {F : Option (ρ × fkS)} (hk : fk_ok w g k own cc nL ret fr lo) {x y : Int64} (hdg : decode cc pc = .ok (.ladd, 1)) 
    (kk : fk_J w g en k (pc + 1) lv (.long (x + y) :: stk) st F) : fk_J w g en k pc lv (.long y :: .long x :: stk) st F := by
  intro o ho hq
  have kk := kk o ho hq
  obtain ⟨p, l, e, R, s, m, args, below, meth, c, rv, sf⟩ := k
  obtain ⟨hx, hb, hml, hown, hts, hK, hE, hr, hlk, hinj, hfr, hlo⟩ := hk
  intro H locs ls hl hP hS
  exact lv_ladd hx hb hdg (kk H locs ls hl hP hS)
theorem j_lsub {w : fkW} {g : fkG} {k : fkK} {ρ : Type} {en : ρ → Option Value} {own : String} {cc : ByteArray} {nL fr lo pc : Nat} {ret : Option FieldType} {lv : List (Nat × Value)} {stk : List Value} {st : fkS} {F : Option (ρ × fkS)} (hk : fk_ok w g k own cc nL ret fr lo) {x y : Int64} (hdg : decode cc pc = .ok (.lsub, 1)) 
    (kk : fk_J w g en k (pc + 1) lv (.long (x - y) :: stk) st F) : fk_J w g en k pc lv (.long y :: .long x :: stk) st F := by
  intro o ho hq
  have kk := kk o ho hq
  obtain ⟨p, l, e, R, s, m, args, below, meth, c, rv, sf⟩ := k
  obtain ⟨hx, hb, hml, hown, hts, hK, hE, hr, hlk, hinj, hfr, hlo⟩ := hk
  intro H locs ls hl hP hS
  exact lv_lsub hx hb hdg (kk H locs ls hl hP hS)
theorem j_lmul {w : fkW} {g : fkG} {k : fkK} {ρ : Type} {en : ρ → Option Value} {own : String} {cc : ByteArray} {nL fr lo pc : Nat} {ret : Option FieldType} {lv : List (Nat × Value)} {stk : List Value} {st : fkS} {F : Option (ρ × fkS)} (hk : fk_ok w g k own cc nL ret fr lo) {x y : Int64} (hdg : decode cc pc = .ok (.lmul, 1)) 
    (kk : fk_J w g en k (pc + 1) lv (.long (x * y) :: stk) st F) : fk_J w g en k pc lv (.long y :: .long x :: stk) st F := by
  intro o ho hq
  have kk := kk o ho hq
  obtain ⟨p, l, e, R, s, m, args, below, meth, c, rv, sf⟩ := k
  obtain ⟨hx, hb, hml, hown, hts, hK, hE, hr, hlk, hinj, hfr, hlo⟩ := hk
  intro H locs ls hl hP hS
  exact lv_lmul hx hb hdg (kk H locs ls hl hP hS)
theorem j_land {w : fkW} {g : fkG} {k : fkK} {ρ : Type} {en : ρ → Option Value} {own : String} {cc : ByteArray} {nL fr lo pc : Nat} {ret : Option FieldType} {lv : List (Nat × Value)} {stk : List Value} {st : fkS} {F : Option (ρ × fkS)} (hk : fk_ok w g k own cc nL ret fr lo) {x y : Int64} (hdg : decode cc pc = .ok (.land, 1)) 
    (kk : fk_J w g en k (pc + 1) lv (.long (x &&& y) :: stk) st F) : fk_J w g en k pc lv (.long y :: .long x :: stk) st F := by
  intro o ho hq
  have kk := kk o ho hq
  obtain ⟨p, l, e, R, s, m, args, below, meth, c, rv, sf⟩ := k
  obtain ⟨hx, hb, hml, hown, hts, hK, hE, hr, hlk, hinj, hfr, hlo⟩ := hk
  intro H locs ls hl hP hS
  exact lv_land hx hb hdg (kk H locs ls hl hP hS)
theorem j_lor {w : fkW} {g : fkG} {k : fkK} {ρ : Type} {en : ρ → Option Value} {own : String} {cc : ByteArray} {nL fr lo pc : Nat} {ret : Option FieldType} {lv : List (Nat × Value)} {stk : List Value} {st : fkS} {F : Option (ρ × fkS)} (hk : fk_ok w g k own cc nL ret fr lo) {x y : Int64} (hdg : decode cc pc = .ok (.lor, 1)) 
    (kk : fk_J w g en k (pc + 1) lv (.long (x ||| y) :: stk) st F) : fk_J w g en k pc lv (.long y :: .long x :: stk) st F := by
  intro o ho hq
  have kk := kk o ho hq
  obtain ⟨p, l, e, R, s, m, args, below, meth, c, rv, sf⟩ := k
  obtain ⟨hx, hb, hml, hown, hts, hK, hE, hr, hlk, hinj, hfr, hlo⟩ := hk
  intro H locs ls hl hP hS
  exact lv_lor hx hb hdg (kk H locs ls hl hP hS)
theorem j_idiv {w : fkW} {g : fkG} {k : fkK} {ρ : Type} {en : ρ → Option Value} {own : String} {cc : ByteArray} {nL fr lo pc : Nat} {ret : Option FieldType} {lv : List (Nat × Value)} {stk : List Value} {st : fkS} {F : Option (ρ × fkS)} (hk : fk_ok w g k own cc nL ret fr lo) {x y : Int32} (hne : fk_nz y = true) (hdg : decode cc pc = .ok (.idiv, 1)) 
    (kk : fk_J w g en k (pc + 1) lv (.int (x / y) :: stk) st F) : fk_J w g en k pc lv (.int y :: .int x :: stk) st F := by
  intro o ho hq
  have kk := kk o ho hq
  obtain ⟨p, l, e, R, s, m, args, below, meth, c, rv, sf⟩ := k
  obtain ⟨hx, hb, hml, hown, hts, hK, hE, hr, hlk, hinj, hfr, hlo⟩ := hk
  intro H locs ls hl hP hS
  exact lv_idiv hx hb hdg (fk_nz_ne hne) (kk H locs ls hl hP hS)
theorem j_irem {w : fkW} {g : fkG} {k : fkK} {ρ : Type} {en : ρ → Option Value} {own : String} {cc : ByteArray} {nL fr lo pc : Nat} {ret : Option FieldType} {lv : List (Nat × Value)} {stk : List Value} {st : fkS} {F : Option (ρ × fkS)} (hk : fk_ok w g k own cc nL ret fr lo) {x y : Int32} (hne : fk_nz y = true) (hdg : decode cc pc = .ok (.irem, 1)) 
    (kk : fk_J w g en k (pc + 1) lv (.int (fk_rem x y) :: stk) st F) : fk_J w g en k pc lv (.int y :: .int x :: stk) st F := by
  intro o ho hq
  have kk := kk o ho hq
  obtain ⟨p, l, e, R, s, m, args, below, meth, c, rv, sf⟩ := k
  obtain ⟨hx, hb, hml, hown, hts, hK, hE, hr, hlk, hinj, hfr, hlo⟩ := hk
  intro H locs ls hl hP hS
  exact lv_irem hx hb hdg (fk_nz_ne hne) (kk H locs ls hl hP hS)
theorem j_ldiv {w : fkW} {g : fkG} {k : fkK} {ρ : Type} {en : ρ → Option Value} {own : String} {cc : ByteArray} {nL fr lo pc : Nat} {ret : Option FieldType} {lv : List (Nat × Value)} {stk : List Value} {st : fkS} {F : Option (ρ × fkS)} (hk : fk_ok w g k own cc nL ret fr lo) {x y : Int64} (hne : fk_nzL y = true) (hdg : decode cc pc = .ok (.ldiv, 1)) 
    (kk : fk_J w g en k (pc + 1) lv (.long (x / y) :: stk) st F) : fk_J w g en k pc lv (.long y :: .long x :: stk) st F := by
  intro o ho hq
  have kk := kk o ho hq
  obtain ⟨p, l, e, R, s, m, args, below, meth, c, rv, sf⟩ := k
  obtain ⟨hx, hb, hml, hown, hts, hK, hE, hr, hlk, hinj, hfr, hlo⟩ := hk
  intro H locs ls hl hP hS
  exact lv_ldiv hx hb hdg (fk_nzL_ne hne) (kk H locs ls hl hP hS)
theorem j_ineg {w : fkW} {g : fkG} {k : fkK} {ρ : Type} {en : ρ → Option Value} {own : String} {cc : ByteArray} {nL fr lo pc : Nat} {ret : Option FieldType} {lv : List (Nat × Value)} {stk : List Value} {st : fkS} {F : Option (ρ × fkS)} (hk : fk_ok w g k own cc nL ret fr lo) {x : Int32} (hdg : decode cc pc = .ok (.ineg, 1)) 
    (kk : fk_J w g en k (pc + 1) lv (.int (-x) :: stk) st F) : fk_J w g en k pc lv (.int x :: stk) st F := by
  intro o ho hq
  have kk := kk o ho hq
  obtain ⟨p, l, e, R, s, m, args, below, meth, c, rv, sf⟩ := k
  obtain ⟨hx, hb, hml, hown, hts, hK, hE, hr, hlk, hinj, hfr, hlo⟩ := hk
  intro H locs ls hl hP hS
  exact lv_ineg hx hb hdg (kk H locs ls hl hP hS)
theorem j_iushr {w : fkW} {g : fkG} {k : fkK} {ρ : Type} {en : ρ → Option Value} {own : String} {cc : ByteArray} {nL fr lo pc : Nat} {ret : Option FieldType} {lv : List (Nat × Value)} {stk : List Value} {st : fkS} {F : Option (ρ × fkS)} (hk : fk_ok w g k own cc nL ret fr lo) {x y : Int32} (hdg : decode cc pc = .ok (.iushr, 1)) 
    (kk : fk_J w g en k (pc + 1) lv (.int (fk_ushr x y) :: stk) st F) : fk_J w g en k pc lv (.int y :: .int x :: stk) st F := by
  intro o ho hq
  have kk := kk o ho hq
  obtain ⟨p, l, e, R, s, m, args, below, meth, c, rv, sf⟩ := k
  obtain ⟨hx, hb, hml, hown, hts, hK, hE, hr, hlk, hinj, hfr, hlo⟩ := hk
  intro H locs ls hl hP hS
  exact lv_iushr hx hb hdg rfl (kk H locs ls hl hP hS)
theorem j_i2l {w : fkW} {g : fkG} {k : fkK} {ρ : Type} {en : ρ → Option Value} {own : String} {cc : ByteArray} {nL fr lo pc : Nat} {ret : Option FieldType} {lv : List (Nat × Value)} {stk : List Value} {st : fkS} {F : Option (ρ × fkS)} (hk : fk_ok w g k own cc nL ret fr lo) {x : Int32} (hdg : decode cc pc = .ok (.i2l, 1)) 
    (kk : fk_J w g en k (pc + 1) lv (.long x.toInt64 :: stk) st F) : fk_J w g en k pc lv (.int x :: stk) st F := by
  intro o ho hq
  have kk := kk o ho hq
  obtain ⟨p, l, e, R, s, m, args, below, meth, c, rv, sf⟩ := k
  obtain ⟨hx, hb, hml, hown, hts, hK, hE, hr, hlk, hinj, hfr, hlo⟩ := hk
  intro H locs ls hl hP hS
  exact lv_i2l hx hb hdg rfl (kk H locs ls hl hP hS)
theorem j_l2i {w : fkW} {g : fkG} {k : fkK} {ρ : Type} {en : ρ → Option Value} {own : String} {cc : ByteArray} {nL fr lo pc : Nat} {ret : Option FieldType} {lv : List (Nat × Value)} {stk : List Value} {st : fkS} {F : Option (ρ × fkS)} (hk : fk_ok w g k own cc nL ret fr lo) {x : Int64} (hdg : decode cc pc = .ok (.l2i, 1)) 
    (kk : fk_J w g en k (pc + 1) lv (.int x.toInt32 :: stk) st F) : fk_J w g en k pc lv (.long x :: stk) st F := by
  intro o ho hq
  have kk := kk o ho hq
  obtain ⟨p, l, e, R, s, m, args, below, meth, c, rv, sf⟩ := k
  obtain ⟨hx, hb, hml, hown, hts, hK, hE, hr, hlk, hinj, hfr, hlo⟩ := hk
  intro H locs ls hl hP hS
  exact lv_l2i hx hb hdg rfl (kk H locs ls hl hP hS)
theorem j_i2b {w : fkW} {g : fkG} {k : fkK} {ρ : Type} {en : ρ → Option Value} {own : String} {cc : ByteArray} {nL fr lo pc : Nat} {ret : Option FieldType} {lv : List (Nat × Value)} {stk : List Value} {st : fkS} {F : Option (ρ × fkS)} (hk : fk_ok w g k own cc nL ret fr lo) {x : Int32} (hdg : decode cc pc = .ok (.i2b, 1)) 
    (kk : fk_J w g en k (pc + 1) lv (.int x.toInt8.toInt32 :: stk) st F) : fk_J w g en k pc lv (.int x :: stk) st F := by
  intro o ho hq
  have kk := kk o ho hq
  obtain ⟨p, l, e, R, s, m, args, below, meth, c, rv, sf⟩ := k
  obtain ⟨hx, hb, hml, hown, hts, hK, hE, hr, hlk, hinj, hfr, hlo⟩ := hk
  intro H locs ls hl hP hS
  exact lv_i2b hx hb hdg rfl (kk H locs ls hl hP hS)
theorem j_i2s {w : fkW} {g : fkG} {k : fkK} {ρ : Type} {en : ρ → Option Value} {own : String} {cc : ByteArray} {nL fr lo pc : Nat} {ret : Option FieldType} {lv : List (Nat × Value)} {stk : List Value} {st : fkS} {F : Option (ρ × fkS)} (hk : fk_ok w g k own cc nL ret fr lo) {x : Int32} (hdg : decode cc pc = .ok (.i2s, 1)) 
    (kk : fk_J w g en k (pc + 1) lv (.int x.toInt16.toInt32 :: stk) st F) : fk_J w g en k pc lv (.int x :: stk) st F := by
  intro o ho hq
  have kk := kk o ho hq
  obtain ⟨p, l, e, R, s, m, args, below, meth, c, rv, sf⟩ := k
  obtain ⟨hx, hb, hml, hown, hts, hK, hE, hr, hlk, hinj, hfr, hlo⟩ := hk
  intro H locs ls hl hP hS
  exact lv_i2s hx hb hdg rfl (kk H locs ls hl hP hS)
theorem j_lshl {w : fkW} {g : fkG} {k : fkK} {ρ : Type} {en : ρ → Option Value} {own : String} {cc : ByteArray} {nL fr lo pc : Nat} {ret : Option FieldType} {lv : List (Nat × Value)} {stk : List Value} {st : fkS} {F : Option (ρ × fkS)} (hk : fk_ok w g k own cc nL ret fr lo) {x : Int64} {y : Int32} (hdg : decode cc pc = .ok (.lshl, 1)) 
    (kk : fk_J w g en k (pc + 1) lv (.long (x <<< (y.toInt64 &&& 63)) :: stk) st F) : fk_J w g en k pc lv (.int y :: .long x :: stk) st F := by
  intro o ho hq
  have kk := kk o ho hq
  obtain ⟨p, l, e, R, s, m, args, below, meth, c, rv, sf⟩ := k
  obtain ⟨hx, hb, hml, hown, hts, hK, hE, hr, hlk, hinj, hfr, hlo⟩ := hk
  intro H locs ls hl hP hS
  exact lv_lshl hx hb hdg rfl (kk H locs ls hl hP hS)
theorem j_lcmp {w : fkW} {g : fkG} {k : fkK} {ρ : Type} {en : ρ → Option Value} {own : String} {cc : ByteArray} {nL fr lo pc : Nat} {ret : Option FieldType} {lv : List (Nat × Value)} {stk : List Value} {st : fkS} {F : Option (ρ × fkS)} (hk : fk_ok w g k own cc nL ret fr lo) {x y : Int64} (hdg : decode cc pc = .ok (.lcmp, 1)) 
    (kk : fk_J w g en k (pc + 1) lv (.int (lg_cmp x y) :: stk) st F) : fk_J w g en k pc lv (.long y :: .long x :: stk) st F := by
  intro o ho hq
  have kk := kk o ho hq
  obtain ⟨p, l, e, R, s, m, args, below, meth, c, rv, sf⟩ := k
  obtain ⟨hx, hb, hml, hown, hts, hK, hE, hr, hlk, hinj, hfr, hlo⟩ := hk
  intro H locs ls hl hP hS
  exact W.lcmp hx hb hdg (kk H locs ls hl hP hS)
theorem j_dup {w : fkW} {g : fkG} {k : fkK} {ρ : Type} {en : ρ → Option Value} {own : String} {cc : ByteArray} {nL fr lo pc : Nat} {ret : Option FieldType} {lv : List (Nat × Value)} {stk : List Value} {st : fkS} {F : Option (ρ × fkS)} (hk : fk_ok w g k own cc nL ret fr lo) {v : Value} (hv : v.category = 1) (hdg : decode cc pc = .ok (.dup, 1)) 
    (kk : fk_J w g en k (pc + 1) lv (v :: v :: stk) st F) : fk_J w g en k pc lv (v :: stk) st F := by
  intro o ho hq
  have kk := kk o ho hq
  obtain ⟨p, l, e, R, s, m, args, below, meth, c, rv, sf⟩ := k
  obtain ⟨hx, hb, hml, hown, hts, hK, hE, hr, hlk, hinj, hfr, hlo⟩ := hk
  intro H locs ls hl hP hS
  exact lv_dup hx hb hdg hv (kk H locs ls hl hP hS)
theorem j_pop {w : fkW} {g : fkG} {k : fkK} {ρ : Type} {en : ρ → Option Value} {own : String} {cc : ByteArray} {nL fr lo pc : Nat} {ret : Option FieldType} {lv : List (Nat × Value)} {stk : List Value} {st : fkS} {F : Option (ρ × fkS)} (hk : fk_ok w g k own cc nL ret fr lo) {v : Value} (hv : v.category = 1) (hdg : decode cc pc = .ok (.pop, 1)) 
    (kk : fk_J w g en k (pc + 1) lv (stk) st F) : fk_J w g en k pc lv (v :: stk) st F := by
  intro o ho hq
  have kk := kk o ho hq
  obtain ⟨p, l, e, R, s, m, args, below, meth, c, rv, sf⟩ := k
  obtain ⟨hx, hb, hml, hown, hts, hK, hE, hr, hlk, hinj, hfr, hlo⟩ := hk
  intro H locs ls hl hP hS
  exact lv_pop hx hb hdg hv (kk H locs ls hl hP hS)
theorem j_dup_x1 {w : fkW} {g : fkG} {k : fkK} {ρ : Type} {en : ρ → Option Value} {own : String} {cc : ByteArray} {nL fr lo pc : Nat} {ret : Option FieldType} {lv : List (Nat × Value)} {stk : List Value} {st : fkS} {F : Option (ρ × fkS)} (hk : fk_ok w g k own cc nL ret fr lo) {v u : Value} (hv : v.category = 1) (hu : u.category = 1) (hdg : decode cc pc = .ok (.dup_x1, 1)) 
    (kk : fk_J w g en k (pc + 1) lv (v :: u :: v :: stk) st F) : fk_J w g en k pc lv (v :: u :: stk) st F := by
  intro o ho hq
  have kk := kk o ho hq
  obtain ⟨p, l, e, R, s, m, args, below, meth, c, rv, sf⟩ := k
  obtain ⟨hx, hb, hml, hown, hts, hK, hE, hr, hlk, hinj, hfr, hlo⟩ := hk
  intro H locs ls hl hP hS
  exact lv_dup_x1 hx hb hdg hv hu (kk H locs ls hl hP hS)
theorem j_dup2 {w : fkW} {g : fkG} {k : fkK} {ρ : Type} {en : ρ → Option Value} {own : String} {cc : ByteArray} {nL fr lo pc : Nat} {ret : Option FieldType} {lv : List (Nat × Value)} {stk : List Value} {st : fkS} {F : Option (ρ × fkS)} (hk : fk_ok w g k own cc nL ret fr lo) {v u : Value} (hv : v.category = 1) (hu : u.category = 1) (hdg : decode cc pc = .ok (.dup2, 1)) 
    (kk : fk_J w g en k (pc + 1) lv (v :: u :: v :: u :: stk) st F) : fk_J w g en k pc lv (v :: u :: stk) st F := by
  intro o ho hq
  have kk := kk o ho hq
  obtain ⟨p, l, e, R, s, m, args, below, meth, c, rv, sf⟩ := k
  obtain ⟨hx, hb, hml, hown, hts, hK, hE, hr, hlk, hinj, hfr, hlo⟩ := hk
  intro H locs ls hl hP hS
  exact lv_dup2_11 hx hb hdg hv hu (kk H locs ls hl hP hS)
theorem j_goto {w : fkW} {g : fkG} {k : fkK} {ρ : Type} {en : ρ → Option Value} {own : String} {cc : ByteArray} {nL fr lo pc : Nat} {ret : Option FieldType} {lv : List (Nat × Value)} {stk : List Value} {st : fkS} {F : Option (ρ × fkS)} (hk : fk_ok w g k own cc nL ret fr lo) {off : Int} {tgt : Nat} (ht : (pc : Int) + off = (tgt : Int)) (hdg : decode cc pc = .ok (.goto off, 3))
    (kk : fk_J w g en k tgt lv stk st F) : fk_J w g en k pc lv stk st F := by
  intro o ho hq
  have kk := kk o ho hq
  obtain ⟨p, l, e, R, s, m, args, below, meth, c, rv, sf⟩ := k
  obtain ⟨hx, hb, hml, hown, hts, hK, hE, hr, hlk, hinj, hfr, hlo⟩ := hk
  intro H locs ls hl hP hS
  exact lv_goto hx hb hdg ht (kk H locs ls hl hP hS)
theorem j_if_eq {w : fkW} {g : fkG} {k : fkK} {ρ : Type} {en : ρ → Option Value} {own : String} {cc : ByteArray} {nL fr lo pc : Nat} {ret : Option FieldType} {lv : List (Nat × Value)} {stk : List Value} {st : fkS} (hk : fk_ok w g k own cc nL ret fr lo) {x : Int32} {off : Int} {tgt : Nat} {inst : Decidable (x = 0)} {F1 F2 : Option (ρ × fkS)} (ht : (pc : Int) + off = (tgt : Int)) (hdg : decode cc pc = .ok (.ifCond .eq off, 3))
    (kt : x = 0 → fk_J w g en k tgt lv stk st F1) (kf : ¬ (x = 0) → fk_J w g en k (pc + 3) lv stk st F2) : fk_J w g en k pc lv (.int x :: stk) st (@ite (Option (ρ × fkS)) (x = 0) inst F1 F2) := by
  intro o ho hq
  have kt : x = 0 → _ := fun h => kt h o (by rw [if_pos h] at ho; exact ho) hq
  have kf : ¬ (x = 0) → _ := fun h => kf h o (by rw [if_neg h] at ho; exact ho) hq
  obtain ⟨p, l, e, R, s, m, args, below, meth, c, rv, sf⟩ := k
  obtain ⟨hx, hb, hml, hown, hts, hK, hE, hr, hlk, hinj, hfr, hlo⟩ := hk
  intro H locs ls hl hP hS
  exact lv_if_eq hx hb hdg ht (fun h => kt h H locs ls hl hP hS) (fun h => kf h H locs ls hl hP hS)
theorem j_if_ne {w : fkW} {g : fkG} {k : fkK} {ρ : Type} {en : ρ → Option Value} {own : String} {cc : ByteArray} {nL fr lo pc : Nat} {ret : Option FieldType} {lv : List (Nat × Value)} {stk : List Value} {st : fkS} (hk : fk_ok w g k own cc nL ret fr lo) {x : Int32} {off : Int} {tgt : Nat} {inst : Decidable (x = 0)} {F1 F2 : Option (ρ × fkS)} (ht : (pc : Int) + off = (tgt : Int)) (hdg : decode cc pc = .ok (.ifCond .ne off, 3))
    (kt : x = 0 → fk_J w g en k (pc + 3) lv stk st F1) (kf : ¬ (x = 0) → fk_J w g en k tgt lv stk st F2) : fk_J w g en k pc lv (.int x :: stk) st (@ite (Option (ρ × fkS)) (x = 0) inst F1 F2) := by
  intro o ho hq
  have kt : x = 0 → _ := fun h => kt h o (by rw [if_pos h] at ho; exact ho) hq
  have kf : ¬ (x = 0) → _ := fun h => kf h o (by rw [if_neg h] at ho; exact ho) hq
  obtain ⟨p, l, e, R, s, m, args, below, meth, c, rv, sf⟩ := k
  obtain ⟨hx, hb, hml, hown, hts, hK, hE, hr, hlk, hinj, hfr, hlo⟩ := hk
  intro H locs ls hl hP hS
  exact lv_if_ne hx hb hdg ht (fun h => kf h H locs ls hl hP hS) (fun h => kt h H locs ls hl hP hS)
theorem j_if_lt {w : fkW} {g : fkG} {k : fkK} {ρ : Type} {en : ρ → Option Value} {own : String} {cc : ByteArray} {nL fr lo pc : Nat} {ret : Option FieldType} {lv : List (Nat × Value)} {stk : List Value} {st : fkS} (hk : fk_ok w g k own cc nL ret fr lo) {x : Int32} {off : Int} {tgt : Nat} {inst : Decidable (x < 0)} {F1 F2 : Option (ρ × fkS)} (ht : (pc : Int) + off = (tgt : Int)) (hdg : decode cc pc = .ok (.ifCond .lt off, 3))
    (kt : x < 0 → fk_J w g en k tgt lv stk st F1) (kf : ¬ (x < 0) → fk_J w g en k (pc + 3) lv stk st F2) : fk_J w g en k pc lv (.int x :: stk) st (@ite (Option (ρ × fkS)) (x < 0) inst F1 F2) := by
  intro o ho hq
  have kt : x < 0 → _ := fun h => kt h o (by rw [if_pos h] at ho; exact ho) hq
  have kf : ¬ (x < 0) → _ := fun h => kf h o (by rw [if_neg h] at ho; exact ho) hq
  obtain ⟨p, l, e, R, s, m, args, below, meth, c, rv, sf⟩ := k
  obtain ⟨hx, hb, hml, hown, hts, hK, hE, hr, hlk, hinj, hfr, hlo⟩ := hk
  intro H locs ls hl hP hS
  exact lv_if_lt hx hb hdg ht (fun h => kt h H locs ls hl hP hS) (fun h => kf h H locs ls hl hP hS)
theorem j_if_ge {w : fkW} {g : fkG} {k : fkK} {ρ : Type} {en : ρ → Option Value} {own : String} {cc : ByteArray} {nL fr lo pc : Nat} {ret : Option FieldType} {lv : List (Nat × Value)} {stk : List Value} {st : fkS} (hk : fk_ok w g k own cc nL ret fr lo) {x : Int32} {off : Int} {tgt : Nat} {inst : Decidable (0 ≤ x)} {F1 F2 : Option (ρ × fkS)} (ht : (pc : Int) + off = (tgt : Int)) (hdg : decode cc pc = .ok (.ifCond .ge off, 3))
    (kt : 0 ≤ x → fk_J w g en k tgt lv stk st F1) (kf : ¬ (0 ≤ x) → fk_J w g en k (pc + 3) lv stk st F2) : fk_J w g en k pc lv (.int x :: stk) st (@ite (Option (ρ × fkS)) (0 ≤ x) inst F1 F2) := by
  intro o ho hq
  have kt : 0 ≤ x → _ := fun h => kt h o (by rw [if_pos h] at ho; exact ho) hq
  have kf : ¬ (0 ≤ x) → _ := fun h => kf h o (by rw [if_neg h] at ho; exact ho) hq
  obtain ⟨p, l, e, R, s, m, args, below, meth, c, rv, sf⟩ := k
  obtain ⟨hx, hb, hml, hown, hts, hK, hE, hr, hlk, hinj, hfr, hlo⟩ := hk
  intro H locs ls hl hP hS
  exact lv_if_ge hx hb hdg ht (fun h => kt h H locs ls hl hP hS) (fun h => kf h H locs ls hl hP hS)
theorem j_if_gt {w : fkW} {g : fkG} {k : fkK} {ρ : Type} {en : ρ → Option Value} {own : String} {cc : ByteArray} {nL fr lo pc : Nat} {ret : Option FieldType} {lv : List (Nat × Value)} {stk : List Value} {st : fkS} (hk : fk_ok w g k own cc nL ret fr lo) {x : Int32} {off : Int} {tgt : Nat} {inst : Decidable (0 < x)} {F1 F2 : Option (ρ × fkS)} (ht : (pc : Int) + off = (tgt : Int)) (hdg : decode cc pc = .ok (.ifCond .gt off, 3))
    (kt : 0 < x → fk_J w g en k tgt lv stk st F1) (kf : ¬ (0 < x) → fk_J w g en k (pc + 3) lv stk st F2) : fk_J w g en k pc lv (.int x :: stk) st (@ite (Option (ρ × fkS)) (0 < x) inst F1 F2) := by
  intro o ho hq
  have kt : 0 < x → _ := fun h => kt h o (by rw [if_pos h] at ho; exact ho) hq
  have kf : ¬ (0 < x) → _ := fun h => kf h o (by rw [if_neg h] at ho; exact ho) hq
  obtain ⟨p, l, e, R, s, m, args, below, meth, c, rv, sf⟩ := k
  obtain ⟨hx, hb, hml, hown, hts, hK, hE, hr, hlk, hinj, hfr, hlo⟩ := hk
  intro H locs ls hl hP hS
  exact lv_if_gt hx hb hdg ht (fun h => kt h H locs ls hl hP hS) (fun h => kf h H locs ls hl hP hS)
theorem j_if_le {w : fkW} {g : fkG} {k : fkK} {ρ : Type} {en : ρ → Option Value} {own : String} {cc : ByteArray} {nL fr lo pc : Nat} {ret : Option FieldType} {lv : List (Nat × Value)} {stk : List Value} {st : fkS} (hk : fk_ok w g k own cc nL ret fr lo) {x : Int32} {off : Int} {tgt : Nat} {inst : Decidable (x ≤ 0)} {F1 F2 : Option (ρ × fkS)} (ht : (pc : Int) + off = (tgt : Int)) (hdg : decode cc pc = .ok (.ifCond .le off, 3))
    (kt : x ≤ 0 → fk_J w g en k tgt lv stk st F1) (kf : ¬ (x ≤ 0) → fk_J w g en k (pc + 3) lv stk st F2) : fk_J w g en k pc lv (.int x :: stk) st (@ite (Option (ρ × fkS)) (x ≤ 0) inst F1 F2) := by
  intro o ho hq
  have kt : x ≤ 0 → _ := fun h => kt h o (by rw [if_pos h] at ho; exact ho) hq
  have kf : ¬ (x ≤ 0) → _ := fun h => kf h o (by rw [if_neg h] at ho; exact ho) hq
  obtain ⟨p, l, e, R, s, m, args, below, meth, c, rv, sf⟩ := k
  obtain ⟨hx, hb, hml, hown, hts, hK, hE, hr, hlk, hinj, hfr, hlo⟩ := hk
  intro H locs ls hl hP hS
  exact lv_if_le hx hb hdg ht (fun h => kt h H locs ls hl hP hS) (fun h => kf h H locs ls hl hP hS)
theorem j_icmp_eq {w : fkW} {g : fkG} {k : fkK} {ρ : Type} {en : ρ → Option Value} {own : String} {cc : ByteArray} {nL fr lo pc : Nat} {ret : Option FieldType} {lv : List (Nat × Value)} {stk : List Value} {st : fkS} (hk : fk_ok w g k own cc nL ret fr lo) {x y : Int32} {off : Int} {tgt : Nat} {inst : Decidable (x = y)} {F1 F2 : Option (ρ × fkS)} (ht : (pc : Int) + off = (tgt : Int)) (hdg : decode cc pc = .ok (.if_icmp .eq off, 3))
    (kt : x = y → fk_J w g en k tgt lv stk st F1) (kf : ¬ (x = y) → fk_J w g en k (pc + 3) lv stk st F2) : fk_J w g en k pc lv (.int y :: .int x :: stk) st (@ite (Option (ρ × fkS)) (x = y) inst F1 F2) := by
  intro o ho hq
  have kt : x = y → _ := fun h => kt h o (by rw [if_pos h] at ho; exact ho) hq
  have kf : ¬ (x = y) → _ := fun h => kf h o (by rw [if_neg h] at ho; exact ho) hq
  obtain ⟨p, l, e, R, s, m, args, below, meth, c, rv, sf⟩ := k
  obtain ⟨hx, hb, hml, hown, hts, hK, hE, hr, hlk, hinj, hfr, hlo⟩ := hk
  intro H locs ls hl hP hS
  exact lv_icmp_eq hx hb hdg ht (fun h => kt h H locs ls hl hP hS) (fun h => kf h H locs ls hl hP hS)
theorem j_icmp_ne {w : fkW} {g : fkG} {k : fkK} {ρ : Type} {en : ρ → Option Value} {own : String} {cc : ByteArray} {nL fr lo pc : Nat} {ret : Option FieldType} {lv : List (Nat × Value)} {stk : List Value} {st : fkS} (hk : fk_ok w g k own cc nL ret fr lo) {x y : Int32} {off : Int} {tgt : Nat} {inst : Decidable (x = y)} {F1 F2 : Option (ρ × fkS)} (ht : (pc : Int) + off = (tgt : Int)) (hdg : decode cc pc = .ok (.if_icmp .ne off, 3))
    (kt : x = y → fk_J w g en k (pc + 3) lv stk st F1) (kf : ¬ (x = y) → fk_J w g en k tgt lv stk st F2) : fk_J w g en k pc lv (.int y :: .int x :: stk) st (@ite (Option (ρ × fkS)) (x = y) inst F1 F2) := by
  intro o ho hq
  have kt : x = y → _ := fun h => kt h o (by rw [if_pos h] at ho; exact ho) hq
  have kf : ¬ (x = y) → _ := fun h => kf h o (by rw [if_neg h] at ho; exact ho) hq
  obtain ⟨p, l, e, R, s, m, args, below, meth, c, rv, sf⟩ := k
  obtain ⟨hx, hb, hml, hown, hts, hK, hE, hr, hlk, hinj, hfr, hlo⟩ := hk
  intro H locs ls hl hP hS
  exact lv_icmp_ne hx hb hdg ht (fun h => kf h H locs ls hl hP hS) (fun h => kt h H locs ls hl hP hS)
theorem j_icmp_lt {w : fkW} {g : fkG} {k : fkK} {ρ : Type} {en : ρ → Option Value} {own : String} {cc : ByteArray} {nL fr lo pc : Nat} {ret : Option FieldType} {lv : List (Nat × Value)} {stk : List Value} {st : fkS} (hk : fk_ok w g k own cc nL ret fr lo) {x y : Int32} {off : Int} {tgt : Nat} {inst : Decidable (x < y)} {F1 F2 : Option (ρ × fkS)} (ht : (pc : Int) + off = (tgt : Int)) (hdg : decode cc pc = .ok (.if_icmp .lt off, 3))
    (kt : x < y → fk_J w g en k tgt lv stk st F1) (kf : ¬ (x < y) → fk_J w g en k (pc + 3) lv stk st F2) : fk_J w g en k pc lv (.int y :: .int x :: stk) st (@ite (Option (ρ × fkS)) (x < y) inst F1 F2) := by
  intro o ho hq
  have kt : x < y → _ := fun h => kt h o (by rw [if_pos h] at ho; exact ho) hq
  have kf : ¬ (x < y) → _ := fun h => kf h o (by rw [if_neg h] at ho; exact ho) hq
  obtain ⟨p, l, e, R, s, m, args, below, meth, c, rv, sf⟩ := k
  obtain ⟨hx, hb, hml, hown, hts, hK, hE, hr, hlk, hinj, hfr, hlo⟩ := hk
  intro H locs ls hl hP hS
  exact lv_icmp_lt hx hb hdg ht (fun h => kt h H locs ls hl hP hS) (fun h => kf h H locs ls hl hP hS)
theorem j_icmp_ge {w : fkW} {g : fkG} {k : fkK} {ρ : Type} {en : ρ → Option Value} {own : String} {cc : ByteArray} {nL fr lo pc : Nat} {ret : Option FieldType} {lv : List (Nat × Value)} {stk : List Value} {st : fkS} (hk : fk_ok w g k own cc nL ret fr lo) {x y : Int32} {off : Int} {tgt : Nat} {inst : Decidable (y ≤ x)} {F1 F2 : Option (ρ × fkS)} (ht : (pc : Int) + off = (tgt : Int)) (hdg : decode cc pc = .ok (.if_icmp .ge off, 3))
    (kt : y ≤ x → fk_J w g en k tgt lv stk st F1) (kf : ¬ (y ≤ x) → fk_J w g en k (pc + 3) lv stk st F2) : fk_J w g en k pc lv (.int y :: .int x :: stk) st (@ite (Option (ρ × fkS)) (y ≤ x) inst F1 F2) := by
  intro o ho hq
  have kt : y ≤ x → _ := fun h => kt h o (by rw [if_pos h] at ho; exact ho) hq
  have kf : ¬ (y ≤ x) → _ := fun h => kf h o (by rw [if_neg h] at ho; exact ho) hq
  obtain ⟨p, l, e, R, s, m, args, below, meth, c, rv, sf⟩ := k
  obtain ⟨hx, hb, hml, hown, hts, hK, hE, hr, hlk, hinj, hfr, hlo⟩ := hk
  intro H locs ls hl hP hS
  exact lv_icmp_ge hx hb hdg ht (fun h => kt h H locs ls hl hP hS) (fun h => kf h H locs ls hl hP hS)
theorem j_icmp_gt {w : fkW} {g : fkG} {k : fkK} {ρ : Type} {en : ρ → Option Value} {own : String} {cc : ByteArray} {nL fr lo pc : Nat} {ret : Option FieldType} {lv : List (Nat × Value)} {stk : List Value} {st : fkS} (hk : fk_ok w g k own cc nL ret fr lo) {x y : Int32} {off : Int} {tgt : Nat} {inst : Decidable (y < x)} {F1 F2 : Option (ρ × fkS)} (ht : (pc : Int) + off = (tgt : Int)) (hdg : decode cc pc = .ok (.if_icmp .gt off, 3))
    (kt : y < x → fk_J w g en k tgt lv stk st F1) (kf : ¬ (y < x) → fk_J w g en k (pc + 3) lv stk st F2) : fk_J w g en k pc lv (.int y :: .int x :: stk) st (@ite (Option (ρ × fkS)) (y < x) inst F1 F2) := by
  intro o ho hq
  have kt : y < x → _ := fun h => kt h o (by rw [if_pos h] at ho; exact ho) hq
  have kf : ¬ (y < x) → _ := fun h => kf h o (by rw [if_neg h] at ho; exact ho) hq
  obtain ⟨p, l, e, R, s, m, args, below, meth, c, rv, sf⟩ := k
  obtain ⟨hx, hb, hml, hown, hts, hK, hE, hr, hlk, hinj, hfr, hlo⟩ := hk
  intro H locs ls hl hP hS
  exact lv_icmp_gt hx hb hdg ht (fun h => kt h H locs ls hl hP hS) (fun h => kf h H locs ls hl hP hS)
theorem j_icmp_le {w : fkW} {g : fkG} {k : fkK} {ρ : Type} {en : ρ → Option Value} {own : String} {cc : ByteArray} {nL fr lo pc : Nat} {ret : Option FieldType} {lv : List (Nat × Value)} {stk : List Value} {st : fkS} (hk : fk_ok w g k own cc nL ret fr lo) {x y : Int32} {off : Int} {tgt : Nat} {inst : Decidable (x ≤ y)} {F1 F2 : Option (ρ × fkS)} (ht : (pc : Int) + off = (tgt : Int)) (hdg : decode cc pc = .ok (.if_icmp .le off, 3))
    (kt : x ≤ y → fk_J w g en k tgt lv stk st F1) (kf : ¬ (x ≤ y) → fk_J w g en k (pc + 3) lv stk st F2) : fk_J w g en k pc lv (.int y :: .int x :: stk) st (@ite (Option (ρ × fkS)) (x ≤ y) inst F1 F2) := by
  intro o ho hq
  have kt : x ≤ y → _ := fun h => kt h o (by rw [if_pos h] at ho; exact ho) hq
  have kf : ¬ (x ≤ y) → _ := fun h => kf h o (by rw [if_neg h] at ho; exact ho) hq
  obtain ⟨p, l, e, R, s, m, args, below, meth, c, rv, sf⟩ := k
  obtain ⟨hx, hb, hml, hown, hts, hK, hE, hr, hlk, hinj, hfr, hlo⟩ := hk
  intro H locs ls hl hP hS
  exact lv_icmp_le hx hb hdg ht (fun h => kt h H locs ls hl hP hS) (fun h => kf h H locs ls hl hP hS)
theorem j_case {w : fkW} {g : fkG} {k : fkK} {ρ : Type} {en : ρ → Option Value} {own : String} {cc : ByteArray} {nL fr lo pc : Nat} {ret : Option FieldType} {lv : List (Nat × Value)} {stk : List Value} {st : fkS} (hk : fk_ok w g k own cc nL ret fr lo) {q : Prop} {inst : Decidable q} {F1 F2 : Option (ρ × fkS)} (kt : q → fk_J w g en k pc lv stk st F1) (kf : ¬ q → fk_J w g en k pc lv stk st F2) : fk_J w g en k pc lv stk st (@ite (Option (ρ × fkS)) q inst F1 F2) := by
  intro o ho hq
  by_cases h : q
  · rw [if_pos h] at ho
    exact kt h o ho hq
  · rw [if_neg h] at ho
    exact kf h o ho hq
theorem j_chk {w : fkW} {g : fkG} {k : fkK} {ρ : Type} {en : ρ → Option Value} {own : String} {cc : ByteArray} {nL fr lo pc : Nat} {ret : Option FieldType} {lv : List (Nat × Value)} {stk : List Value} {st : fkS} {F : Option (ρ × fkS)} (hk : fk_ok w g k own cc nL ret fr lo) {b : Bool} (kk : b = true → fk_J w g en k pc lv stk st F) : fk_J w g en k pc lv stk st (fk_chk b F) := by
  intro o ho hq
  cases b with
  | false => exact absurd ho (by simp [fk_chk])
  | true => exact kk rfl o ho hq
theorem j_none {w : fkW} {g : fkG} {k : fkK} {ρ : Type} {en : ρ → Option Value} {own : String} {cc : ByteArray} {nL fr lo pc : Nat} {ret : Option FieldType} {lv : List (Nat × Value)} {stk : List Value} {st : fkS} (hk : fk_ok w g k own cc nL ret fr lo) : fk_J w g en k pc lv stk st none := fun o ho _ => by cases ho
theorem j_let {w : fkW} {g : fkG} {k : fkK} {ρ : Type} {en : ρ → Option Value} {own : String} {cc : ByteArray} {nL fr lo pc : Nat} {ret : Option FieldType} {lv : List (Nat × Value)} {stk : List Value} {st : fkS} (hk : fk_ok w g k own cc nL ret fr lo) {α : Type} {a : α} {f : α → Option (ρ × fkS)} (kk : fk_J w g en k pc lv stk st (f a)) : fk_J w g en k pc lv stk st (fk_let a f) := kk
theorem j_tswIn {w : fkW} {g : fkG} {k : fkK} {ρ : Type} {en : ρ → Option Value} {own : String} {cc : ByteArray} {nL fr lo pc : Nat} {ret : Option FieldType} {lv : List (Nat × Value)} {stk : List Value} {st : fkS} {F : Option (ρ × fkS)} (hk : fk_ok w g k own cc nL ret fr lo) {dflt low hig : Int} {offs : Array Int} {len : Nat} {x : Int32} {off : Int} {tgt : Nat} (h1 : ¬ x.toInt < low) (h2 : ¬ hig < x.toInt) (hof : offs[(x.toInt - low).toNat]? = some off) (ht : (pc : Int) + off = (tgt : Int)) (hdg : decode cc pc = .ok (.tableswitch dflt low hig offs, len))
    (kk : fk_J w g en k tgt lv stk st F) : fk_J w g en k pc lv (.int x :: stk) st F := by
  intro o ho hq
  have kk := kk o ho hq
  obtain ⟨p, l, e, R, s, m, args, below, meth, c, rv, sf⟩ := k
  obtain ⟨hx, hb, hml, hown, hts, hK, hE, hr, hlk, hinj, hfr, hlo⟩ := hk
  intro H locs ls hl hP hS
  exact lv_tableIn hx hb hdg h1 h2 hof ht (kk H locs ls hl hP hS)
theorem j_tswOut {w : fkW} {g : fkG} {k : fkK} {ρ : Type} {en : ρ → Option Value} {own : String} {cc : ByteArray} {nL fr lo pc : Nat} {ret : Option FieldType} {lv : List (Nat × Value)} {stk : List Value} {st : fkS} {F : Option (ρ × fkS)} (hk : fk_ok w g k own cc nL ret fr lo) {dflt low hig : Int} {offs : Array Int} {len : Nat} {x : Int32} {tgt : Nat} (h1 : x.toInt < low ∨ hig < x.toInt) (ht : (pc : Int) + dflt = (tgt : Int)) (hdg : decode cc pc = .ok (.tableswitch dflt low hig offs, len))
    (kk : fk_J w g en k tgt lv stk st F) : fk_J w g en k pc lv (.int x :: stk) st F := by
  intro o ho hq
  have kk := kk o ho hq
  obtain ⟨p, l, e, R, s, m, args, below, meth, c, rv, sf⟩ := k
  obtain ⟨hx, hb, hml, hown, hts, hK, hE, hr, hlk, hinj, hfr, hlo⟩ := hk
  intro H locs ls hl hP hS
  exact lv_tableOut hx hb hdg h1 ht (kk H locs ls hl hP hS)
theorem j_lsw {w : fkW} {g : fkG} {k : fkK} {ρ : Type} {en : ρ → Option Value} {own : String} {cc : ByteArray} {nL fr lo pc : Nat} {ret : Option FieldType} {lv : List (Nat × Value)} {stk : List Value} {st : fkS} {F : Option (ρ × fkS)} (hk : fk_ok w g k own cc nL ret fr lo) {dflt : Int} {ps : Array (Int × Int)} {len : Nat} {x : Int32} {off : Int} {tgt : Nat} (hps : (ps.toList.zip (ps.toList.drop 1)).all (fun (a, next) => a.1 < next.1) = true) (hof : Op.lookupswitch.offset ps.toList dflt x.toInt = off) (ht : (pc : Int) + off = (tgt : Int)) (hdg : decode cc pc = .ok (.lookupswitch dflt ps, len))
    (kk : fk_J w g en k tgt lv stk st F) : fk_J w g en k pc lv (.int x :: stk) st F := by
  intro o ho hq
  have kk := kk o ho hq
  obtain ⟨p, l, e, R, s, m, args, below, meth, c, rv, sf⟩ := k
  obtain ⟨hx, hb, hml, hown, hts, hK, hE, hr, hlk, hinj, hfr, hlo⟩ := hk
  intro H locs ls hl hP hS
  exact lv_lookup hx hb hdg hps hof ht (kk H locs ls hl hP hS)
theorem j_ifnullR {w : fkW} {g : fkG} {k : fkK} {ρ : Type} {en : ρ → Option Value} {own : String} {cc : ByteArray} {nL fr lo pc : Nat} {ret : Option FieldType} {lv : List (Nat × Value)} {stk : List Value} {st : fkS} {F : Option (ρ × fkS)} (hk : fk_ok w g k own cc nL ret fr lo) {v : Value} (hv : ∃ a, v = .ref a) {off : Int} (hdg : decode cc pc = .ok (.ifnull off, 3))
    (kk : fk_J w g en k (pc + 3) lv stk st F) : fk_J w g en k pc lv (v :: stk) st F := by
  obtain ⟨a, rfl⟩ := hv
  intro o ho hq
  have kk := kk o ho hq
  obtain ⟨p, l, e, R, s, m, args, below, meth, c, rv, sf⟩ := k
  obtain ⟨hx, hb, hml, hown, hts, hK, hE, hr, hlk, hinj, hfr, hlo⟩ := hk
  intro H locs ls hl hP hS
  exact lv_ifnull hx hb hdg (kk H locs ls hl hP hS)
theorem j_ifnullN {w : fkW} {g : fkG} {k : fkK} {ρ : Type} {en : ρ → Option Value} {own : String} {cc : ByteArray} {nL fr lo pc : Nat} {ret : Option FieldType} {lv : List (Nat × Value)} {stk : List Value} {st : fkS} {F : Option (ρ × fkS)} (hk : fk_ok w g k own cc nL ret fr lo) {off : Int} {tgt : Nat} (ht : (pc : Int) + off = (tgt : Int)) (hdg : decode cc pc = .ok (.ifnull off, 3))
    (kk : fk_J w g en k tgt lv stk st F) : fk_J w g en k pc lv (.null :: stk) st F := by
  intro o ho hq
  have kk := kk o ho hq
  obtain ⟨p, l, e, R, s, m, args, below, meth, c, rv, sf⟩ := k
  obtain ⟨hx, hb, hml, hown, hts, hK, hE, hr, hlk, hinj, hfr, hlo⟩ := hk
  intro H locs ls hl hP hS
  exact lv_ifnullN hx hb hdg ht (kk H locs ls hl hP hS)
theorem j_ifnonnullR {w : fkW} {g : fkG} {k : fkK} {ρ : Type} {en : ρ → Option Value} {own : String} {cc : ByteArray} {nL fr lo pc : Nat} {ret : Option FieldType} {lv : List (Nat × Value)} {stk : List Value} {st : fkS} {F : Option (ρ × fkS)} (hk : fk_ok w g k own cc nL ret fr lo) {v : Value} (hv : ∃ a, v = .ref a) {off : Int} {tgt : Nat} (ht : (pc : Int) + off = (tgt : Int)) (hdg : decode cc pc = .ok (.ifnonnull off, 3))
    (kk : fk_J w g en k tgt lv stk st F) : fk_J w g en k pc lv (v :: stk) st F := by
  obtain ⟨a, rfl⟩ := hv
  intro o ho hq
  have kk := kk o ho hq
  obtain ⟨p, l, e, R, s, m, args, below, meth, c, rv, sf⟩ := k
  obtain ⟨hx, hb, hml, hown, hts, hK, hE, hr, hlk, hinj, hfr, hlo⟩ := hk
  intro H locs ls hl hP hS
  exact lv_ifnonnull hx hb hdg ht (kk H locs ls hl hP hS)
theorem j_mmax {w : fkW} {g : fkG} {k : fkK} {ρ : Type} {en : ρ → Option Value} {own : String} {cc : ByteArray} {nL fr lo pc : Nat} {ret : Option FieldType} {lv : List (Nat × Value)} {stk : List Value} {st : fkS} {F : Option (ρ × fkS)} (hk : fk_ok w g k own cc nL ret fr lo) {i : Nat} {x y : Int32} (hl1 : Cond.methodLink own i Lib.Math.max.name ∈ fkB) (h2 : Cond.static Lib.Math.max.name ∈ fkB) (h3 : Cond.initialized "java/lang/Math" ∈ fkB) (h4 : Cond.code Lib.Math.max.name Lib.Math.max.code 2 (some .int) ∈ fkB) (h5 : 1 ≤ fr) (h6 : (stk.map fun v => v.category).sum + 13 ≤ lo) (hdg : decode cc pc = .ok (.invokestatic i, 3))
    (kk : fk_J w g en k (pc + 3) lv (.int (fk_max x y) :: stk) st F) : fk_J w g en k pc lv (.int y :: .int x :: stk) st F := by
  intro o ho hq
  have kk := kk o ho hq
  obtain ⟨p, l, e, R, s, m, args, below, meth, c, rv, sf⟩ := k
  obtain ⟨hx, hb, hml, hown, hts, hK, hE, hr, hlk, hinj, hfr, hlo⟩ := hk
  intro H locs ls hl hP hS
  exact va_mmax hx hb hl.1.symm hown (hts _ hl1) (hts _ h2) (hts _ h3) (hts _ h4) (Nat.le_trans h5 hfr) (Nat.le_trans h6 hlo) (Nat.zero_le _) (Nat.zero_le _) hdg (kk H locs ls hl hP hS)
theorem j_mmin {w : fkW} {g : fkG} {k : fkK} {ρ : Type} {en : ρ → Option Value} {own : String} {cc : ByteArray} {nL fr lo pc : Nat} {ret : Option FieldType} {lv : List (Nat × Value)} {stk : List Value} {st : fkS} {F : Option (ρ × fkS)} (hk : fk_ok w g k own cc nL ret fr lo) {i : Nat} {x y : Int32} (hl1 : Cond.methodLink own i Lib.Math.min.name ∈ fkB) (h2 : Cond.static Lib.Math.min.name ∈ fkB) (h3 : Cond.initialized "java/lang/Math" ∈ fkB) (h4 : Cond.code Lib.Math.min.name Lib.Math.min.code 2 (some .int) ∈ fkB) (h5 : 1 ≤ fr) (h6 : (stk.map fun v => v.category).sum + 13 ≤ lo) (hdg : decode cc pc = .ok (.invokestatic i, 3))
    (kk : fk_J w g en k (pc + 3) lv (.int (fk_min x y) :: stk) st F) : fk_J w g en k pc lv (.int y :: .int x :: stk) st F := by
  intro o ho hq
  have kk := kk o ho hq
  obtain ⟨p, l, e, R, s, m, args, below, meth, c, rv, sf⟩ := k
  obtain ⟨hx, hb, hml, hown, hts, hK, hE, hr, hlk, hinj, hfr, hlo⟩ := hk
  intro H locs ls hl hP hS
  exact va_mmin hx hb hl.1.symm hown (hts _ hl1) (hts _ h2) (hts _ h3) (hts _ h4) (Nat.le_trans h5 hfr) (Nat.le_trans h6 hlo) (Nat.zero_le _) (Nat.zero_le _) hdg (kk H locs ls hl hP hS)
theorem j_iret {w : fkW} {g : fkG} {k : fkK} {own : String} {cc : ByteArray} {nL fr lo pc : Nat} {lv : List (Nat × Value)} {st : fkS} (hk : fk_ok w g k own cc nL (some .int) fr lo) {x : Int32} (hdg : decode cc pc = .ok (.ireturn, 1)) : fk_J w g fk_eI k pc lv [.int x] st (some (x, st)) := by
  intro o ho hq
  cases ho
  obtain ⟨p, l, e, R, s, m, args, below, meth, c, rv, sf⟩ := k
  cases hq
  obtain ⟨hx, hb, hml, hown, hts, hK, hE, hr, hlk, hinj, hfr, hlo⟩ := hk
  intro H locs ls hl hP hS
  exact W.iret hx hb hr (fun t ht hW => ⟨rfl, by rw [ht]; exact hP, hS.F ht⟩) hS.2.2 hdg hlk
theorem j_zret {w : fkW} {g : fkG} {k : fkK} {own : String} {cc : ByteArray} {nL fr lo pc : Nat} {lv : List (Nat × Value)} {st : fkS} {ty : FieldType} (hk : fk_ok w g k own cc nL (some ty) fr lo) {x : Int32} (hn : narrow ty (.int x) = .int x) (hdg : decode cc pc = .ok (.ireturn, 1)) : fk_J w g fk_eI k pc lv [.int x] st (some (x, st)) := by
  intro o ho hq
  cases ho
  obtain ⟨p, l, e, R, s, m, args, below, meth, c, rv, sf⟩ := k
  cases hq
  obtain ⟨hx, hb, hml, hown, hts, hK, hE, hr, hlk, hinj, hfr, hlo⟩ := hk
  intro H locs ls hl hP hS
  exact W.zret hx hb hr hn (fun t ht hW => ⟨rfl, by rw [ht]; exact hP, hS.F ht⟩) hS.2.2 hdg hlk
theorem j_lret {w : fkW} {g : fkG} {k : fkK} {own : String} {cc : ByteArray} {nL fr lo pc : Nat} {lv : List (Nat × Value)} {st : fkS} (hk : fk_ok w g k own cc nL (some .long) fr lo) {x : Int64} (hdg : decode cc pc = .ok (.lreturn, 1)) : fk_J w g fk_eL k pc lv [.long x] st (some (x, st)) := by
  intro o ho hq
  cases ho
  obtain ⟨p, l, e, R, s, m, args, below, meth, c, rv, sf⟩ := k
  cases hq
  obtain ⟨hx, hb, hml, hown, hts, hK, hE, hr, hlk, hinj, hfr, hlo⟩ := hk
  intro H locs ls hl hP hS
  exact W.lret hx hb hr (fun t ht hW => ⟨rfl, by rw [ht]; exact hP, hS.F ht⟩) hS.2.2 hdg hlk
theorem j_vret {w : fkW} {g : fkG} {k : fkK} {own : String} {cc : ByteArray} {nL fr lo pc : Nat} {lv : List (Nat × Value)} {st : fkS} (hk : fk_ok w g k own cc nL none fr lo) (hdg : decode cc pc = .ok (.return_, 1)) : fk_J w g fk_eU k pc lv [] st (some ((), st)) := by
  intro o ho hq
  cases ho
  obtain ⟨p, l, e, R, s, m, args, below, meth, c, rv, sf⟩ := k
  cases hq
  obtain ⟨hx, hb, hml, hown, hts, hK, hE, hr, hlk, hinj, hfr, hlo⟩ := hk
  intro H locs ls hl hP hS
  exact W.vret hx hb hr (fun t ht hW => ⟨rfl, by rw [ht]; exact hP, hS.F ht⟩) hS.2.2 hdg hlk
theorem j_qret {w : fkW} {g : fkG} {k : fkK} {own : String} {cc : ByteArray} {nL fr lo pc : Nat} {lv : List (Nat × Value)} {st : fkS} {nm : String} (hk : fk_ok w g k own cc nL (some (.object nm)) fr lo) {q : Nat} (hdg : decode cc pc = .ok (.areturn, 1)) : fk_J w g (fk_eQ g) k pc lv [fk_q g q] st (some (q, st)) := by
  intro o ho hq
  cases ho
  obtain ⟨p, l, e, R, s, m, args, below, meth, c, rv, sf⟩ := k
  cases hq
  obtain ⟨hx, hb, hml, hown, hts, hK, hE, hr, hlk, hinj, hfr, hlo⟩ := hk
  intro H locs ls hl hP hS
  exact W.aret (v := fk_q g q) hx hb hr (Or.inl ⟨_, rfl⟩) (Or.inr ⟨_, rfl⟩) (fun t ht hW => ⟨rfl, by rw [ht]; exact hP, hS.F ht⟩) hS.2.2 hdg hlk
/-- what a callee brings: its words -/
def fk_yV (y : MethodName) (b : ByteArray) (n : Nat) (ret : Option FieldType) (a : Nat) : Prop := (Cond.instanceMethod y ∈ fkB ∧ Cond.selects y.cls y y ∈ fkB) ∧ Cond.initialized y.cls ∈ fkB ∧ Cond.code y b n ret ∈ fkB ∧ (y.cls ≠ "java/lang/invoke/MethodHandle" ∧ y.cls ≠ "java/lang/invoke/VarHandle" ∧ (parseMethodDescriptor y.desc).map (fun d => d.parameters.length) = some a)
def fk_yS (y : MethodName) (b : ByteArray) (n : Nat) (ret : Option FieldType) (a : Nat) : Prop := Cond.static y ∈ fkB ∧ Cond.initialized y.cls ∈ fkB ∧ Cond.code y b n ret ∈ fkB ∧ (y.cls ≠ "java/lang/invoke/MethodHandle" ∧ y.cls ≠ "java/lang/invoke/VarHandle" ∧ (parseMethodDescriptor y.desc).map (fun d => d.parameters.length) = some a)
def fk_rcv (w : fkW) (g : fkG) (i : Nat) (C : String) : Prop := i < w.2 ∧ ∀ st : fkS, ∃ (ci : Nat) (fs : List Value) (q : vw_C), w.1 g st i = .inr (ci, fs) ∧ vwCl[ci]? = some q ∧ q.1 = C
def fk_bind {α β γ : Type} (o : Option (α × β)) (f : α → β → Option γ) : Option γ := match o with
  | some (a, b) => f a b
  | none => none
theorem fk_bind_of {α β γ : Type} {o : Option (α × β)} {f : α → β → Option γ} {z : γ} (h : fk_bind o f = some z) : ∃ a b, o = some (a, b) ∧ f a b = some z := by
  cases o with
  | none => exact absurd h (by simp [fk_bind])
  | some x => exact ⟨x.1, x.2, rfl, h⟩
theorem j_callVi {w : fkW} {g : fkG} {k : fkK} {ρ : Type} {en : ρ → Option Value} {own : String} {cc : ByteArray} {nL fr lo pc : Nat} {ret : Option FieldType} {lv : List (Nat × Value)} {stk : List Value} {st : fkS} (hk : fk_ok w g k own cc nL ret fr lo) {ix n a fr1 lo1 i : Nat} {y : MethodName} {b : ByteArray} {ret1 : Option FieldType} {f : Option (Int32 × fkS)} {F1 : Int32 → fkS → Option (ρ × fkS)} (As stk1 : List Value) (hstk : stk = As.reverse ++ fk_r g i :: stk1) (hC : ∀ (l : Launch) (o : Int32 × fkS), f = some o → fk_C w y b n ret1 fr1 lo1 l g (fk_r g i :: As) st (fk_eI o.1) o.2)
    (hrc : fk_rcv w g i y.cls) (hY : fk_yV y b n ret1 a) (hlink : Cond.methodLink own ix y ∈ fkB) (hlen : As.length = a) (hcat : (stk1.map fun v => v.category).sum ≤ 8) (hfr1 : fr1 + 1 ≤ fr) (hlo1 : 8 + (n + 11) + lo1 ≤ lo) (hdg : decode cc pc = .ok (.invokevirtual ix, 3))
    (kk : ∀ (r : Int32) (st1 : fkS), fk_J w g en k (pc + 3) lv (.int r :: stk1) st1 (F1 r st1)) : fk_J w g en k pc lv stk st (fk_bind f F1) := by
  intro o ho hq
  subst hstk
  obtain ⟨r, st1, hf, ho⟩ := fk_bind_of ho
  have kk := kk r st1 o ho hq
  obtain ⟨p, l, e, R, s, m, args, below, meth, c, rv, sf⟩ := k
  obtain ⟨hx, hb, hml, hown, hts, hK, hE, hr, hlk, hinj, hfr, hlo⟩ := hk
  intro H locs ls hl hP hS
  have hM := hC l (r, st1) hf hinj H.size
  obtain ⟨hi, hob⟩ := hrc
  obtain ⟨ci, fs, q, h1, h2, h3⟩ := hob st
  have hrecv : ∃ cellB : Cell, H[g.1 i]? = some cellB ∧ cellB.vm.isStatics = false ∧ s.vm.findClass y.cls = some cellB.cls := by
    rw [← h3]
    exact va_recv hK hP h2 (q0 := i) (by rw [fk_wat hi, h1])
  exact fk_after (va_runV (b := g.1 i) (As := As) (rest := stk1) ⟨hx, hb, hml, hown, hts⟩ hM (⟨callB_of a hts (fkB_good hY.2.2.1) rfl rfl rfl (hts _ hY.2.1) (hts _ hlink) hY.2.2.2 ⟨Nat.le_trans hfr1 hfr, Nat.le_trans hlo1 hlo⟩, hts _ hY.1.1, hts _ hY.1.2⟩) ⟨fk_blind, hrecv, fun U hU hW => fk_pre hK hE hP hS hU hW⟩ rfl hlen (hl.1.trans hml) rfl (lv_room hcat) hdg ⟨Nat.zero_le _, Nat.zero_le _⟩) hS
    (fun q h1 h2 => fk_A_up hS.1 q h2) (fk_A_up hS.1) (fun H1 locs1 hP1 hS1 => kk H1 locs1 ls hl hP1 hS1)
theorem j_callVv {w : fkW} {g : fkG} {k : fkK} {ρ : Type} {en : ρ → Option Value} {own : String} {cc : ByteArray} {nL fr lo pc : Nat} {ret : Option FieldType} {lv : List (Nat × Value)} {stk : List Value} {st : fkS} (hk : fk_ok w g k own cc nL ret fr lo) {ix n a fr1 lo1 i : Nat} {y : MethodName} {b : ByteArray} {ret1 : Option FieldType} {f : Option (Unit × fkS)} {F1 : Unit → fkS → Option (ρ × fkS)} (As stk1 : List Value) (hstk : stk = As.reverse ++ fk_r g i :: stk1) (hC : ∀ (l : Launch) (o : Unit × fkS), f = some o → fk_C w y b n ret1 fr1 lo1 l g (fk_r g i :: As) st (fk_eU o.1) o.2)
    (hrc : fk_rcv w g i y.cls) (hY : fk_yV y b n ret1 a) (hlink : Cond.methodLink own ix y ∈ fkB) (hlen : As.length = a) (hcat : (stk1.map fun v => v.category).sum ≤ 8) (hfr1 : fr1 + 1 ≤ fr) (hlo1 : 8 + (n + 11) + lo1 ≤ lo) (hdg : decode cc pc = .ok (.invokevirtual ix, 3))
    (kk : ∀ (r : Unit) (st1 : fkS), fk_J w g en k (pc + 3) lv (stk1) st1 (F1 r st1)) : fk_J w g en k pc lv stk st (fk_bind f F1) := by
  intro o ho hq
  subst hstk
  obtain ⟨r, st1, hf, ho⟩ := fk_bind_of ho
  have kk := kk r st1 o ho hq
  obtain ⟨p, l, e, R, s, m, args, below, meth, c, rv, sf⟩ := k
  obtain ⟨hx, hb, hml, hown, hts, hK, hE, hr, hlk, hinj, hfr, hlo⟩ := hk
  intro H locs ls hl hP hS
  have hM := hC l (r, st1) hf hinj H.size
  obtain ⟨hi, hob⟩ := hrc
  obtain ⟨ci, fs, q, h1, h2, h3⟩ := hob st
  have hrecv : ∃ cellB : Cell, H[g.1 i]? = some cellB ∧ cellB.vm.isStatics = false ∧ s.vm.findClass y.cls = some cellB.cls := by
    rw [← h3]
    exact va_recv hK hP h2 (q0 := i) (by rw [fk_wat hi, h1])
  exact fk_after (va_runV (b := g.1 i) (As := As) (rest := stk1) ⟨hx, hb, hml, hown, hts⟩ hM (⟨callB_of a hts (fkB_good hY.2.2.1) rfl rfl rfl (hts _ hY.2.1) (hts _ hlink) hY.2.2.2 ⟨Nat.le_trans hfr1 hfr, Nat.le_trans hlo1 hlo⟩, hts _ hY.1.1, hts _ hY.1.2⟩) ⟨fk_blind, hrecv, fun U hU hW => fk_pre hK hE hP hS hU hW⟩ rfl hlen (hl.1.trans hml) rfl (lv_room hcat) hdg ⟨Nat.zero_le _, Nat.zero_le _⟩) hS
    (fun q h1 h2 => fk_A_up hS.1 q h2) (fk_A_up hS.1) (fun H1 locs1 hP1 hS1 => kk H1 locs1 ls hl hP1 hS1)
theorem j_callVl {w : fkW} {g : fkG} {k : fkK} {ρ : Type} {en : ρ → Option Value} {own : String} {cc : ByteArray} {nL fr lo pc : Nat} {ret : Option FieldType} {lv : List (Nat × Value)} {stk : List Value} {st : fkS} (hk : fk_ok w g k own cc nL ret fr lo) {ix n a fr1 lo1 i : Nat} {y : MethodName} {b : ByteArray} {ret1 : Option FieldType} {f : Option (Int64 × fkS)} {F1 : Int64 → fkS → Option (ρ × fkS)} (As stk1 : List Value) (hstk : stk = As.reverse ++ fk_r g i :: stk1) (hC : ∀ (l : Launch) (o : Int64 × fkS), f = some o → fk_C w y b n ret1 fr1 lo1 l g (fk_r g i :: As) st (fk_eL o.1) o.2)
    (hrc : fk_rcv w g i y.cls) (hY : fk_yV y b n ret1 a) (hlink : Cond.methodLink own ix y ∈ fkB) (hlen : As.length = a) (hcat : (stk1.map fun v => v.category).sum ≤ 8) (hfr1 : fr1 + 1 ≤ fr) (hlo1 : 8 + (n + 11) + lo1 ≤ lo) (hdg : decode cc pc = .ok (.invokevirtual ix, 3))
    (kk : ∀ (r : Int64) (st1 : fkS), fk_J w g en k (pc + 3) lv (.long r :: stk1) st1 (F1 r st1)) : fk_J w g en k pc lv stk st (fk_bind f F1) := by
  intro o ho hq
  subst hstk
  obtain ⟨r, st1, hf, ho⟩ := fk_bind_of ho
  have kk := kk r st1 o ho hq
  obtain ⟨p, l, e, R, s, m, args, below, meth, c, rv, sf⟩ := k
  obtain ⟨hx, hb, hml, hown, hts, hK, hE, hr, hlk, hinj, hfr, hlo⟩ := hk
  intro H locs ls hl hP hS
  have hM := hC l (r, st1) hf hinj H.size
  obtain ⟨hi, hob⟩ := hrc
  obtain ⟨ci, fs, q, h1, h2, h3⟩ := hob st
  have hrecv : ∃ cellB : Cell, H[g.1 i]? = some cellB ∧ cellB.vm.isStatics = false ∧ s.vm.findClass y.cls = some cellB.cls := by
    rw [← h3]
    exact va_recv hK hP h2 (q0 := i) (by rw [fk_wat hi, h1])
  exact fk_after (va_runV (b := g.1 i) (As := As) (rest := stk1) ⟨hx, hb, hml, hown, hts⟩ hM (⟨callB_of a hts (fkB_good hY.2.2.1) rfl rfl rfl (hts _ hY.2.1) (hts _ hlink) hY.2.2.2 ⟨Nat.le_trans hfr1 hfr, Nat.le_trans hlo1 hlo⟩, hts _ hY.1.1, hts _ hY.1.2⟩) ⟨fk_blind, hrecv, fun U hU hW => fk_pre hK hE hP hS hU hW⟩ rfl hlen (hl.1.trans hml) rfl (lv_room hcat) hdg ⟨Nat.zero_le _, Nat.zero_le _⟩) hS
    (fun q h1 h2 => fk_A_up hS.1 q h2) (fk_A_up hS.1) (fun H1 locs1 hP1 hS1 => kk H1 locs1 ls hl hP1 hS1)
theorem j_callVq {w : fkW} {g : fkG} {k : fkK} {ρ : Type} {en : ρ → Option Value} {own : String} {cc : ByteArray} {nL fr lo pc : Nat} {ret : Option FieldType} {lv : List (Nat × Value)} {stk : List Value} {st : fkS} (hk : fk_ok w g k own cc nL ret fr lo) {ix n a fr1 lo1 i : Nat} {y : MethodName} {b : ByteArray} {ret1 : Option FieldType} {f : Option (Nat × fkS)} {F1 : Nat → fkS → Option (ρ × fkS)} (As stk1 : List Value) (hstk : stk = As.reverse ++ fk_r g i :: stk1) (hC : ∀ (l : Launch) (o : Nat × fkS), f = some o → fk_C w y b n ret1 fr1 lo1 l g (fk_r g i :: As) st ((fk_eQ g) o.1) o.2)
    (hrc : fk_rcv w g i y.cls) (hY : fk_yV y b n ret1 a) (hlink : Cond.methodLink own ix y ∈ fkB) (hlen : As.length = a) (hcat : (stk1.map fun v => v.category).sum ≤ 8) (hfr1 : fr1 + 1 ≤ fr) (hlo1 : 8 + (n + 11) + lo1 ≤ lo) (hdg : decode cc pc = .ok (.invokevirtual ix, 3))
    (kk : ∀ (r : Nat) (st1 : fkS), fk_J w g en k (pc + 3) lv (fk_q g r :: stk1) st1 (F1 r st1)) : fk_J w g en k pc lv stk st (fk_bind f F1) := by
  intro o ho hq
  subst hstk
  obtain ⟨r, st1, hf, ho⟩ := fk_bind_of ho
  have kk := kk r st1 o ho hq
  obtain ⟨p, l, e, R, s, m, args, below, meth, c, rv, sf⟩ := k
  obtain ⟨hx, hb, hml, hown, hts, hK, hE, hr, hlk, hinj, hfr, hlo⟩ := hk
  intro H locs ls hl hP hS
  have hM := hC l (r, st1) hf hinj H.size
  obtain ⟨hi, hob⟩ := hrc
  obtain ⟨ci, fs, q, h1, h2, h3⟩ := hob st
  have hrecv : ∃ cellB : Cell, H[g.1 i]? = some cellB ∧ cellB.vm.isStatics = false ∧ s.vm.findClass y.cls = some cellB.cls := by
    rw [← h3]
    exact va_recv hK hP h2 (q0 := i) (by rw [fk_wat hi, h1])
  exact fk_after (va_runV (b := g.1 i) (As := As) (rest := stk1) ⟨hx, hb, hml, hown, hts⟩ hM (⟨callB_of a hts (fkB_good hY.2.2.1) rfl rfl rfl (hts _ hY.2.1) (hts _ hlink) hY.2.2.2 ⟨Nat.le_trans hfr1 hfr, Nat.le_trans hlo1 hlo⟩, hts _ hY.1.1, hts _ hY.1.2⟩) ⟨fk_blind, hrecv, fun U hU hW => fk_pre hK hE hP hS hU hW⟩ rfl hlen (hl.1.trans hml) rfl (lv_room hcat) hdg ⟨Nat.zero_le _, Nat.zero_le _⟩) hS
    (fun q h1 h2 => fk_A_up hS.1 q h2) (fk_A_up hS.1) (fun H1 locs1 hP1 hS1 => kk H1 locs1 ls hl hP1 hS1)
theorem j_callVNi {w : fkW} {g : fkG} {k : fkK} {ρ : Type} {en : ρ → Option Value} {own : String} {cc : ByteArray} {nL fr lo pc : Nat} {ret : Option FieldType} {lv : List (Nat × Value)} {stk : List Value} {st : fkS} (hk : fk_ok w g k own cc nL ret fr lo) {ix n a fr1 lo1 i : Nat} {y : MethodName} {b : ByteArray} {ret1 : Option FieldType} {f : Option (Int32 × fkS)} {F1 : Int32 → fkS → Option (ρ × fkS)} (As stk1 : List Value) (hstk : stk = As.reverse ++ fk_r g i :: stk1) (hC : ∀ (l : Launch) (o : Int32 × fkS), f = some o → fk_C w y b n ret1 fr1 lo1 l g (fk_r g i :: As) st (fk_eI o.1) o.2)
    (hrc : fk_rcv w g i y.cls) (hY : fk_yV y b n ret1 a) (hlink : Cond.methodLinkNest own ix y "PieFunnels" ∈ fk_nests) (hlen : As.length = a) (hcat : (stk1.map fun v => v.category).sum ≤ 8) (hfr1 : fr1 + 1 ≤ fr) (hlo1 : 8 + (n + 11) + lo1 ≤ lo) (hdg : decode cc pc = .ok (.invokevirtual ix, 3))
    (kk : ∀ (r : Int32) (st1 : fkS), fk_J w g en k (pc + 3) lv (.int r :: stk1) st1 (F1 r st1)) : fk_J w g en k pc lv stk st (fk_bind f F1) := by
  intro o ho hq
  subst hstk
  obtain ⟨r, st1, hf, ho⟩ := fk_bind_of ho
  have kk := kk r st1 o ho hq
  obtain ⟨p, l, e, R, s, m, args, below, meth, c, rv, sf⟩ := k
  obtain ⟨hx, hb, hml, hown, hts, hK, hE, hr, hlk, hinj, hfr, hlo⟩ := hk
  intro H locs ls hl hP hS
  have hM := hC l (r, st1) hf hinj H.size
  obtain ⟨hi, hob⟩ := hrc
  obtain ⟨ci, fs, q, h1, h2, h3⟩ := hob st
  have hrecv : ∃ cellB : Cell, H[g.1 i]? = some cellB ∧ cellB.vm.isStatics = false ∧ s.vm.findClass y.cls = some cellB.cls := by
    rw [← h3]
    exact va_recv hK hP h2 (q0 := i) (by rw [fk_wat hi, h1])
  exact fk_after (va_runVN (b := g.1 i) (As := As) (rest := stk1) ⟨hx, hb, hml, hown, hts⟩ hM (⟨va_cnB a hts (fkB_good hY.2.2.1) rfl rfl rfl (hE.1 _ hlink) (hts _ hY.2.1) hY.2.2.2 ⟨Nat.le_trans hfr1 hfr, Nat.le_trans hlo1 hlo⟩, hts _ hY.1.1, hts _ hY.1.2⟩) ⟨fk_blind, hrecv, fun U hU hW => fk_pre hK hE hP hS hU hW⟩ rfl hlen (hl.1.trans hml) rfl (lv_room hcat) hdg ⟨Nat.zero_le _, Nat.zero_le _⟩) hS
    (fun q h1 h2 => fk_A_up hS.1 q h2) (fk_A_up hS.1) (fun H1 locs1 hP1 hS1 => kk H1 locs1 ls hl hP1 hS1)
theorem j_callVNv {w : fkW} {g : fkG} {k : fkK} {ρ : Type} {en : ρ → Option Value} {own : String} {cc : ByteArray} {nL fr lo pc : Nat} {ret : Option FieldType} {lv : List (Nat × Value)} {stk : List Value} {st : fkS} (hk : fk_ok w g k own cc nL ret fr lo) {ix n a fr1 lo1 i : Nat} {y : MethodName} {b : ByteArray} {ret1 : Option FieldType} {f : Option (Unit × fkS)} {F1 : Unit → fkS → Option (ρ × fkS)} (As stk1 : List Value) (hstk : stk = As.reverse ++ fk_r g i :: stk1) (hC : ∀ (l : Launch) (o : Unit × fkS), f = some o → fk_C w y b n ret1 fr1 lo1 l g (fk_r g i :: As) st (fk_eU o.1) o.2)
    (hrc : fk_rcv w g i y.cls) (hY : fk_yV y b n ret1 a) (hlink : Cond.methodLinkNest own ix y "PieFunnels" ∈ fk_nests) (hlen : As.length = a) (hcat : (stk1.map fun v => v.category).sum ≤ 8) (hfr1 : fr1 + 1 ≤ fr) (hlo1 : 8 + (n + 11) + lo1 ≤ lo) (hdg : decode cc pc = .ok (.invokevirtual ix, 3))
    (kk : ∀ (r : Unit) (st1 : fkS), fk_J w g en k (pc + 3) lv (stk1) st1 (F1 r st1)) : fk_J w g en k pc lv stk st (fk_bind f F1) := by
  intro o ho hq
  subst hstk
  obtain ⟨r, st1, hf, ho⟩ := fk_bind_of ho
  have kk := kk r st1 o ho hq
  obtain ⟨p, l, e, R, s, m, args, below, meth, c, rv, sf⟩ := k
  obtain ⟨hx, hb, hml, hown, hts, hK, hE, hr, hlk, hinj, hfr, hlo⟩ := hk
  intro H locs ls hl hP hS
  have hM := hC l (r, st1) hf hinj H.size
  obtain ⟨hi, hob⟩ := hrc
  obtain ⟨ci, fs, q, h1, h2, h3⟩ := hob st
  have hrecv : ∃ cellB : Cell, H[g.1 i]? = some cellB ∧ cellB.vm.isStatics = false ∧ s.vm.findClass y.cls = some cellB.cls := by
    rw [← h3]
    exact va_recv hK hP h2 (q0 := i) (by rw [fk_wat hi, h1])
  exact fk_after (va_runVN (b := g.1 i) (As := As) (rest := stk1) ⟨hx, hb, hml, hown, hts⟩ hM (⟨va_cnB a hts (fkB_good hY.2.2.1) rfl rfl rfl (hE.1 _ hlink) (hts _ hY.2.1) hY.2.2.2 ⟨Nat.le_trans hfr1 hfr, Nat.le_trans hlo1 hlo⟩, hts _ hY.1.1, hts _ hY.1.2⟩) ⟨fk_blind, hrecv, fun U hU hW => fk_pre hK hE hP hS hU hW⟩ rfl hlen (hl.1.trans hml) rfl (lv_room hcat) hdg ⟨Nat.zero_le _, Nat.zero_le _⟩) hS
    (fun q h1 h2 => fk_A_up hS.1 q h2) (fk_A_up hS.1) (fun H1 locs1 hP1 hS1 => kk H1 locs1 ls hl hP1 hS1)
theorem j_callVNl {w : fkW} {g : fkG} {k : fkK} {ρ : Type} {en : ρ → Option Value} {own : String} {cc : ByteArray} {nL fr lo pc : Nat} {ret : Option FieldType} {lv : List (Nat × Value)} {stk : List Value} {st : fkS} (hk : fk_ok w g k own cc nL ret fr lo) {ix n a fr1 lo1 i : Nat} {y : MethodName} {b : ByteArray} {ret1 : Option FieldType} {f : Option (Int64 × fkS)} {F1 : Int64 → fkS → Option (ρ × fkS)} (As stk1 : List Value) (hstk : stk = As.reverse ++ fk_r g i :: stk1) (hC : ∀ (l : Launch) (o : Int64 × fkS), f = some o → fk_C w y b n ret1 fr1 lo1 l g (fk_r g i :: As) st (fk_eL o.1) o.2)
    (hrc : fk_rcv w g i y.cls) (hY : fk_yV y b n ret1 a) (hlink : Cond.methodLinkNest own ix y "PieFunnels" ∈ fk_nests) (hlen : As.length = a) (hcat : (stk1.map fun v => v.category).sum ≤ 8) (hfr1 : fr1 + 1 ≤ fr) (hlo1 : 8 + (n + 11) + lo1 ≤ lo) (hdg : decode cc pc = .ok (.invokevirtual ix, 3))
    (kk : ∀ (r : Int64) (st1 : fkS), fk_J w g en k (pc + 3) lv (.long r :: stk1) st1 (F1 r st1)) : fk_J w g en k pc lv stk st (fk_bind f F1) := by
  intro o ho hq
  subst hstk
  obtain ⟨r, st1, hf, ho⟩ := fk_bind_of ho
  have kk := kk r st1 o ho hq
  obtain ⟨p, l, e, R, s, m, args, below, meth, c, rv, sf⟩ := k
  obtain ⟨hx, hb, hml, hown, hts, hK, hE, hr, hlk, hinj, hfr, hlo⟩ := hk
  intro H locs ls hl hP hS
  have hM := hC l (r, st1) hf hinj H.size
  obtain ⟨hi, hob⟩ := hrc
  obtain ⟨ci, fs, q, h1, h2, h3⟩ := hob st
  have hrecv : ∃ cellB : Cell, H[g.1 i]? = some cellB ∧ cellB.vm.isStatics = false ∧ s.vm.findClass y.cls = some cellB.cls := by
    rw [← h3]
    exact va_recv hK hP h2 (q0 := i) (by rw [fk_wat hi, h1])
  exact fk_after (va_runVN (b := g.1 i) (As := As) (rest := stk1) ⟨hx, hb, hml, hown, hts⟩ hM (⟨va_cnB a hts (fkB_good hY.2.2.1) rfl rfl rfl (hE.1 _ hlink) (hts _ hY.2.1) hY.2.2.2 ⟨Nat.le_trans hfr1 hfr, Nat.le_trans hlo1 hlo⟩, hts _ hY.1.1, hts _ hY.1.2⟩) ⟨fk_blind, hrecv, fun U hU hW => fk_pre hK hE hP hS hU hW⟩ rfl hlen (hl.1.trans hml) rfl (lv_room hcat) hdg ⟨Nat.zero_le _, Nat.zero_le _⟩) hS
    (fun q h1 h2 => fk_A_up hS.1 q h2) (fk_A_up hS.1) (fun H1 locs1 hP1 hS1 => kk H1 locs1 ls hl hP1 hS1)
theorem j_callVNq {w : fkW} {g : fkG} {k : fkK} {ρ : Type} {en : ρ → Option Value} {own : String} {cc : ByteArray} {nL fr lo pc : Nat} {ret : Option FieldType} {lv : List (Nat × Value)} {stk : List Value} {st : fkS} (hk : fk_ok w g k own cc nL ret fr lo) {ix n a fr1 lo1 i : Nat} {y : MethodName} {b : ByteArray} {ret1 : Option FieldType} {f : Option (Nat × fkS)} {F1 : Nat → fkS → Option (ρ × fkS)} (As stk1 : List Value) (hstk : stk = As.reverse ++ fk_r g i :: stk1) (hC : ∀ (l : Launch) (o : Nat × fkS), f = some o → fk_C w y b n ret1 fr1 lo1 l g (fk_r g i :: As) st ((fk_eQ g) o.1) o.2)
    (hrc : fk_rcv w g i y.cls) (hY : fk_yV y b n ret1 a) (hlink : Cond.methodLinkNest own ix y "PieFunnels" ∈ fk_nests) (hlen : As.length = a) (hcat : (stk1.map fun v => v.category).sum ≤ 8) (hfr1 : fr1 + 1 ≤ fr) (hlo1 : 8 + (n + 11) + lo1 ≤ lo) (hdg : decode cc pc = .ok (.invokevirtual ix, 3))
    (kk : ∀ (r : Nat) (st1 : fkS), fk_J w g en k (pc + 3) lv (fk_q g r :: stk1) st1 (F1 r st1)) : fk_J w g en k pc lv stk st (fk_bind f F1) := by
  intro o ho hq
  subst hstk
  obtain ⟨r, st1, hf, ho⟩ := fk_bind_of ho
  have kk := kk r st1 o ho hq
  obtain ⟨p, l, e, R, s, m, args, below, meth, c, rv, sf⟩ := k
  obtain ⟨hx, hb, hml, hown, hts, hK, hE, hr, hlk, hinj, hfr, hlo⟩ := hk
  intro H locs ls hl hP hS
  have hM := hC l (r, st1) hf hinj H.size
  obtain ⟨hi, hob⟩ := hrc
  obtain ⟨ci, fs, q, h1, h2, h3⟩ := hob st
  have hrecv : ∃ cellB : Cell, H[g.1 i]? = some cellB ∧ cellB.vm.isStatics = false ∧ s.vm.findClass y.cls = some cellB.cls := by
    rw [← h3]
    exact va_recv hK hP h2 (q0 := i) (by rw [fk_wat hi, h1])
  exact fk_after (va_runVN (b := g.1 i) (As := As) (rest := stk1) ⟨hx, hb, hml, hown, hts⟩ hM (⟨va_cnB a hts (fkB_good hY.2.2.1) rfl rfl rfl (hE.1 _ hlink) (hts _ hY.2.1) hY.2.2.2 ⟨Nat.le_trans hfr1 hfr, Nat.le_trans hlo1 hlo⟩, hts _ hY.1.1, hts _ hY.1.2⟩) ⟨fk_blind, hrecv, fun U hU hW => fk_pre hK hE hP hS hU hW⟩ rfl hlen (hl.1.trans hml) rfl (lv_room hcat) hdg ⟨Nat.zero_le _, Nat.zero_le _⟩) hS
    (fun q h1 h2 => fk_A_up hS.1 q h2) (fk_A_up hS.1) (fun H1 locs1 hP1 hS1 => kk H1 locs1 ls hl hP1 hS1)
theorem j_callSi {w : fkW} {g : fkG} {k : fkK} {ρ : Type} {en : ρ → Option Value} {own : String} {cc : ByteArray} {nL fr lo pc : Nat} {ret : Option FieldType} {lv : List (Nat × Value)} {stk : List Value} {st : fkS} (hk : fk_ok w g k own cc nL ret fr lo) {ix n a fr1 lo1 : Nat} {y : MethodName} {b : ByteArray} {ret1 : Option FieldType} {f : Option (Int32 × fkS)} {F1 : Int32 → fkS → Option (ρ × fkS)} (As stk1 : List Value) (hstk : stk = As.reverse ++ stk1) (hC : ∀ (l : Launch) (o : Int32 × fkS), f = some o → fk_C w y b n ret1 fr1 lo1 l g As st (fk_eI o.1) o.2)
    (hY : fk_yS y b n ret1 a) (hlink : Cond.methodLink own ix y ∈ fkB) (hlen : As.length = a) (hcat : (stk1.map fun v => v.category).sum ≤ 8) (hfr1 : fr1 + 1 ≤ fr) (hlo1 : 8 + (n + 11) + lo1 ≤ lo) (hdg : decode cc pc = .ok (.invokestatic ix, 3))
    (kk : ∀ (r : Int32) (st1 : fkS), fk_J w g en k (pc + 3) lv (.int r :: stk1) st1 (F1 r st1)) : fk_J w g en k pc lv stk st (fk_bind f F1) := by
  intro o ho hq
  subst hstk
  obtain ⟨r, st1, hf, ho⟩ := fk_bind_of ho
  have kk := kk r st1 o ho hq
  obtain ⟨p, l, e, R, s, m, args, below, meth, c, rv, sf⟩ := k
  obtain ⟨hx, hb, hml, hown, hts, hK, hE, hr, hlk, hinj, hfr, hlo⟩ := hk
  intro H locs ls hl hP hS
  have hM := hC l (r, st1) hf hinj H.size
  exact fk_after (va_runS (As := As) (rest := stk1) ⟨hx, hb, hml, hown, hts⟩ hM (⟨callB_of a hts (fkB_good hY.2.2.1) rfl rfl rfl (hts _ hY.2.1) (hts _ hlink) hY.2.2.2 ⟨Nat.le_trans hfr1 hfr, Nat.le_trans hlo1 hlo⟩, hts _ hY.1⟩) ⟨fk_blind, fun U hU hW => fk_pre hK hE hP hS hU hW⟩ rfl hlen (hl.1.trans hml) rfl (lv_room hcat) hdg ⟨Nat.zero_le _, Nat.zero_le _⟩) hS
    (fun q h1 h2 => fk_A_up hS.1 q h2) (fk_A_up hS.1) (fun H1 locs1 hP1 hS1 => kk H1 locs1 ls hl hP1 hS1)
theorem j_callSv {w : fkW} {g : fkG} {k : fkK} {ρ : Type} {en : ρ → Option Value} {own : String} {cc : ByteArray} {nL fr lo pc : Nat} {ret : Option FieldType} {lv : List (Nat × Value)} {stk : List Value} {st : fkS} (hk : fk_ok w g k own cc nL ret fr lo) {ix n a fr1 lo1 : Nat} {y : MethodName} {b : ByteArray} {ret1 : Option FieldType} {f : Option (Unit × fkS)} {F1 : Unit → fkS → Option (ρ × fkS)} (As stk1 : List Value) (hstk : stk = As.reverse ++ stk1) (hC : ∀ (l : Launch) (o : Unit × fkS), f = some o → fk_C w y b n ret1 fr1 lo1 l g As st (fk_eU o.1) o.2)
    (hY : fk_yS y b n ret1 a) (hlink : Cond.methodLink own ix y ∈ fkB) (hlen : As.length = a) (hcat : (stk1.map fun v => v.category).sum ≤ 8) (hfr1 : fr1 + 1 ≤ fr) (hlo1 : 8 + (n + 11) + lo1 ≤ lo) (hdg : decode cc pc = .ok (.invokestatic ix, 3))
    (kk : ∀ (r : Unit) (st1 : fkS), fk_J w g en k (pc + 3) lv (stk1) st1 (F1 r st1)) : fk_J w g en k pc lv stk st (fk_bind f F1) := by
  intro o ho hq
  subst hstk
  obtain ⟨r, st1, hf, ho⟩ := fk_bind_of ho
  have kk := kk r st1 o ho hq
  obtain ⟨p, l, e, R, s, m, args, below, meth, c, rv, sf⟩ := k
  obtain ⟨hx, hb, hml, hown, hts, hK, hE, hr, hlk, hinj, hfr, hlo⟩ := hk
  intro H locs ls hl hP hS
  have hM := hC l (r, st1) hf hinj H.size
  exact fk_after (va_runS (As := As) (rest := stk1) ⟨hx, hb, hml, hown, hts⟩ hM (⟨callB_of a hts (fkB_good hY.2.2.1) rfl rfl rfl (hts _ hY.2.1) (hts _ hlink) hY.2.2.2 ⟨Nat.le_trans hfr1 hfr, Nat.le_trans hlo1 hlo⟩, hts _ hY.1⟩) ⟨fk_blind, fun U hU hW => fk_pre hK hE hP hS hU hW⟩ rfl hlen (hl.1.trans hml) rfl (lv_room hcat) hdg ⟨Nat.zero_le _, Nat.zero_le _⟩) hS
    (fun q h1 h2 => fk_A_up hS.1 q h2) (fk_A_up hS.1) (fun H1 locs1 hP1 hS1 => kk H1 locs1 ls hl hP1 hS1)
theorem j_callSl {w : fkW} {g : fkG} {k : fkK} {ρ : Type} {en : ρ → Option Value} {own : String} {cc : ByteArray} {nL fr lo pc : Nat} {ret : Option FieldType} {lv : List (Nat × Value)} {stk : List Value} {st : fkS} (hk : fk_ok w g k own cc nL ret fr lo) {ix n a fr1 lo1 : Nat} {y : MethodName} {b : ByteArray} {ret1 : Option FieldType} {f : Option (Int64 × fkS)} {F1 : Int64 → fkS → Option (ρ × fkS)} (As stk1 : List Value) (hstk : stk = As.reverse ++ stk1) (hC : ∀ (l : Launch) (o : Int64 × fkS), f = some o → fk_C w y b n ret1 fr1 lo1 l g As st (fk_eL o.1) o.2)
    (hY : fk_yS y b n ret1 a) (hlink : Cond.methodLink own ix y ∈ fkB) (hlen : As.length = a) (hcat : (stk1.map fun v => v.category).sum ≤ 8) (hfr1 : fr1 + 1 ≤ fr) (hlo1 : 8 + (n + 11) + lo1 ≤ lo) (hdg : decode cc pc = .ok (.invokestatic ix, 3))
    (kk : ∀ (r : Int64) (st1 : fkS), fk_J w g en k (pc + 3) lv (.long r :: stk1) st1 (F1 r st1)) : fk_J w g en k pc lv stk st (fk_bind f F1) := by
  intro o ho hq
  subst hstk
  obtain ⟨r, st1, hf, ho⟩ := fk_bind_of ho
  have kk := kk r st1 o ho hq
  obtain ⟨p, l, e, R, s, m, args, below, meth, c, rv, sf⟩ := k
  obtain ⟨hx, hb, hml, hown, hts, hK, hE, hr, hlk, hinj, hfr, hlo⟩ := hk
  intro H locs ls hl hP hS
  have hM := hC l (r, st1) hf hinj H.size
  exact fk_after (va_runS (As := As) (rest := stk1) ⟨hx, hb, hml, hown, hts⟩ hM (⟨callB_of a hts (fkB_good hY.2.2.1) rfl rfl rfl (hts _ hY.2.1) (hts _ hlink) hY.2.2.2 ⟨Nat.le_trans hfr1 hfr, Nat.le_trans hlo1 hlo⟩, hts _ hY.1⟩) ⟨fk_blind, fun U hU hW => fk_pre hK hE hP hS hU hW⟩ rfl hlen (hl.1.trans hml) rfl (lv_room hcat) hdg ⟨Nat.zero_le _, Nat.zero_le _⟩) hS
    (fun q h1 h2 => fk_A_up hS.1 q h2) (fk_A_up hS.1) (fun H1 locs1 hP1 hS1 => kk H1 locs1 ls hl hP1 hS1)
theorem j_callSq {w : fkW} {g : fkG} {k : fkK} {ρ : Type} {en : ρ → Option Value} {own : String} {cc : ByteArray} {nL fr lo pc : Nat} {ret : Option FieldType} {lv : List (Nat × Value)} {stk : List Value} {st : fkS} (hk : fk_ok w g k own cc nL ret fr lo) {ix n a fr1 lo1 : Nat} {y : MethodName} {b : ByteArray} {ret1 : Option FieldType} {f : Option (Nat × fkS)} {F1 : Nat → fkS → Option (ρ × fkS)} (As stk1 : List Value) (hstk : stk = As.reverse ++ stk1) (hC : ∀ (l : Launch) (o : Nat × fkS), f = some o → fk_C w y b n ret1 fr1 lo1 l g As st ((fk_eQ g) o.1) o.2)
    (hY : fk_yS y b n ret1 a) (hlink : Cond.methodLink own ix y ∈ fkB) (hlen : As.length = a) (hcat : (stk1.map fun v => v.category).sum ≤ 8) (hfr1 : fr1 + 1 ≤ fr) (hlo1 : 8 + (n + 11) + lo1 ≤ lo) (hdg : decode cc pc = .ok (.invokestatic ix, 3))
    (kk : ∀ (r : Nat) (st1 : fkS), fk_J w g en k (pc + 3) lv (fk_q g r :: stk1) st1 (F1 r st1)) : fk_J w g en k pc lv stk st (fk_bind f F1) := by
  intro o ho hq
  subst hstk
  obtain ⟨r, st1, hf, ho⟩ := fk_bind_of ho
  have kk := kk r st1 o ho hq
  obtain ⟨p, l, e, R, s, m, args, below, meth, c, rv, sf⟩ := k
  obtain ⟨hx, hb, hml, hown, hts, hK, hE, hr, hlk, hinj, hfr, hlo⟩ := hk
  intro H locs ls hl hP hS
  have hM := hC l (r, st1) hf hinj H.size
  exact fk_after (va_runS (As := As) (rest := stk1) ⟨hx, hb, hml, hown, hts⟩ hM (⟨callB_of a hts (fkB_good hY.2.2.1) rfl rfl rfl (hts _ hY.2.1) (hts _ hlink) hY.2.2.2 ⟨Nat.le_trans hfr1 hfr, Nat.le_trans hlo1 hlo⟩, hts _ hY.1⟩) ⟨fk_blind, fun U hU hW => fk_pre hK hE hP hS hU hW⟩ rfl hlen (hl.1.trans hml) rfl (lv_room hcat) hdg ⟨Nat.zero_le _, Nat.zero_le _⟩) hS
    (fun q h1 h2 => fk_A_up hS.1 q h2) (fk_A_up hS.1) (fun H1 locs1 hP1 hS1 => kk H1 locs1 ls hl hP1 hS1)
theorem j_callSNi {w : fkW} {g : fkG} {k : fkK} {ρ : Type} {en : ρ → Option Value} {own : String} {cc : ByteArray} {nL fr lo pc : Nat} {ret : Option FieldType} {lv : List (Nat × Value)} {stk : List Value} {st : fkS} (hk : fk_ok w g k own cc nL ret fr lo) {ix n a fr1 lo1 : Nat} {y : MethodName} {b : ByteArray} {ret1 : Option FieldType} {f : Option (Int32 × fkS)} {F1 : Int32 → fkS → Option (ρ × fkS)} (As stk1 : List Value) (hstk : stk = As.reverse ++ stk1) (hC : ∀ (l : Launch) (o : Int32 × fkS), f = some o → fk_C w y b n ret1 fr1 lo1 l g As st (fk_eI o.1) o.2)
    (hY : fk_yS y b n ret1 a) (hlink : Cond.methodLinkNest own ix y "PieFunnels" ∈ fk_nests) (hlen : As.length = a) (hcat : (stk1.map fun v => v.category).sum ≤ 8) (hfr1 : fr1 + 1 ≤ fr) (hlo1 : 8 + (n + 11) + lo1 ≤ lo) (hdg : decode cc pc = .ok (.invokestatic ix, 3))
    (kk : ∀ (r : Int32) (st1 : fkS), fk_J w g en k (pc + 3) lv (.int r :: stk1) st1 (F1 r st1)) : fk_J w g en k pc lv stk st (fk_bind f F1) := by
  intro o ho hq
  subst hstk
  obtain ⟨r, st1, hf, ho⟩ := fk_bind_of ho
  have kk := kk r st1 o ho hq
  obtain ⟨p, l, e, R, s, m, args, below, meth, c, rv, sf⟩ := k
  obtain ⟨hx, hb, hml, hown, hts, hK, hE, hr, hlk, hinj, hfr, hlo⟩ := hk
  intro H locs ls hl hP hS
  have hM := hC l (r, st1) hf hinj H.size
  exact fk_after (va_runSN (As := As) (rest := stk1) ⟨hx, hb, hml, hown, hts⟩ hM (⟨va_cnB a hts (fkB_good hY.2.2.1) rfl rfl rfl (hE.1 _ hlink) (hts _ hY.2.1) hY.2.2.2 ⟨Nat.le_trans hfr1 hfr, Nat.le_trans hlo1 hlo⟩, hts _ hY.1, trivial⟩) ⟨fk_blind, fun U hU hW => fk_pre hK hE hP hS hU hW⟩ rfl hlen (hl.1.trans hml) rfl (lv_room hcat) hdg ⟨Nat.zero_le _, Nat.zero_le _⟩) hS
    (fun q h1 h2 => fk_A_up hS.1 q h2) (fk_A_up hS.1) (fun H1 locs1 hP1 hS1 => kk H1 locs1 ls hl hP1 hS1)
theorem j_callSNv {w : fkW} {g : fkG} {k : fkK} {ρ : Type} {en : ρ → Option Value} {own : String} {cc : ByteArray} {nL fr lo pc : Nat} {ret : Option FieldType} {lv : List (Nat × Value)} {stk : List Value} {st : fkS} (hk : fk_ok w g k own cc nL ret fr lo) {ix n a fr1 lo1 : Nat} {y : MethodName} {b : ByteArray} {ret1 : Option FieldType} {f : Option (Unit × fkS)} {F1 : Unit → fkS → Option (ρ × fkS)} (As stk1 : List Value) (hstk : stk = As.reverse ++ stk1) (hC : ∀ (l : Launch) (o : Unit × fkS), f = some o → fk_C w y b n ret1 fr1 lo1 l g As st (fk_eU o.1) o.2)
    (hY : fk_yS y b n ret1 a) (hlink : Cond.methodLinkNest own ix y "PieFunnels" ∈ fk_nests) (hlen : As.length = a) (hcat : (stk1.map fun v => v.category).sum ≤ 8) (hfr1 : fr1 + 1 ≤ fr) (hlo1 : 8 + (n + 11) + lo1 ≤ lo) (hdg : decode cc pc = .ok (.invokestatic ix, 3))
    (kk : ∀ (r : Unit) (st1 : fkS), fk_J w g en k (pc + 3) lv (stk1) st1 (F1 r st1)) : fk_J w g en k pc lv stk st (fk_bind f F1) := by
  intro o ho hq
  subst hstk
  obtain ⟨r, st1, hf, ho⟩ := fk_bind_of ho
  have kk := kk r st1 o ho hq
  obtain ⟨p, l, e, R, s, m, args, below, meth, c, rv, sf⟩ := k
  obtain ⟨hx, hb, hml, hown, hts, hK, hE, hr, hlk, hinj, hfr, hlo⟩ := hk
  intro H locs ls hl hP hS
  have hM := hC l (r, st1) hf hinj H.size
  exact fk_after (va_runSN (As := As) (rest := stk1) ⟨hx, hb, hml, hown, hts⟩ hM (⟨va_cnB a hts (fkB_good hY.2.2.1) rfl rfl rfl (hE.1 _ hlink) (hts _ hY.2.1) hY.2.2.2 ⟨Nat.le_trans hfr1 hfr, Nat.le_trans hlo1 hlo⟩, hts _ hY.1, trivial⟩) ⟨fk_blind, fun U hU hW => fk_pre hK hE hP hS hU hW⟩ rfl hlen (hl.1.trans hml) rfl (lv_room hcat) hdg ⟨Nat.zero_le _, Nat.zero_le _⟩) hS
    (fun q h1 h2 => fk_A_up hS.1 q h2) (fk_A_up hS.1) (fun H1 locs1 hP1 hS1 => kk H1 locs1 ls hl hP1 hS1)
theorem j_callSNl {w : fkW} {g : fkG} {k : fkK} {ρ : Type} {en : ρ → Option Value} {own : String} {cc : ByteArray} {nL fr lo pc : Nat} {ret : Option FieldType} {lv : List (Nat × Value)} {stk : List Value} {st : fkS} (hk : fk_ok w g k own cc nL ret fr lo) {ix n a fr1 lo1 : Nat} {y : MethodName} {b : ByteArray} {ret1 : Option FieldType} {f : Option (Int64 × fkS)} {F1 : Int64 → fkS → Option (ρ × fkS)} (As stk1 : List Value) (hstk : stk = As.reverse ++ stk1) (hC : ∀ (l : Launch) (o : Int64 × fkS), f = some o → fk_C w y b n ret1 fr1 lo1 l g As st (fk_eL o.1) o.2)
    (hY : fk_yS y b n ret1 a) (hlink : Cond.methodLinkNest own ix y "PieFunnels" ∈ fk_nests) (hlen : As.length = a) (hcat : (stk1.map fun v => v.category).sum ≤ 8) (hfr1 : fr1 + 1 ≤ fr) (hlo1 : 8 + (n + 11) + lo1 ≤ lo) (hdg : decode cc pc = .ok (.invokestatic ix, 3))
    (kk : ∀ (r : Int64) (st1 : fkS), fk_J w g en k (pc + 3) lv (.long r :: stk1) st1 (F1 r st1)) : fk_J w g en k pc lv stk st (fk_bind f F1) := by
  intro o ho hq
  subst hstk
  obtain ⟨r, st1, hf, ho⟩ := fk_bind_of ho
  have kk := kk r st1 o ho hq
  obtain ⟨p, l, e, R, s, m, args, below, meth, c, rv, sf⟩ := k
  obtain ⟨hx, hb, hml, hown, hts, hK, hE, hr, hlk, hinj, hfr, hlo⟩ := hk
  intro H locs ls hl hP hS
  have hM := hC l (r, st1) hf hinj H.size
  exact fk_after (va_runSN (As := As) (rest := stk1) ⟨hx, hb, hml, hown, hts⟩ hM (⟨va_cnB a hts (fkB_good hY.2.2.1) rfl rfl rfl (hE.1 _ hlink) (hts _ hY.2.1) hY.2.2.2 ⟨Nat.le_trans hfr1 hfr, Nat.le_trans hlo1 hlo⟩, hts _ hY.1, trivial⟩) ⟨fk_blind, fun U hU hW => fk_pre hK hE hP hS hU hW⟩ rfl hlen (hl.1.trans hml) rfl (lv_room hcat) hdg ⟨Nat.zero_le _, Nat.zero_le _⟩) hS
    (fun q h1 h2 => fk_A_up hS.1 q h2) (fk_A_up hS.1) (fun H1 locs1 hP1 hS1 => kk H1 locs1 ls hl hP1 hS1)
theorem j_callSNq {w : fkW} {g : fkG} {k : fkK} {ρ : Type} {en : ρ → Option Value} {own : String} {cc : ByteArray} {nL fr lo pc : Nat} {ret : Option FieldType} {lv : List (Nat × Value)} {stk : List Value} {st : fkS} (hk : fk_ok w g k own cc nL ret fr lo) {ix n a fr1 lo1 : Nat} {y : MethodName} {b : ByteArray} {ret1 : Option FieldType} {f : Option (Nat × fkS)} {F1 : Nat → fkS → Option (ρ × fkS)} (As stk1 : List Value) (hstk : stk = As.reverse ++ stk1) (hC : ∀ (l : Launch) (o : Nat × fkS), f = some o → fk_C w y b n ret1 fr1 lo1 l g As st ((fk_eQ g) o.1) o.2)
    (hY : fk_yS y b n ret1 a) (hlink : Cond.methodLinkNest own ix y "PieFunnels" ∈ fk_nests) (hlen : As.length = a) (hcat : (stk1.map fun v => v.category).sum ≤ 8) (hfr1 : fr1 + 1 ≤ fr) (hlo1 : 8 + (n + 11) + lo1 ≤ lo) (hdg : decode cc pc = .ok (.invokestatic ix, 3))
    (kk : ∀ (r : Nat) (st1 : fkS), fk_J w g en k (pc + 3) lv (fk_q g r :: stk1) st1 (F1 r st1)) : fk_J w g en k pc lv stk st (fk_bind f F1) := by
  intro o ho hq
  subst hstk
  obtain ⟨r, st1, hf, ho⟩ := fk_bind_of ho
  have kk := kk r st1 o ho hq
  obtain ⟨p, l, e, R, s, m, args, below, meth, c, rv, sf⟩ := k
  obtain ⟨hx, hb, hml, hown, hts, hK, hE, hr, hlk, hinj, hfr, hlo⟩ := hk
  intro H locs ls hl hP hS
  have hM := hC l (r, st1) hf hinj H.size
  exact fk_after (va_runSN (As := As) (rest := stk1) ⟨hx, hb, hml, hown, hts⟩ hM (⟨va_cnB a hts (fkB_good hY.2.2.1) rfl rfl rfl (hE.1 _ hlink) (hts _ hY.2.1) hY.2.2.2 ⟨Nat.le_trans hfr1 hfr, Nat.le_trans hlo1 hlo⟩, hts _ hY.1, trivial⟩) ⟨fk_blind, fun U hU hW => fk_pre hK hE hP hS hU hW⟩ rfl hlen (hl.1.trans hml) rfl (lv_room hcat) hdg ⟨Nat.zero_le _, Nat.zero_le _⟩) hS
    (fun q h1 h2 => fk_A_up hS.1 q h2) (fk_A_up hS.1) (fun H1 locs1 hP1 hS1 => kk H1 locs1 ls hl hP1 hS1)
