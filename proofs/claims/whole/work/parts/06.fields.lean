theorem wf_0_9 : Cond.fieldLink RX0 9 "PieFunnels$Bakery" "birds" "I" ∈ fkB := fkB_in (List.mem_of_getElem? (i := 137) (by decide +kernel)) rfl
theorem f_0_9 {g : fkG} {k : fkK} {ρ : Type} {en : ρ → Option Value} {cc : ByteArray} {nL fr lo pc : Nat} {ret : Option FieldType} {lv : List (Nat × Value)} {stk : List Value} {st : fkS} (hk : fk_ok wC g k RX0 cc nL ret fr lo) {i : Nat} {F1 : Int32 → Option (ρ × fkS)} (hi : kdC i = 0) (hdg : decode cc pc = .ok (.getfield 9, 3))
    (kk : ∀ x, fk_J wC g en k (pc + 3) lv (.int x :: stk) st (F1 x)) : fk_J wC g en k pc lv (fk_r g i :: stk) st (fk_let (gI st 0 i) F1) := by
  intro o ho hq
  have kk := kk (gI st 0 i) o ho hq
  obtain ⟨p, l, e, R, s, m, args, below, meth, c, rv, sf⟩ := k
  obtain ⟨hx, hb, hml, hown, hts, hK, hE, hr, hlk, hinj, hfr, hlo⟩ := hk
  intro H locs ls hl hP hS
  exact va_get (D := g.2.1) (ci := 0) (C := RX0) (T := TX0) (N := 11) (v := .int (gI st 0 i)) hx hb hts wB_0 hown hK hP i (wat_0 hi) rfl 0 (by decide) (hts _ wf_0_9) (fun _ h => h) rfl hdg (kk H locs ls hl hP hS)
theorem p_0_9 {g : fkG} {k : fkK} {ρ : Type} {en : ρ → Option Value} {cc : ByteArray} {nL fr lo pc : Nat} {ret : Option FieldType} {lv : List (Nat × Value)} {stk : List Value} {st : fkS} (hk : fk_ok wC g k RX0 cc nL ret fr lo) {i : Nat} {v : Int32} {F1 : fkS → Option (ρ × fkS)} (hi : kdC i = 0) (hdg : decode cc pc = .ok (.putfield 9, 3))
    (kk : ∀ st1, fk_J wC g en k (pc + 3) lv stk st1 (F1 st1)) : fk_J wC g en k pc lv (.int v :: fk_r g i :: stk) st (fk_let (sI st 0 i v) F1) := by
  intro o ho hq
  have kk := kk (sI st 0 i v) o ho hq
  obtain ⟨p, l, e, R, s, m, args, below, meth, c, rv, sf⟩ := k
  obtain ⟨hx, hb, hml, hown, hts, hK, hE, hr, hlk, hinj, hfr, hlo⟩ := hk
  intro H locs ls hl hP hS
  refine va_put (D := g.2.1) (ci := 0) (C := RX0) (T := TX0) (N := 11) (v := .int v) (ty := .int) hx hb hts wB_0 tyX0 tyX0_ok nmX0 hown hK hP (fk_wD hinj _ _) hS i (wat_0 hi) rfl 0 (by decide) (hts _ wf_0_9) (fun _ h => h) rfl (by decide +kernel) rfl rfl (Nat.le_of_ble_eq_true rfl) hdg (fun H1 locs1 hP1 hD1 hS1 => kk H1 locs1 ls hl ?_ hS1)
  rw [← wst_0_0 hi]
  exact hP1
theorem wf_4_64 : Cond.fieldLinkNest RX4 64 "PieFunnels$Bakery" "birds" "I" "PieFunnels" ∈ fk_nests := List.mem_of_getElem? (i := 0) (by decide +kernel)
theorem f_4_64 {g : fkG} {k : fkK} {ρ : Type} {en : ρ → Option Value} {cc : ByteArray} {nL fr lo pc : Nat} {ret : Option FieldType} {lv : List (Nat × Value)} {stk : List Value} {st : fkS} (hk : fk_ok wC g k RX4 cc nL ret fr lo) {i : Nat} {F1 : Int32 → Option (ρ × fkS)} (hi : kdC i = 0) (hdg : decode cc pc = .ok (.getfield 64, 3))
    (kk : ∀ x, fk_J wC g en k (pc + 3) lv (.int x :: stk) st (F1 x)) : fk_J wC g en k pc lv (fk_r g i :: stk) st (fk_let (gI st 0 i) F1) := by
  intro o ho hq
  have kk := kk (gI st 0 i) o ho hq
  obtain ⟨p, l, e, R, s, m, args, below, meth, c, rv, sf⟩ := k
  obtain ⟨hx, hb, hml, hown, hts, hK, hE, hr, hlk, hinj, hfr, hlo⟩ := hk
  intro H locs ls hl hP hS
  exact va_getN (D := g.2.1) (ci := 0) (C := RX0) (T := TX0) (N := 11) (v := .int (gI st 0 i)) hx hb hts wB_0 hown hK hP i (wat_0 hi) rfl 0 (by decide) (va_Nw.use rfl (hE.1 _ wf_4_64)) (fun _ h => h) rfl hdg (kk H locs ls hl hP hS)
theorem p_4_64 {g : fkG} {k : fkK} {ρ : Type} {en : ρ → Option Value} {cc : ByteArray} {nL fr lo pc : Nat} {ret : Option FieldType} {lv : List (Nat × Value)} {stk : List Value} {st : fkS} (hk : fk_ok wC g k RX4 cc nL ret fr lo) {i : Nat} {v : Int32} {F1 : fkS → Option (ρ × fkS)} (hi : kdC i = 0) (hdg : decode cc pc = .ok (.putfield 64, 3))
    (kk : ∀ st1, fk_J wC g en k (pc + 3) lv stk st1 (F1 st1)) : fk_J wC g en k pc lv (.int v :: fk_r g i :: stk) st (fk_let (sI st 0 i v) F1) := by
  intro o ho hq
  have kk := kk (sI st 0 i v) o ho hq
  obtain ⟨p, l, e, R, s, m, args, below, meth, c, rv, sf⟩ := k
  obtain ⟨hx, hb, hml, hown, hts, hK, hE, hr, hlk, hinj, hfr, hlo⟩ := hk
  intro H locs ls hl hP hS
  refine va_putN (D := g.2.1) (ci := 0) (C := RX0) (T := TX0) (N := 11) (v := .int v) (ty := .int) hx hb hts wB_0 tyX0 tyX0_ok nmX0 hown hK hP (fk_wD hinj _ _) hS i (wat_0 hi) rfl 0 (by decide) (va_Nw.use rfl (hE.1 _ wf_4_64)) (fun _ h => h) rfl (by decide +kernel) rfl rfl (Nat.le_of_ble_eq_true rfl) hdg (fun H1 locs1 hP1 hD1 hS1 => kk H1 locs1 ls hl ?_ hS1)
  rw [← wst_0_0 hi]
  exact hP1
theorem wf_7_171 : Cond.fieldLinkNest RX7 171 "PieFunnels$Bakery" "birds" "I" "PieFunnels" ∈ fk_nests := List.mem_of_getElem? (i := 1) (by decide +kernel)
theorem f_7_171 {g : fkG} {k : fkK} {ρ : Type} {en : ρ → Option Value} {cc : ByteArray} {nL fr lo pc : Nat} {ret : Option FieldType} {lv : List (Nat × Value)} {stk : List Value} {st : fkS} (hk : fk_ok wC g k RX7 cc nL ret fr lo) {i : Nat} {F1 : Int32 → Option (ρ × fkS)} (hi : kdC i = 0) (hdg : decode cc pc = .ok (.getfield 171, 3))
    (kk : ∀ x, fk_J wC g en k (pc + 3) lv (.int x :: stk) st (F1 x)) : fk_J wC g en k pc lv (fk_r g i :: stk) st (fk_let (gI st 0 i) F1) := by
  intro o ho hq
  have kk := kk (gI st 0 i) o ho hq
  obtain ⟨p, l, e, R, s, m, args, below, meth, c, rv, sf⟩ := k
  obtain ⟨hx, hb, hml, hown, hts, hK, hE, hr, hlk, hinj, hfr, hlo⟩ := hk
  intro H locs ls hl hP hS
  exact va_getN (D := g.2.1) (ci := 0) (C := RX0) (T := TX0) (N := 11) (v := .int (gI st 0 i)) hx hb hts wB_0 hown hK hP i (wat_0 hi) rfl 0 (by decide) (va_Nw.use rfl (hE.1 _ wf_7_171)) (fun _ h => h) rfl hdg (kk H locs ls hl hP hS)
theorem p_7_171 {g : fkG} {k : fkK} {ρ : Type} {en : ρ → Option Value} {cc : ByteArray} {nL fr lo pc : Nat} {ret : Option FieldType} {lv : List (Nat × Value)} {stk : List Value} {st : fkS} (hk : fk_ok wC g k RX7 cc nL ret fr lo) {i : Nat} {v : Int32} {F1 : fkS → Option (ρ × fkS)} (hi : kdC i = 0) (hdg : decode cc pc = .ok (.putfield 171, 3))
    (kk : ∀ st1, fk_J wC g en k (pc + 3) lv stk st1 (F1 st1)) : fk_J wC g en k pc lv (.int v :: fk_r g i :: stk) st (fk_let (sI st 0 i v) F1) := by
  intro o ho hq
  have kk := kk (sI st 0 i v) o ho hq
  obtain ⟨p, l, e, R, s, m, args, below, meth, c, rv, sf⟩ := k
  obtain ⟨hx, hb, hml, hown, hts, hK, hE, hr, hlk, hinj, hfr, hlo⟩ := hk
  intro H locs ls hl hP hS
  refine va_putN (D := g.2.1) (ci := 0) (C := RX0) (T := TX0) (N := 11) (v := .int v) (ty := .int) hx hb hts wB_0 tyX0 tyX0_ok nmX0 hown hK hP (fk_wD hinj _ _) hS i (wat_0 hi) rfl 0 (by decide) (va_Nw.use rfl (hE.1 _ wf_7_171)) (fun _ h => h) rfl (by decide +kernel) rfl rfl (Nat.le_of_ble_eq_true rfl) hdg (fun H1 locs1 hP1 hD1 hS1 => kk H1 locs1 ls hl ?_ hS1)
  rw [← wst_0_0 hi]
  exact hP1
theorem wf_0_15 : Cond.fieldLink RX0 15 "PieFunnels$Bakery" "kinds" "[I" ∈ fkB := fkB_in (List.mem_of_getElem? (i := 140) (by decide +kernel)) rfl
theorem f_0_15 {g : fkG} {k : fkK} {ρ : Type} {en : ρ → Option Value} {cc : ByteArray} {nL fr lo pc : Nat} {ret : Option FieldType} {lv : List (Nat × Value)} {stk : List Value} {st : fkS} {F : Option (ρ × fkS)} (hk : fk_ok wC g k RX0 cc nL ret fr lo) {i : Nat} (hi : kdC i = 0) (hdg : decode cc pc = .ok (.getfield 15, 3))
    (kk : fk_J wC g en k (pc + 3) lv (fk_r g (i + 3) :: stk) st F) : fk_J wC g en k pc lv (fk_r g i :: stk) st F := by
  intro o ho hq
  have kk := kk o ho hq
  obtain ⟨p, l, e, R, s, m, args, below, meth, c, rv, sf⟩ := k
  obtain ⟨hx, hb, hml, hown, hts, hK, hE, hr, hlk, hinj, hfr, hlo⟩ := hk
  intro H locs ls hl hP hS
  exact va_get (D := g.2.1) (ci := 0) (C := RX0) (T := TX0) (N := 11) (v := fk_r g (i + 3)) hx hb hts wB_0 hown hK hP i (wat_0 hi) rfl 1 (by decide) (hts _ wf_0_15) (fun _ h => h) rfl hdg (kk H locs ls hl hP hS)
theorem wf_6_37 : Cond.fieldLinkNest RX6 37 "PieFunnels$Bakery" "kinds" "[I" "PieFunnels" ∈ fk_nests := List.mem_of_getElem? (i := 2) (by decide +kernel)
theorem f_6_37 {g : fkG} {k : fkK} {ρ : Type} {en : ρ → Option Value} {cc : ByteArray} {nL fr lo pc : Nat} {ret : Option FieldType} {lv : List (Nat × Value)} {stk : List Value} {st : fkS} {F : Option (ρ × fkS)} (hk : fk_ok wC g k RX6 cc nL ret fr lo) {i : Nat} (hi : kdC i = 0) (hdg : decode cc pc = .ok (.getfield 37, 3))
    (kk : fk_J wC g en k (pc + 3) lv (fk_r g (i + 3) :: stk) st F) : fk_J wC g en k pc lv (fk_r g i :: stk) st F := by
  intro o ho hq
  have kk := kk o ho hq
  obtain ⟨p, l, e, R, s, m, args, below, meth, c, rv, sf⟩ := k
  obtain ⟨hx, hb, hml, hown, hts, hK, hE, hr, hlk, hinj, hfr, hlo⟩ := hk
  intro H locs ls hl hP hS
  exact va_getN (D := g.2.1) (ci := 0) (C := RX0) (T := TX0) (N := 11) (v := fk_r g (i + 3)) hx hb hts wB_0 hown hK hP i (wat_0 hi) rfl 1 (by decide) (va_Nw.use rfl (hE.1 _ wf_6_37)) (fun _ h => h) rfl hdg (kk H locs ls hl hP hS)
theorem wf_1_34 : Cond.fieldLinkNest RX1 34 "PieFunnels$Bakery" "kinds" "[I" "PieFunnels" ∈ fk_nests := List.mem_of_getElem? (i := 3) (by decide +kernel)
theorem f_1_34 {g : fkG} {k : fkK} {ρ : Type} {en : ρ → Option Value} {cc : ByteArray} {nL fr lo pc : Nat} {ret : Option FieldType} {lv : List (Nat × Value)} {stk : List Value} {st : fkS} {F : Option (ρ × fkS)} (hk : fk_ok wC g k RX1 cc nL ret fr lo) {i : Nat} (hi : kdC i = 0) (hdg : decode cc pc = .ok (.getfield 34, 3))
    (kk : fk_J wC g en k (pc + 3) lv (fk_r g (i + 3) :: stk) st F) : fk_J wC g en k pc lv (fk_r g i :: stk) st F := by
  intro o ho hq
  have kk := kk o ho hq
  obtain ⟨p, l, e, R, s, m, args, below, meth, c, rv, sf⟩ := k
  obtain ⟨hx, hb, hml, hown, hts, hK, hE, hr, hlk, hinj, hfr, hlo⟩ := hk
  intro H locs ls hl hP hS
  exact va_getN (D := g.2.1) (ci := 0) (C := RX0) (T := TX0) (N := 11) (v := fk_r g (i + 3)) hx hb hts wB_0 hown hK hP i (wat_0 hi) rfl 1 (by decide) (va_Nw.use rfl (hE.1 _ wf_1_34)) (fun _ h => h) rfl hdg (kk H locs ls hl hP hS)
theorem wf_7_142 : Cond.fieldLinkNest RX7 142 "PieFunnels$Bakery" "kinds" "[I" "PieFunnels" ∈ fk_nests := List.mem_of_getElem? (i := 4) (by decide +kernel)
theorem f_7_142 {g : fkG} {k : fkK} {ρ : Type} {en : ρ → Option Value} {cc : ByteArray} {nL fr lo pc : Nat} {ret : Option FieldType} {lv : List (Nat × Value)} {stk : List Value} {st : fkS} {F : Option (ρ × fkS)} (hk : fk_ok wC g k RX7 cc nL ret fr lo) {i : Nat} (hi : kdC i = 0) (hdg : decode cc pc = .ok (.getfield 142, 3))
    (kk : fk_J wC g en k (pc + 3) lv (fk_r g (i + 3) :: stk) st F) : fk_J wC g en k pc lv (fk_r g i :: stk) st F := by
  intro o ho hq
  have kk := kk o ho hq
  obtain ⟨p, l, e, R, s, m, args, below, meth, c, rv, sf⟩ := k
  obtain ⟨hx, hb, hml, hown, hts, hK, hE, hr, hlk, hinj, hfr, hlo⟩ := hk
  intro H locs ls hl hP hS
  exact va_getN (D := g.2.1) (ci := 0) (C := RX0) (T := TX0) (N := 11) (v := fk_r g (i + 3)) hx hb hts wB_0 hown hK hP i (wat_0 hi) rfl 1 (by decide) (va_Nw.use rfl (hE.1 _ wf_7_142)) (fun _ h => h) rfl hdg (kk H locs ls hl hP hS)
theorem wf_0_19 : Cond.fieldLink RX0 19 "PieFunnels$Bakery" "as" "[I" ∈ fkB := fkB_in (List.mem_of_getElem? (i := 144) (by decide +kernel)) rfl
theorem f_0_19 {g : fkG} {k : fkK} {ρ : Type} {en : ρ → Option Value} {cc : ByteArray} {nL fr lo pc : Nat} {ret : Option FieldType} {lv : List (Nat × Value)} {stk : List Value} {st : fkS} {F : Option (ρ × fkS)} (hk : fk_ok wC g k RX0 cc nL ret fr lo) {i : Nat} (hi : kdC i = 0) (hdg : decode cc pc = .ok (.getfield 19, 3))
    (kk : fk_J wC g en k (pc + 3) lv (fk_r g (i + 6) :: stk) st F) : fk_J wC g en k pc lv (fk_r g i :: stk) st F := by
  intro o ho hq
  have kk := kk o ho hq
  obtain ⟨p, l, e, R, s, m, args, below, meth, c, rv, sf⟩ := k
  obtain ⟨hx, hb, hml, hown, hts, hK, hE, hr, hlk, hinj, hfr, hlo⟩ := hk
  intro H locs ls hl hP hS
  exact va_get (D := g.2.1) (ci := 0) (C := RX0) (T := TX0) (N := 11) (v := fk_r g (i + 6)) hx hb hts wB_0 hown hK hP i (wat_0 hi) rfl 2 (by decide) (hts _ wf_0_19) (fun _ h => h) rfl hdg (kk H locs ls hl hP hS)
theorem wf_6_40 : Cond.fieldLinkNest RX6 40 "PieFunnels$Bakery" "as" "[I" "PieFunnels" ∈ fk_nests := List.mem_of_getElem? (i := 5) (by decide +kernel)
theorem f_6_40 {g : fkG} {k : fkK} {ρ : Type} {en : ρ → Option Value} {cc : ByteArray} {nL fr lo pc : Nat} {ret : Option FieldType} {lv : List (Nat × Value)} {stk : List Value} {st : fkS} {F : Option (ρ × fkS)} (hk : fk_ok wC g k RX6 cc nL ret fr lo) {i : Nat} (hi : kdC i = 0) (hdg : decode cc pc = .ok (.getfield 40, 3))
    (kk : fk_J wC g en k (pc + 3) lv (fk_r g (i + 6) :: stk) st F) : fk_J wC g en k pc lv (fk_r g i :: stk) st F := by
  intro o ho hq
  have kk := kk o ho hq
  obtain ⟨p, l, e, R, s, m, args, below, meth, c, rv, sf⟩ := k
  obtain ⟨hx, hb, hml, hown, hts, hK, hE, hr, hlk, hinj, hfr, hlo⟩ := hk
  intro H locs ls hl hP hS
  exact va_getN (D := g.2.1) (ci := 0) (C := RX0) (T := TX0) (N := 11) (v := fk_r g (i + 6)) hx hb hts wB_0 hown hK hP i (wat_0 hi) rfl 2 (by decide) (va_Nw.use rfl (hE.1 _ wf_6_40)) (fun _ h => h) rfl hdg (kk H locs ls hl hP hS)
theorem wf_1_37 : Cond.fieldLinkNest RX1 37 "PieFunnels$Bakery" "as" "[I" "PieFunnels" ∈ fk_nests := List.mem_of_getElem? (i := 6) (by decide +kernel)
theorem f_1_37 {g : fkG} {k : fkK} {ρ : Type} {en : ρ → Option Value} {cc : ByteArray} {nL fr lo pc : Nat} {ret : Option FieldType} {lv : List (Nat × Value)} {stk : List Value} {st : fkS} {F : Option (ρ × fkS)} (hk : fk_ok wC g k RX1 cc nL ret fr lo) {i : Nat} (hi : kdC i = 0) (hdg : decode cc pc = .ok (.getfield 37, 3))
    (kk : fk_J wC g en k (pc + 3) lv (fk_r g (i + 6) :: stk) st F) : fk_J wC g en k pc lv (fk_r g i :: stk) st F := by
  intro o ho hq
  have kk := kk o ho hq
  obtain ⟨p, l, e, R, s, m, args, below, meth, c, rv, sf⟩ := k
  obtain ⟨hx, hb, hml, hown, hts, hK, hE, hr, hlk, hinj, hfr, hlo⟩ := hk
  intro H locs ls hl hP hS
  exact va_getN (D := g.2.1) (ci := 0) (C := RX0) (T := TX0) (N := 11) (v := fk_r g (i + 6)) hx hb hts wB_0 hown hK hP i (wat_0 hi) rfl 2 (by decide) (va_Nw.use rfl (hE.1 _ wf_1_37)) (fun _ h => h) rfl hdg (kk H locs ls hl hP hS)
theorem wf_7_193 : Cond.fieldLinkNest RX7 193 "PieFunnels$Bakery" "as" "[I" "PieFunnels" ∈ fk_nests := List.mem_of_getElem? (i := 7) (by decide +kernel)
theorem f_7_193 {g : fkG} {k : fkK} {ρ : Type} {en : ρ → Option Value} {cc : ByteArray} {nL fr lo pc : Nat} {ret : Option FieldType} {lv : List (Nat × Value)} {stk : List Value} {st : fkS} {F : Option (ρ × fkS)} (hk : fk_ok wC g k RX7 cc nL ret fr lo) {i : Nat} (hi : kdC i = 0) (hdg : decode cc pc = .ok (.getfield 193, 3))
    (kk : fk_J wC g en k (pc + 3) lv (fk_r g (i + 6) :: stk) st F) : fk_J wC g en k pc lv (fk_r g i :: stk) st F := by
  intro o ho hq
  have kk := kk o ho hq
  obtain ⟨p, l, e, R, s, m, args, below, meth, c, rv, sf⟩ := k
  obtain ⟨hx, hb, hml, hown, hts, hK, hE, hr, hlk, hinj, hfr, hlo⟩ := hk
  intro H locs ls hl hP hS
  exact va_getN (D := g.2.1) (ci := 0) (C := RX0) (T := TX0) (N := 11) (v := fk_r g (i + 6)) hx hb hts wB_0 hown hK hP i (wat_0 hi) rfl 2 (by decide) (va_Nw.use rfl (hE.1 _ wf_7_193)) (fun _ h => h) rfl hdg (kk H locs ls hl hP hS)
theorem wf_0_22 : Cond.fieldLink RX0 22 "PieFunnels$Bakery" "mouths" "[I" ∈ fkB := fkB_in (List.mem_of_getElem? (i := 148) (by decide +kernel)) rfl
theorem f_0_22 {g : fkG} {k : fkK} {ρ : Type} {en : ρ → Option Value} {cc : ByteArray} {nL fr lo pc : Nat} {ret : Option FieldType} {lv : List (Nat × Value)} {stk : List Value} {st : fkS} {F : Option (ρ × fkS)} (hk : fk_ok wC g k RX0 cc nL ret fr lo) {i : Nat} (hi : kdC i = 0) (hdg : decode cc pc = .ok (.getfield 22, 3))
    (kk : fk_J wC g en k (pc + 3) lv (fk_r g (i + 9) :: stk) st F) : fk_J wC g en k pc lv (fk_r g i :: stk) st F := by
  intro o ho hq
  have kk := kk o ho hq
  obtain ⟨p, l, e, R, s, m, args, below, meth, c, rv, sf⟩ := k
  obtain ⟨hx, hb, hml, hown, hts, hK, hE, hr, hlk, hinj, hfr, hlo⟩ := hk
  intro H locs ls hl hP hS
  exact va_get (D := g.2.1) (ci := 0) (C := RX0) (T := TX0) (N := 11) (v := fk_r g (i + 9)) hx hb hts wB_0 hown hK hP i (wat_0 hi) rfl 3 (by decide) (hts _ wf_0_22) (fun _ h => h) rfl hdg (kk H locs ls hl hP hS)
theorem wf_6_43 : Cond.fieldLinkNest RX6 43 "PieFunnels$Bakery" "mouths" "[I" "PieFunnels" ∈ fk_nests := List.mem_of_getElem? (i := 8) (by decide +kernel)
theorem f_6_43 {g : fkG} {k : fkK} {ρ : Type} {en : ρ → Option Value} {cc : ByteArray} {nL fr lo pc : Nat} {ret : Option FieldType} {lv : List (Nat × Value)} {stk : List Value} {st : fkS} {F : Option (ρ × fkS)} (hk : fk_ok wC g k RX6 cc nL ret fr lo) {i : Nat} (hi : kdC i = 0) (hdg : decode cc pc = .ok (.getfield 43, 3))
    (kk : fk_J wC g en k (pc + 3) lv (fk_r g (i + 9) :: stk) st F) : fk_J wC g en k pc lv (fk_r g i :: stk) st F := by
  intro o ho hq
  have kk := kk o ho hq
  obtain ⟨p, l, e, R, s, m, args, below, meth, c, rv, sf⟩ := k
  obtain ⟨hx, hb, hml, hown, hts, hK, hE, hr, hlk, hinj, hfr, hlo⟩ := hk
  intro H locs ls hl hP hS
  exact va_getN (D := g.2.1) (ci := 0) (C := RX0) (T := TX0) (N := 11) (v := fk_r g (i + 9)) hx hb hts wB_0 hown hK hP i (wat_0 hi) rfl 3 (by decide) (va_Nw.use rfl (hE.1 _ wf_6_43)) (fun _ h => h) rfl hdg (kk H locs ls hl hP hS)
theorem wf_7_196 : Cond.fieldLinkNest RX7 196 "PieFunnels$Bakery" "mouths" "[I" "PieFunnels" ∈ fk_nests := List.mem_of_getElem? (i := 9) (by decide +kernel)
theorem f_7_196 {g : fkG} {k : fkK} {ρ : Type} {en : ρ → Option Value} {cc : ByteArray} {nL fr lo pc : Nat} {ret : Option FieldType} {lv : List (Nat × Value)} {stk : List Value} {st : fkS} {F : Option (ρ × fkS)} (hk : fk_ok wC g k RX7 cc nL ret fr lo) {i : Nat} (hi : kdC i = 0) (hdg : decode cc pc = .ok (.getfield 196, 3))
    (kk : fk_J wC g en k (pc + 3) lv (fk_r g (i + 9) :: stk) st F) : fk_J wC g en k pc lv (fk_r g i :: stk) st F := by
  intro o ho hq
  have kk := kk o ho hq
  obtain ⟨p, l, e, R, s, m, args, below, meth, c, rv, sf⟩ := k
  obtain ⟨hx, hb, hml, hown, hts, hK, hE, hr, hlk, hinj, hfr, hlo⟩ := hk
  intro H locs ls hl hP hS
  exact va_getN (D := g.2.1) (ci := 0) (C := RX0) (T := TX0) (N := 11) (v := fk_r g (i + 9)) hx hb hts wB_0 hown hK hP i (wat_0 hi) rfl 3 (by decide) (va_Nw.use rfl (hE.1 _ wf_7_196)) (fun _ h => h) rfl hdg (kk H locs ls hl hP hS)
theorem wf_0_25 : Cond.fieldLink RX0 25 "PieFunnels$Bakery" "table" "[I" ∈ fkB := fkB_in (List.mem_of_getElem? (i := 151) (by decide +kernel)) rfl
theorem f_0_25 {g : fkG} {k : fkK} {ρ : Type} {en : ρ → Option Value} {cc : ByteArray} {nL fr lo pc : Nat} {ret : Option FieldType} {lv : List (Nat × Value)} {stk : List Value} {st : fkS} {F : Option (ρ × fkS)} (hk : fk_ok wC g k RX0 cc nL ret fr lo) {i : Nat} (hi : kdC i = 0) (hdg : decode cc pc = .ok (.getfield 25, 3))
    (kk : fk_J wC g en k (pc + 3) lv (fk_r g (i + 12) :: stk) st F) : fk_J wC g en k pc lv (fk_r g i :: stk) st F := by
  intro o ho hq
  have kk := kk o ho hq
  obtain ⟨p, l, e, R, s, m, args, below, meth, c, rv, sf⟩ := k
  obtain ⟨hx, hb, hml, hown, hts, hK, hE, hr, hlk, hinj, hfr, hlo⟩ := hk
  intro H locs ls hl hP hS
  exact va_get (D := g.2.1) (ci := 0) (C := RX0) (T := TX0) (N := 11) (v := fk_r g (i + 12)) hx hb hts wB_0 hown hK hP i (wat_0 hi) rfl 4 (by decide) (hts _ wf_0_25) (fun _ h => h) rfl hdg (kk H locs ls hl hP hS)
theorem wf_0_28 : Cond.fieldLink RX0 28 "PieFunnels$Bakery" "heat" "I" ∈ fkB := fkB_in (List.mem_of_getElem? (i := 152) (by decide +kernel)) rfl
theorem f_0_28 {g : fkG} {k : fkK} {ρ : Type} {en : ρ → Option Value} {cc : ByteArray} {nL fr lo pc : Nat} {ret : Option FieldType} {lv : List (Nat × Value)} {stk : List Value} {st : fkS} (hk : fk_ok wC g k RX0 cc nL ret fr lo) {i : Nat} {F1 : Int32 → Option (ρ × fkS)} (hi : kdC i = 0) (hdg : decode cc pc = .ok (.getfield 28, 3))
    (kk : ∀ x, fk_J wC g en k (pc + 3) lv (.int x :: stk) st (F1 x)) : fk_J wC g en k pc lv (fk_r g i :: stk) st (fk_let (gI st 5 i) F1) := by
  intro o ho hq
  have kk := kk (gI st 5 i) o ho hq
  obtain ⟨p, l, e, R, s, m, args, below, meth, c, rv, sf⟩ := k
  obtain ⟨hx, hb, hml, hown, hts, hK, hE, hr, hlk, hinj, hfr, hlo⟩ := hk
  intro H locs ls hl hP hS
  exact va_get (D := g.2.1) (ci := 0) (C := RX0) (T := TX0) (N := 11) (v := .int (gI st 5 i)) hx hb hts wB_0 hown hK hP i (wat_0 hi) rfl 5 (by decide) (hts _ wf_0_28) (fun _ h => h) rfl hdg (kk H locs ls hl hP hS)
theorem p_0_28 {g : fkG} {k : fkK} {ρ : Type} {en : ρ → Option Value} {cc : ByteArray} {nL fr lo pc : Nat} {ret : Option FieldType} {lv : List (Nat × Value)} {stk : List Value} {st : fkS} (hk : fk_ok wC g k RX0 cc nL ret fr lo) {i : Nat} {v : Int32} {F1 : fkS → Option (ρ × fkS)} (hi : kdC i = 0) (hdg : decode cc pc = .ok (.putfield 28, 3))
    (kk : ∀ st1, fk_J wC g en k (pc + 3) lv stk st1 (F1 st1)) : fk_J wC g en k pc lv (.int v :: fk_r g i :: stk) st (fk_let (sI st 5 i v) F1) := by
  intro o ho hq
  have kk := kk (sI st 5 i v) o ho hq
  obtain ⟨p, l, e, R, s, m, args, below, meth, c, rv, sf⟩ := k
  obtain ⟨hx, hb, hml, hown, hts, hK, hE, hr, hlk, hinj, hfr, hlo⟩ := hk
  intro H locs ls hl hP hS
  refine va_put (D := g.2.1) (ci := 0) (C := RX0) (T := TX0) (N := 11) (v := .int v) (ty := .int) hx hb hts wB_0 tyX0 tyX0_ok nmX0 hown hK hP (fk_wD hinj _ _) hS i (wat_0 hi) rfl 5 (by decide) (hts _ wf_0_28) (fun _ h => h) rfl (by decide +kernel) rfl rfl (Nat.le_of_ble_eq_true rfl) hdg (fun H1 locs1 hP1 hD1 hS1 => kk H1 locs1 ls hl ?_ hS1)
  rw [← wst_0_5 hi]
  exact hP1
theorem wf_6_46 : Cond.fieldLinkNest RX6 46 "PieFunnels$Bakery" "heat" "I" "PieFunnels" ∈ fk_nests := List.mem_of_getElem? (i := 10) (by decide +kernel)
theorem f_6_46 {g : fkG} {k : fkK} {ρ : Type} {en : ρ → Option Value} {cc : ByteArray} {nL fr lo pc : Nat} {ret : Option FieldType} {lv : List (Nat × Value)} {stk : List Value} {st : fkS} (hk : fk_ok wC g k RX6 cc nL ret fr lo) {i : Nat} {F1 : Int32 → Option (ρ × fkS)} (hi : kdC i = 0) (hdg : decode cc pc = .ok (.getfield 46, 3))
    (kk : ∀ x, fk_J wC g en k (pc + 3) lv (.int x :: stk) st (F1 x)) : fk_J wC g en k pc lv (fk_r g i :: stk) st (fk_let (gI st 5 i) F1) := by
  intro o ho hq
  have kk := kk (gI st 5 i) o ho hq
  obtain ⟨p, l, e, R, s, m, args, below, meth, c, rv, sf⟩ := k
  obtain ⟨hx, hb, hml, hown, hts, hK, hE, hr, hlk, hinj, hfr, hlo⟩ := hk
  intro H locs ls hl hP hS
  exact va_getN (D := g.2.1) (ci := 0) (C := RX0) (T := TX0) (N := 11) (v := .int (gI st 5 i)) hx hb hts wB_0 hown hK hP i (wat_0 hi) rfl 5 (by decide) (va_Nw.use rfl (hE.1 _ wf_6_46)) (fun _ h => h) rfl hdg (kk H locs ls hl hP hS)
theorem p_6_46 {g : fkG} {k : fkK} {ρ : Type} {en : ρ → Option Value} {cc : ByteArray} {nL fr lo pc : Nat} {ret : Option FieldType} {lv : List (Nat × Value)} {stk : List Value} {st : fkS} (hk : fk_ok wC g k RX6 cc nL ret fr lo) {i : Nat} {v : Int32} {F1 : fkS → Option (ρ × fkS)} (hi : kdC i = 0) (hdg : decode cc pc = .ok (.putfield 46, 3))
    (kk : ∀ st1, fk_J wC g en k (pc + 3) lv stk st1 (F1 st1)) : fk_J wC g en k pc lv (.int v :: fk_r g i :: stk) st (fk_let (sI st 5 i v) F1) := by
  intro o ho hq
  have kk := kk (sI st 5 i v) o ho hq
  obtain ⟨p, l, e, R, s, m, args, below, meth, c, rv, sf⟩ := k
  obtain ⟨hx, hb, hml, hown, hts, hK, hE, hr, hlk, hinj, hfr, hlo⟩ := hk
  intro H locs ls hl hP hS
  refine va_putN (D := g.2.1) (ci := 0) (C := RX0) (T := TX0) (N := 11) (v := .int v) (ty := .int) hx hb hts wB_0 tyX0 tyX0_ok nmX0 hown hK hP (fk_wD hinj _ _) hS i (wat_0 hi) rfl 5 (by decide) (va_Nw.use rfl (hE.1 _ wf_6_46)) (fun _ h => h) rfl (by decide +kernel) rfl rfl (Nat.le_of_ble_eq_true rfl) hdg (fun H1 locs1 hP1 hD1 hS1 => kk H1 locs1 ls hl ?_ hS1)
  rw [← wst_0_5 hi]
  exact hP1
theorem wf_4_88 : Cond.fieldLinkNest RX4 88 "PieFunnels$Bakery" "heat" "I" "PieFunnels" ∈ fk_nests := List.mem_of_getElem? (i := 11) (by decide +kernel)
theorem f_4_88 {g : fkG} {k : fkK} {ρ : Type} {en : ρ → Option Value} {cc : ByteArray} {nL fr lo pc : Nat} {ret : Option FieldType} {lv : List (Nat × Value)} {stk : List Value} {st : fkS} (hk : fk_ok wC g k RX4 cc nL ret fr lo) {i : Nat} {F1 : Int32 → Option (ρ × fkS)} (hi : kdC i = 0) (hdg : decode cc pc = .ok (.getfield 88, 3))
    (kk : ∀ x, fk_J wC g en k (pc + 3) lv (.int x :: stk) st (F1 x)) : fk_J wC g en k pc lv (fk_r g i :: stk) st (fk_let (gI st 5 i) F1) := by
  intro o ho hq
  have kk := kk (gI st 5 i) o ho hq
  obtain ⟨p, l, e, R, s, m, args, below, meth, c, rv, sf⟩ := k
  obtain ⟨hx, hb, hml, hown, hts, hK, hE, hr, hlk, hinj, hfr, hlo⟩ := hk
  intro H locs ls hl hP hS
  exact va_getN (D := g.2.1) (ci := 0) (C := RX0) (T := TX0) (N := 11) (v := .int (gI st 5 i)) hx hb hts wB_0 hown hK hP i (wat_0 hi) rfl 5 (by decide) (va_Nw.use rfl (hE.1 _ wf_4_88)) (fun _ h => h) rfl hdg (kk H locs ls hl hP hS)
theorem p_4_88 {g : fkG} {k : fkK} {ρ : Type} {en : ρ → Option Value} {cc : ByteArray} {nL fr lo pc : Nat} {ret : Option FieldType} {lv : List (Nat × Value)} {stk : List Value} {st : fkS} (hk : fk_ok wC g k RX4 cc nL ret fr lo) {i : Nat} {v : Int32} {F1 : fkS → Option (ρ × fkS)} (hi : kdC i = 0) (hdg : decode cc pc = .ok (.putfield 88, 3))
    (kk : ∀ st1, fk_J wC g en k (pc + 3) lv stk st1 (F1 st1)) : fk_J wC g en k pc lv (.int v :: fk_r g i :: stk) st (fk_let (sI st 5 i v) F1) := by
  intro o ho hq
  have kk := kk (sI st 5 i v) o ho hq
  obtain ⟨p, l, e, R, s, m, args, below, meth, c, rv, sf⟩ := k
  obtain ⟨hx, hb, hml, hown, hts, hK, hE, hr, hlk, hinj, hfr, hlo⟩ := hk
  intro H locs ls hl hP hS
  refine va_putN (D := g.2.1) (ci := 0) (C := RX0) (T := TX0) (N := 11) (v := .int v) (ty := .int) hx hb hts wB_0 tyX0 tyX0_ok nmX0 hown hK hP (fk_wD hinj _ _) hS i (wat_0 hi) rfl 5 (by decide) (va_Nw.use rfl (hE.1 _ wf_4_88)) (fun _ h => h) rfl (by decide +kernel) rfl rfl (Nat.le_of_ble_eq_true rfl) hdg (fun H1 locs1 hP1 hD1 hS1 => kk H1 locs1 ls hl ?_ hS1)
  rw [← wst_0_5 hi]
  exact hP1
theorem wf_7_178 : Cond.fieldLinkNest RX7 178 "PieFunnels$Bakery" "heat" "I" "PieFunnels" ∈ fk_nests := List.mem_of_getElem? (i := 12) (by decide +kernel)
theorem f_7_178 {g : fkG} {k : fkK} {ρ : Type} {en : ρ → Option Value} {cc : ByteArray} {nL fr lo pc : Nat} {ret : Option FieldType} {lv : List (Nat × Value)} {stk : List Value} {st : fkS} (hk : fk_ok wC g k RX7 cc nL ret fr lo) {i : Nat} {F1 : Int32 → Option (ρ × fkS)} (hi : kdC i = 0) (hdg : decode cc pc = .ok (.getfield 178, 3))
    (kk : ∀ x, fk_J wC g en k (pc + 3) lv (.int x :: stk) st (F1 x)) : fk_J wC g en k pc lv (fk_r g i :: stk) st (fk_let (gI st 5 i) F1) := by
  intro o ho hq
  have kk := kk (gI st 5 i) o ho hq
  obtain ⟨p, l, e, R, s, m, args, below, meth, c, rv, sf⟩ := k
  obtain ⟨hx, hb, hml, hown, hts, hK, hE, hr, hlk, hinj, hfr, hlo⟩ := hk
  intro H locs ls hl hP hS
  exact va_getN (D := g.2.1) (ci := 0) (C := RX0) (T := TX0) (N := 11) (v := .int (gI st 5 i)) hx hb hts wB_0 hown hK hP i (wat_0 hi) rfl 5 (by decide) (va_Nw.use rfl (hE.1 _ wf_7_178)) (fun _ h => h) rfl hdg (kk H locs ls hl hP hS)
theorem p_7_178 {g : fkG} {k : fkK} {ρ : Type} {en : ρ → Option Value} {cc : ByteArray} {nL fr lo pc : Nat} {ret : Option FieldType} {lv : List (Nat × Value)} {stk : List Value} {st : fkS} (hk : fk_ok wC g k RX7 cc nL ret fr lo) {i : Nat} {v : Int32} {F1 : fkS → Option (ρ × fkS)} (hi : kdC i = 0) (hdg : decode cc pc = .ok (.putfield 178, 3))
    (kk : ∀ st1, fk_J wC g en k (pc + 3) lv stk st1 (F1 st1)) : fk_J wC g en k pc lv (.int v :: fk_r g i :: stk) st (fk_let (sI st 5 i v) F1) := by
  intro o ho hq
  have kk := kk (sI st 5 i v) o ho hq
  obtain ⟨p, l, e, R, s, m, args, below, meth, c, rv, sf⟩ := k
  obtain ⟨hx, hb, hml, hown, hts, hK, hE, hr, hlk, hinj, hfr, hlo⟩ := hk
  intro H locs ls hl hP hS
  refine va_putN (D := g.2.1) (ci := 0) (C := RX0) (T := TX0) (N := 11) (v := .int v) (ty := .int) hx hb hts wB_0 tyX0 tyX0_ok nmX0 hown hK hP (fk_wD hinj _ _) hS i (wat_0 hi) rfl 5 (by decide) (va_Nw.use rfl (hE.1 _ wf_7_178)) (fun _ h => h) rfl (by decide +kernel) rfl rfl (Nat.le_of_ble_eq_true rfl) hdg (fun H1 locs1 hP1 hD1 hS1 => kk H1 locs1 ls hl ?_ hS1)
  rw [← wst_0_5 hi]
  exact hP1
theorem wf_0_31 : Cond.fieldLink RX0 31 "PieFunnels$Bakery" "state" "I" ∈ fkB := fkB_in (List.mem_of_getElem? (i := 156) (by decide +kernel)) rfl
theorem f_0_31 {g : fkG} {k : fkK} {ρ : Type} {en : ρ → Option Value} {cc : ByteArray} {nL fr lo pc : Nat} {ret : Option FieldType} {lv : List (Nat × Value)} {stk : List Value} {st : fkS} (hk : fk_ok wC g k RX0 cc nL ret fr lo) {i : Nat} {F1 : Int32 → Option (ρ × fkS)} (hi : kdC i = 0) (hdg : decode cc pc = .ok (.getfield 31, 3))
    (kk : ∀ x, fk_J wC g en k (pc + 3) lv (.int x :: stk) st (F1 x)) : fk_J wC g en k pc lv (fk_r g i :: stk) st (fk_let (gI st 6 i) F1) := by
  intro o ho hq
  have kk := kk (gI st 6 i) o ho hq
  obtain ⟨p, l, e, R, s, m, args, below, meth, c, rv, sf⟩ := k
  obtain ⟨hx, hb, hml, hown, hts, hK, hE, hr, hlk, hinj, hfr, hlo⟩ := hk
  intro H locs ls hl hP hS
  exact va_get (D := g.2.1) (ci := 0) (C := RX0) (T := TX0) (N := 11) (v := .int (gI st 6 i)) hx hb hts wB_0 hown hK hP i (wat_0 hi) rfl 6 (by decide) (hts _ wf_0_31) (fun _ h => h) rfl hdg (kk H locs ls hl hP hS)
theorem p_0_31 {g : fkG} {k : fkK} {ρ : Type} {en : ρ → Option Value} {cc : ByteArray} {nL fr lo pc : Nat} {ret : Option FieldType} {lv : List (Nat × Value)} {stk : List Value} {st : fkS} (hk : fk_ok wC g k RX0 cc nL ret fr lo) {i : Nat} {v : Int32} {F1 : fkS → Option (ρ × fkS)} (hi : kdC i = 0) (hdg : decode cc pc = .ok (.putfield 31, 3))
    (kk : ∀ st1, fk_J wC g en k (pc + 3) lv stk st1 (F1 st1)) : fk_J wC g en k pc lv (.int v :: fk_r g i :: stk) st (fk_let (sI st 6 i v) F1) := by
  intro o ho hq
  have kk := kk (sI st 6 i v) o ho hq
  obtain ⟨p, l, e, R, s, m, args, below, meth, c, rv, sf⟩ := k
  obtain ⟨hx, hb, hml, hown, hts, hK, hE, hr, hlk, hinj, hfr, hlo⟩ := hk
  intro H locs ls hl hP hS
  refine va_put (D := g.2.1) (ci := 0) (C := RX0) (T := TX0) (N := 11) (v := .int v) (ty := .int) hx hb hts wB_0 tyX0 tyX0_ok nmX0 hown hK hP (fk_wD hinj _ _) hS i (wat_0 hi) rfl 6 (by decide) (hts _ wf_0_31) (fun _ h => h) rfl (by decide +kernel) rfl rfl (Nat.le_of_ble_eq_true rfl) hdg (fun H1 locs1 hP1 hD1 hS1 => kk H1 locs1 ls hl ?_ hS1)
  rw [← wst_0_6 hi]
  exact hP1
theorem wf_4_91 : Cond.fieldLinkNest RX4 91 "PieFunnels$Bakery" "state" "I" "PieFunnels" ∈ fk_nests := List.mem_of_getElem? (i := 13) (by decide +kernel)
theorem f_4_91 {g : fkG} {k : fkK} {ρ : Type} {en : ρ → Option Value} {cc : ByteArray} {nL fr lo pc : Nat} {ret : Option FieldType} {lv : List (Nat × Value)} {stk : List Value} {st : fkS} (hk : fk_ok wC g k RX4 cc nL ret fr lo) {i : Nat} {F1 : Int32 → Option (ρ × fkS)} (hi : kdC i = 0) (hdg : decode cc pc = .ok (.getfield 91, 3))
    (kk : ∀ x, fk_J wC g en k (pc + 3) lv (.int x :: stk) st (F1 x)) : fk_J wC g en k pc lv (fk_r g i :: stk) st (fk_let (gI st 6 i) F1) := by
  intro o ho hq
  have kk := kk (gI st 6 i) o ho hq
  obtain ⟨p, l, e, R, s, m, args, below, meth, c, rv, sf⟩ := k
  obtain ⟨hx, hb, hml, hown, hts, hK, hE, hr, hlk, hinj, hfr, hlo⟩ := hk
  intro H locs ls hl hP hS
  exact va_getN (D := g.2.1) (ci := 0) (C := RX0) (T := TX0) (N := 11) (v := .int (gI st 6 i)) hx hb hts wB_0 hown hK hP i (wat_0 hi) rfl 6 (by decide) (va_Nw.use rfl (hE.1 _ wf_4_91)) (fun _ h => h) rfl hdg (kk H locs ls hl hP hS)
theorem p_4_91 {g : fkG} {k : fkK} {ρ : Type} {en : ρ → Option Value} {cc : ByteArray} {nL fr lo pc : Nat} {ret : Option FieldType} {lv : List (Nat × Value)} {stk : List Value} {st : fkS} (hk : fk_ok wC g k RX4 cc nL ret fr lo) {i : Nat} {v : Int32} {F1 : fkS → Option (ρ × fkS)} (hi : kdC i = 0) (hdg : decode cc pc = .ok (.putfield 91, 3))
    (kk : ∀ st1, fk_J wC g en k (pc + 3) lv stk st1 (F1 st1)) : fk_J wC g en k pc lv (.int v :: fk_r g i :: stk) st (fk_let (sI st 6 i v) F1) := by
  intro o ho hq
  have kk := kk (sI st 6 i v) o ho hq
  obtain ⟨p, l, e, R, s, m, args, below, meth, c, rv, sf⟩ := k
  obtain ⟨hx, hb, hml, hown, hts, hK, hE, hr, hlk, hinj, hfr, hlo⟩ := hk
  intro H locs ls hl hP hS
  refine va_putN (D := g.2.1) (ci := 0) (C := RX0) (T := TX0) (N := 11) (v := .int v) (ty := .int) hx hb hts wB_0 tyX0 tyX0_ok nmX0 hown hK hP (fk_wD hinj _ _) hS i (wat_0 hi) rfl 6 (by decide) (va_Nw.use rfl (hE.1 _ wf_4_91)) (fun _ h => h) rfl (by decide +kernel) rfl rfl (Nat.le_of_ble_eq_true rfl) hdg (fun H1 locs1 hP1 hD1 hS1 => kk H1 locs1 ls hl ?_ hS1)
  rw [← wst_0_6 hi]
  exact hP1
theorem wf_7_181 : Cond.fieldLinkNest RX7 181 "PieFunnels$Bakery" "state" "I" "PieFunnels" ∈ fk_nests := List.mem_of_getElem? (i := 14) (by decide +kernel)
theorem f_7_181 {g : fkG} {k : fkK} {ρ : Type} {en : ρ → Option Value} {cc : ByteArray} {nL fr lo pc : Nat} {ret : Option FieldType} {lv : List (Nat × Value)} {stk : List Value} {st : fkS} (hk : fk_ok wC g k RX7 cc nL ret fr lo) {i : Nat} {F1 : Int32 → Option (ρ × fkS)} (hi : kdC i = 0) (hdg : decode cc pc = .ok (.getfield 181, 3))
    (kk : ∀ x, fk_J wC g en k (pc + 3) lv (.int x :: stk) st (F1 x)) : fk_J wC g en k pc lv (fk_r g i :: stk) st (fk_let (gI st 6 i) F1) := by
  intro o ho hq
  have kk := kk (gI st 6 i) o ho hq
  obtain ⟨p, l, e, R, s, m, args, below, meth, c, rv, sf⟩ := k
  obtain ⟨hx, hb, hml, hown, hts, hK, hE, hr, hlk, hinj, hfr, hlo⟩ := hk
  intro H locs ls hl hP hS
  exact va_getN (D := g.2.1) (ci := 0) (C := RX0) (T := TX0) (N := 11) (v := .int (gI st 6 i)) hx hb hts wB_0 hown hK hP i (wat_0 hi) rfl 6 (by decide) (va_Nw.use rfl (hE.1 _ wf_7_181)) (fun _ h => h) rfl hdg (kk H locs ls hl hP hS)
theorem p_7_181 {g : fkG} {k : fkK} {ρ : Type} {en : ρ → Option Value} {cc : ByteArray} {nL fr lo pc : Nat} {ret : Option FieldType} {lv : List (Nat × Value)} {stk : List Value} {st : fkS} (hk : fk_ok wC g k RX7 cc nL ret fr lo) {i : Nat} {v : Int32} {F1 : fkS → Option (ρ × fkS)} (hi : kdC i = 0) (hdg : decode cc pc = .ok (.putfield 181, 3))
    (kk : ∀ st1, fk_J wC g en k (pc + 3) lv stk st1 (F1 st1)) : fk_J wC g en k pc lv (.int v :: fk_r g i :: stk) st (fk_let (sI st 6 i v) F1) := by
  intro o ho hq
  have kk := kk (sI st 6 i v) o ho hq
  obtain ⟨p, l, e, R, s, m, args, below, meth, c, rv, sf⟩ := k
  obtain ⟨hx, hb, hml, hown, hts, hK, hE, hr, hlk, hinj, hfr, hlo⟩ := hk
  intro H locs ls hl hP hS
  refine va_putN (D := g.2.1) (ci := 0) (C := RX0) (T := TX0) (N := 11) (v := .int v) (ty := .int) hx hb hts wB_0 tyX0 tyX0_ok nmX0 hown hK hP (fk_wD hinj _ _) hS i (wat_0 hi) rfl 6 (by decide) (va_Nw.use rfl (hE.1 _ wf_7_181)) (fun _ h => h) rfl (by decide +kernel) rfl rfl (Nat.le_of_ble_eq_true rfl) hdg (fun H1 locs1 hP1 hD1 hS1 => kk H1 locs1 ls hl ?_ hS1)
  rw [← wst_0_6 hi]
  exact hP1
theorem wf_0_34 : Cond.fieldLink RX0 34 "PieFunnels$Bakery" "troubles" "I" ∈ fkB := fkB_in (List.mem_of_getElem? (i := 159) (by decide +kernel)) rfl
theorem f_0_34 {g : fkG} {k : fkK} {ρ : Type} {en : ρ → Option Value} {cc : ByteArray} {nL fr lo pc : Nat} {ret : Option FieldType} {lv : List (Nat × Value)} {stk : List Value} {st : fkS} (hk : fk_ok wC g k RX0 cc nL ret fr lo) {i : Nat} {F1 : Int32 → Option (ρ × fkS)} (hi : kdC i = 0) (hdg : decode cc pc = .ok (.getfield 34, 3))
    (kk : ∀ x, fk_J wC g en k (pc + 3) lv (.int x :: stk) st (F1 x)) : fk_J wC g en k pc lv (fk_r g i :: stk) st (fk_let (gI st 7 i) F1) := by
  intro o ho hq
  have kk := kk (gI st 7 i) o ho hq
  obtain ⟨p, l, e, R, s, m, args, below, meth, c, rv, sf⟩ := k
  obtain ⟨hx, hb, hml, hown, hts, hK, hE, hr, hlk, hinj, hfr, hlo⟩ := hk
  intro H locs ls hl hP hS
  exact va_get (D := g.2.1) (ci := 0) (C := RX0) (T := TX0) (N := 11) (v := .int (gI st 7 i)) hx hb hts wB_0 hown hK hP i (wat_0 hi) rfl 7 (by decide) (hts _ wf_0_34) (fun _ h => h) rfl hdg (kk H locs ls hl hP hS)
theorem p_0_34 {g : fkG} {k : fkK} {ρ : Type} {en : ρ → Option Value} {cc : ByteArray} {nL fr lo pc : Nat} {ret : Option FieldType} {lv : List (Nat × Value)} {stk : List Value} {st : fkS} (hk : fk_ok wC g k RX0 cc nL ret fr lo) {i : Nat} {v : Int32} {F1 : fkS → Option (ρ × fkS)} (hi : kdC i = 0) (hdg : decode cc pc = .ok (.putfield 34, 3))
    (kk : ∀ st1, fk_J wC g en k (pc + 3) lv stk st1 (F1 st1)) : fk_J wC g en k pc lv (.int v :: fk_r g i :: stk) st (fk_let (sI st 7 i v) F1) := by
  intro o ho hq
  have kk := kk (sI st 7 i v) o ho hq
  obtain ⟨p, l, e, R, s, m, args, below, meth, c, rv, sf⟩ := k
  obtain ⟨hx, hb, hml, hown, hts, hK, hE, hr, hlk, hinj, hfr, hlo⟩ := hk
  intro H locs ls hl hP hS
  refine va_put (D := g.2.1) (ci := 0) (C := RX0) (T := TX0) (N := 11) (v := .int v) (ty := .int) hx hb hts wB_0 tyX0 tyX0_ok nmX0 hown hK hP (fk_wD hinj _ _) hS i (wat_0 hi) rfl 7 (by decide) (hts _ wf_0_34) (fun _ h => h) rfl (by decide +kernel) rfl rfl (Nat.le_of_ble_eq_true rfl) hdg (fun H1 locs1 hP1 hD1 hS1 => kk H1 locs1 ls hl ?_ hS1)
  rw [← wst_0_7 hi]
  exact hP1
theorem wf_4_97 : Cond.fieldLinkNest RX4 97 "PieFunnels$Bakery" "troubles" "I" "PieFunnels" ∈ fk_nests := List.mem_of_getElem? (i := 15) (by decide +kernel)
theorem f_4_97 {g : fkG} {k : fkK} {ρ : Type} {en : ρ → Option Value} {cc : ByteArray} {nL fr lo pc : Nat} {ret : Option FieldType} {lv : List (Nat × Value)} {stk : List Value} {st : fkS} (hk : fk_ok wC g k RX4 cc nL ret fr lo) {i : Nat} {F1 : Int32 → Option (ρ × fkS)} (hi : kdC i = 0) (hdg : decode cc pc = .ok (.getfield 97, 3))
    (kk : ∀ x, fk_J wC g en k (pc + 3) lv (.int x :: stk) st (F1 x)) : fk_J wC g en k pc lv (fk_r g i :: stk) st (fk_let (gI st 7 i) F1) := by
  intro o ho hq
  have kk := kk (gI st 7 i) o ho hq
  obtain ⟨p, l, e, R, s, m, args, below, meth, c, rv, sf⟩ := k
  obtain ⟨hx, hb, hml, hown, hts, hK, hE, hr, hlk, hinj, hfr, hlo⟩ := hk
  intro H locs ls hl hP hS
  exact va_getN (D := g.2.1) (ci := 0) (C := RX0) (T := TX0) (N := 11) (v := .int (gI st 7 i)) hx hb hts wB_0 hown hK hP i (wat_0 hi) rfl 7 (by decide) (va_Nw.use rfl (hE.1 _ wf_4_97)) (fun _ h => h) rfl hdg (kk H locs ls hl hP hS)
theorem p_4_97 {g : fkG} {k : fkK} {ρ : Type} {en : ρ → Option Value} {cc : ByteArray} {nL fr lo pc : Nat} {ret : Option FieldType} {lv : List (Nat × Value)} {stk : List Value} {st : fkS} (hk : fk_ok wC g k RX4 cc nL ret fr lo) {i : Nat} {v : Int32} {F1 : fkS → Option (ρ × fkS)} (hi : kdC i = 0) (hdg : decode cc pc = .ok (.putfield 97, 3))
    (kk : ∀ st1, fk_J wC g en k (pc + 3) lv stk st1 (F1 st1)) : fk_J wC g en k pc lv (.int v :: fk_r g i :: stk) st (fk_let (sI st 7 i v) F1) := by
  intro o ho hq
  have kk := kk (sI st 7 i v) o ho hq
  obtain ⟨p, l, e, R, s, m, args, below, meth, c, rv, sf⟩ := k
  obtain ⟨hx, hb, hml, hown, hts, hK, hE, hr, hlk, hinj, hfr, hlo⟩ := hk
  intro H locs ls hl hP hS
  refine va_putN (D := g.2.1) (ci := 0) (C := RX0) (T := TX0) (N := 11) (v := .int v) (ty := .int) hx hb hts wB_0 tyX0 tyX0_ok nmX0 hown hK hP (fk_wD hinj _ _) hS i (wat_0 hi) rfl 7 (by decide) (va_Nw.use rfl (hE.1 _ wf_4_97)) (fun _ h => h) rfl (by decide +kernel) rfl rfl (Nat.le_of_ble_eq_true rfl) hdg (fun H1 locs1 hP1 hD1 hS1 => kk H1 locs1 ls hl ?_ hS1)
  rw [← wst_0_7 hi]
  exact hP1
theorem wf_7_184 : Cond.fieldLinkNest RX7 184 "PieFunnels$Bakery" "troubles" "I" "PieFunnels" ∈ fk_nests := List.mem_of_getElem? (i := 16) (by decide +kernel)
theorem f_7_184 {g : fkG} {k : fkK} {ρ : Type} {en : ρ → Option Value} {cc : ByteArray} {nL fr lo pc : Nat} {ret : Option FieldType} {lv : List (Nat × Value)} {stk : List Value} {st : fkS} (hk : fk_ok wC g k RX7 cc nL ret fr lo) {i : Nat} {F1 : Int32 → Option (ρ × fkS)} (hi : kdC i = 0) (hdg : decode cc pc = .ok (.getfield 184, 3))
    (kk : ∀ x, fk_J wC g en k (pc + 3) lv (.int x :: stk) st (F1 x)) : fk_J wC g en k pc lv (fk_r g i :: stk) st (fk_let (gI st 7 i) F1) := by
  intro o ho hq
  have kk := kk (gI st 7 i) o ho hq
  obtain ⟨p, l, e, R, s, m, args, below, meth, c, rv, sf⟩ := k
  obtain ⟨hx, hb, hml, hown, hts, hK, hE, hr, hlk, hinj, hfr, hlo⟩ := hk
  intro H locs ls hl hP hS
  exact va_getN (D := g.2.1) (ci := 0) (C := RX0) (T := TX0) (N := 11) (v := .int (gI st 7 i)) hx hb hts wB_0 hown hK hP i (wat_0 hi) rfl 7 (by decide) (va_Nw.use rfl (hE.1 _ wf_7_184)) (fun _ h => h) rfl hdg (kk H locs ls hl hP hS)
theorem p_7_184 {g : fkG} {k : fkK} {ρ : Type} {en : ρ → Option Value} {cc : ByteArray} {nL fr lo pc : Nat} {ret : Option FieldType} {lv : List (Nat × Value)} {stk : List Value} {st : fkS} (hk : fk_ok wC g k RX7 cc nL ret fr lo) {i : Nat} {v : Int32} {F1 : fkS → Option (ρ × fkS)} (hi : kdC i = 0) (hdg : decode cc pc = .ok (.putfield 184, 3))
    (kk : ∀ st1, fk_J wC g en k (pc + 3) lv stk st1 (F1 st1)) : fk_J wC g en k pc lv (.int v :: fk_r g i :: stk) st (fk_let (sI st 7 i v) F1) := by
  intro o ho hq
  have kk := kk (sI st 7 i v) o ho hq
  obtain ⟨p, l, e, R, s, m, args, below, meth, c, rv, sf⟩ := k
  obtain ⟨hx, hb, hml, hown, hts, hK, hE, hr, hlk, hinj, hfr, hlo⟩ := hk
  intro H locs ls hl hP hS
  refine va_putN (D := g.2.1) (ci := 0) (C := RX0) (T := TX0) (N := 11) (v := .int v) (ty := .int) hx hb hts wB_0 tyX0 tyX0_ok nmX0 hown hK hP (fk_wD hinj _ _) hS i (wat_0 hi) rfl 7 (by decide) (va_Nw.use rfl (hE.1 _ wf_7_184)) (fun _ h => h) rfl (by decide +kernel) rfl rfl (Nat.le_of_ble_eq_true rfl) hdg (fun H1 locs1 hP1 hD1 hS1 => kk H1 locs1 ls hl ?_ hS1)
  rw [← wst_0_7 hi]
  exact hP1
theorem wf_0_37 : Cond.fieldLink RX0 37 "PieFunnels$Bakery" "bakes" "I" ∈ fkB := fkB_in (List.mem_of_getElem? (i := 162) (by decide +kernel)) rfl
theorem f_0_37 {g : fkG} {k : fkK} {ρ : Type} {en : ρ → Option Value} {cc : ByteArray} {nL fr lo pc : Nat} {ret : Option FieldType} {lv : List (Nat × Value)} {stk : List Value} {st : fkS} (hk : fk_ok wC g k RX0 cc nL ret fr lo) {i : Nat} {F1 : Int32 → Option (ρ × fkS)} (hi : kdC i = 0) (hdg : decode cc pc = .ok (.getfield 37, 3))
    (kk : ∀ x, fk_J wC g en k (pc + 3) lv (.int x :: stk) st (F1 x)) : fk_J wC g en k pc lv (fk_r g i :: stk) st (fk_let (gI st 8 i) F1) := by
  intro o ho hq
  have kk := kk (gI st 8 i) o ho hq
  obtain ⟨p, l, e, R, s, m, args, below, meth, c, rv, sf⟩ := k
  obtain ⟨hx, hb, hml, hown, hts, hK, hE, hr, hlk, hinj, hfr, hlo⟩ := hk
  intro H locs ls hl hP hS
  exact va_get (D := g.2.1) (ci := 0) (C := RX0) (T := TX0) (N := 11) (v := .int (gI st 8 i)) hx hb hts wB_0 hown hK hP i (wat_0 hi) rfl 8 (by decide) (hts _ wf_0_37) (fun _ h => h) rfl hdg (kk H locs ls hl hP hS)
theorem p_0_37 {g : fkG} {k : fkK} {ρ : Type} {en : ρ → Option Value} {cc : ByteArray} {nL fr lo pc : Nat} {ret : Option FieldType} {lv : List (Nat × Value)} {stk : List Value} {st : fkS} (hk : fk_ok wC g k RX0 cc nL ret fr lo) {i : Nat} {v : Int32} {F1 : fkS → Option (ρ × fkS)} (hi : kdC i = 0) (hdg : decode cc pc = .ok (.putfield 37, 3))
    (kk : ∀ st1, fk_J wC g en k (pc + 3) lv stk st1 (F1 st1)) : fk_J wC g en k pc lv (.int v :: fk_r g i :: stk) st (fk_let (sI st 8 i v) F1) := by
  intro o ho hq
  have kk := kk (sI st 8 i v) o ho hq
  obtain ⟨p, l, e, R, s, m, args, below, meth, c, rv, sf⟩ := k
  obtain ⟨hx, hb, hml, hown, hts, hK, hE, hr, hlk, hinj, hfr, hlo⟩ := hk
  intro H locs ls hl hP hS
  refine va_put (D := g.2.1) (ci := 0) (C := RX0) (T := TX0) (N := 11) (v := .int v) (ty := .int) hx hb hts wB_0 tyX0 tyX0_ok nmX0 hown hK hP (fk_wD hinj _ _) hS i (wat_0 hi) rfl 8 (by decide) (hts _ wf_0_37) (fun _ h => h) rfl (by decide +kernel) rfl rfl (Nat.le_of_ble_eq_true rfl) hdg (fun H1 locs1 hP1 hD1 hS1 => kk H1 locs1 ls hl ?_ hS1)
  rw [← wst_0_8 hi]
  exact hP1
theorem wf_7_331 : Cond.fieldLinkNest RX7 331 "PieFunnels$Bakery" "bakes" "I" "PieFunnels" ∈ fk_nests := List.mem_of_getElem? (i := 17) (by decide +kernel)
theorem f_7_331 {g : fkG} {k : fkK} {ρ : Type} {en : ρ → Option Value} {cc : ByteArray} {nL fr lo pc : Nat} {ret : Option FieldType} {lv : List (Nat × Value)} {stk : List Value} {st : fkS} (hk : fk_ok wC g k RX7 cc nL ret fr lo) {i : Nat} {F1 : Int32 → Option (ρ × fkS)} (hi : kdC i = 0) (hdg : decode cc pc = .ok (.getfield 331, 3))
    (kk : ∀ x, fk_J wC g en k (pc + 3) lv (.int x :: stk) st (F1 x)) : fk_J wC g en k pc lv (fk_r g i :: stk) st (fk_let (gI st 8 i) F1) := by
  intro o ho hq
  have kk := kk (gI st 8 i) o ho hq
  obtain ⟨p, l, e, R, s, m, args, below, meth, c, rv, sf⟩ := k
  obtain ⟨hx, hb, hml, hown, hts, hK, hE, hr, hlk, hinj, hfr, hlo⟩ := hk
  intro H locs ls hl hP hS
  exact va_getN (D := g.2.1) (ci := 0) (C := RX0) (T := TX0) (N := 11) (v := .int (gI st 8 i)) hx hb hts wB_0 hown hK hP i (wat_0 hi) rfl 8 (by decide) (va_Nw.use rfl (hE.1 _ wf_7_331)) (fun _ h => h) rfl hdg (kk H locs ls hl hP hS)
theorem p_7_331 {g : fkG} {k : fkK} {ρ : Type} {en : ρ → Option Value} {cc : ByteArray} {nL fr lo pc : Nat} {ret : Option FieldType} {lv : List (Nat × Value)} {stk : List Value} {st : fkS} (hk : fk_ok wC g k RX7 cc nL ret fr lo) {i : Nat} {v : Int32} {F1 : fkS → Option (ρ × fkS)} (hi : kdC i = 0) (hdg : decode cc pc = .ok (.putfield 331, 3))
    (kk : ∀ st1, fk_J wC g en k (pc + 3) lv stk st1 (F1 st1)) : fk_J wC g en k pc lv (.int v :: fk_r g i :: stk) st (fk_let (sI st 8 i v) F1) := by
  intro o ho hq
  have kk := kk (sI st 8 i v) o ho hq
  obtain ⟨p, l, e, R, s, m, args, below, meth, c, rv, sf⟩ := k
  obtain ⟨hx, hb, hml, hown, hts, hK, hE, hr, hlk, hinj, hfr, hlo⟩ := hk
  intro H locs ls hl hP hS
  refine va_putN (D := g.2.1) (ci := 0) (C := RX0) (T := TX0) (N := 11) (v := .int v) (ty := .int) hx hb hts wB_0 tyX0 tyX0_ok nmX0 hown hK hP (fk_wD hinj _ _) hS i (wat_0 hi) rfl 8 (by decide) (va_Nw.use rfl (hE.1 _ wf_7_331)) (fun _ h => h) rfl (by decide +kernel) rfl rfl (Nat.le_of_ble_eq_true rfl) hdg (fun H1 locs1 hP1 hD1 hS1 => kk H1 locs1 ls hl ?_ hS1)
  rw [← wst_0_8 hi]
  exact hP1
theorem wf_0_40 : Cond.fieldLink RX0 40 "PieFunnels$Bakery" "suffered" "I" ∈ fkB := fkB_in (List.mem_of_getElem? (i := 164) (by decide +kernel)) rfl
theorem f_0_40 {g : fkG} {k : fkK} {ρ : Type} {en : ρ → Option Value} {cc : ByteArray} {nL fr lo pc : Nat} {ret : Option FieldType} {lv : List (Nat × Value)} {stk : List Value} {st : fkS} (hk : fk_ok wC g k RX0 cc nL ret fr lo) {i : Nat} {F1 : Int32 → Option (ρ × fkS)} (hi : kdC i = 0) (hdg : decode cc pc = .ok (.getfield 40, 3))
    (kk : ∀ x, fk_J wC g en k (pc + 3) lv (.int x :: stk) st (F1 x)) : fk_J wC g en k pc lv (fk_r g i :: stk) st (fk_let (gI st 9 i) F1) := by
  intro o ho hq
  have kk := kk (gI st 9 i) o ho hq
  obtain ⟨p, l, e, R, s, m, args, below, meth, c, rv, sf⟩ := k
  obtain ⟨hx, hb, hml, hown, hts, hK, hE, hr, hlk, hinj, hfr, hlo⟩ := hk
  intro H locs ls hl hP hS
  exact va_get (D := g.2.1) (ci := 0) (C := RX0) (T := TX0) (N := 11) (v := .int (gI st 9 i)) hx hb hts wB_0 hown hK hP i (wat_0 hi) rfl 9 (by decide) (hts _ wf_0_40) (fun _ h => h) rfl hdg (kk H locs ls hl hP hS)
theorem p_0_40 {g : fkG} {k : fkK} {ρ : Type} {en : ρ → Option Value} {cc : ByteArray} {nL fr lo pc : Nat} {ret : Option FieldType} {lv : List (Nat × Value)} {stk : List Value} {st : fkS} (hk : fk_ok wC g k RX0 cc nL ret fr lo) {i : Nat} {v : Int32} {F1 : fkS → Option (ρ × fkS)} (hi : kdC i = 0) (hdg : decode cc pc = .ok (.putfield 40, 3))
    (kk : ∀ st1, fk_J wC g en k (pc + 3) lv stk st1 (F1 st1)) : fk_J wC g en k pc lv (.int v :: fk_r g i :: stk) st (fk_let (sI st 9 i v) F1) := by
  intro o ho hq
  have kk := kk (sI st 9 i v) o ho hq
  obtain ⟨p, l, e, R, s, m, args, below, meth, c, rv, sf⟩ := k
  obtain ⟨hx, hb, hml, hown, hts, hK, hE, hr, hlk, hinj, hfr, hlo⟩ := hk
  intro H locs ls hl hP hS
  refine va_put (D := g.2.1) (ci := 0) (C := RX0) (T := TX0) (N := 11) (v := .int v) (ty := .int) hx hb hts wB_0 tyX0 tyX0_ok nmX0 hown hK hP (fk_wD hinj _ _) hS i (wat_0 hi) rfl 9 (by decide) (hts _ wf_0_40) (fun _ h => h) rfl (by decide +kernel) rfl rfl (Nat.le_of_ble_eq_true rfl) hdg (fun H1 locs1 hP1 hD1 hS1 => kk H1 locs1 ls hl ?_ hS1)
  rw [← wst_0_9 hi]
  exact hP1
theorem wf_7_308 : Cond.fieldLinkNest RX7 308 "PieFunnels$Bakery" "suffered" "I" "PieFunnels" ∈ fk_nests := List.mem_of_getElem? (i := 18) (by decide +kernel)
theorem f_7_308 {g : fkG} {k : fkK} {ρ : Type} {en : ρ → Option Value} {cc : ByteArray} {nL fr lo pc : Nat} {ret : Option FieldType} {lv : List (Nat × Value)} {stk : List Value} {st : fkS} (hk : fk_ok wC g k RX7 cc nL ret fr lo) {i : Nat} {F1 : Int32 → Option (ρ × fkS)} (hi : kdC i = 0) (hdg : decode cc pc = .ok (.getfield 308, 3))
    (kk : ∀ x, fk_J wC g en k (pc + 3) lv (.int x :: stk) st (F1 x)) : fk_J wC g en k pc lv (fk_r g i :: stk) st (fk_let (gI st 9 i) F1) := by
  intro o ho hq
  have kk := kk (gI st 9 i) o ho hq
  obtain ⟨p, l, e, R, s, m, args, below, meth, c, rv, sf⟩ := k
  obtain ⟨hx, hb, hml, hown, hts, hK, hE, hr, hlk, hinj, hfr, hlo⟩ := hk
  intro H locs ls hl hP hS
  exact va_getN (D := g.2.1) (ci := 0) (C := RX0) (T := TX0) (N := 11) (v := .int (gI st 9 i)) hx hb hts wB_0 hown hK hP i (wat_0 hi) rfl 9 (by decide) (va_Nw.use rfl (hE.1 _ wf_7_308)) (fun _ h => h) rfl hdg (kk H locs ls hl hP hS)
theorem p_7_308 {g : fkG} {k : fkK} {ρ : Type} {en : ρ → Option Value} {cc : ByteArray} {nL fr lo pc : Nat} {ret : Option FieldType} {lv : List (Nat × Value)} {stk : List Value} {st : fkS} (hk : fk_ok wC g k RX7 cc nL ret fr lo) {i : Nat} {v : Int32} {F1 : fkS → Option (ρ × fkS)} (hi : kdC i = 0) (hdg : decode cc pc = .ok (.putfield 308, 3))
    (kk : ∀ st1, fk_J wC g en k (pc + 3) lv stk st1 (F1 st1)) : fk_J wC g en k pc lv (.int v :: fk_r g i :: stk) st (fk_let (sI st 9 i v) F1) := by
  intro o ho hq
  have kk := kk (sI st 9 i v) o ho hq
  obtain ⟨p, l, e, R, s, m, args, below, meth, c, rv, sf⟩ := k
  obtain ⟨hx, hb, hml, hown, hts, hK, hE, hr, hlk, hinj, hfr, hlo⟩ := hk
  intro H locs ls hl hP hS
  refine va_putN (D := g.2.1) (ci := 0) (C := RX0) (T := TX0) (N := 11) (v := .int v) (ty := .int) hx hb hts wB_0 tyX0 tyX0_ok nmX0 hown hK hP (fk_wD hinj _ _) hS i (wat_0 hi) rfl 9 (by decide) (va_Nw.use rfl (hE.1 _ wf_7_308)) (fun _ h => h) rfl (by decide +kernel) rfl rfl (Nat.le_of_ble_eq_true rfl) hdg (fun H1 locs1 hP1 hD1 hS1 => kk H1 locs1 ls hl ?_ hS1)
  rw [← wst_0_9 hi]
  exact hP1
theorem wf_0_43 : Cond.fieldLink RX0 43 "PieFunnels$Bakery" "seed" "I" ∈ fkB := fkB_in (List.mem_of_getElem? (i := 166) (by decide +kernel)) rfl
theorem f_0_43 {g : fkG} {k : fkK} {ρ : Type} {en : ρ → Option Value} {cc : ByteArray} {nL fr lo pc : Nat} {ret : Option FieldType} {lv : List (Nat × Value)} {stk : List Value} {st : fkS} (hk : fk_ok wC g k RX0 cc nL ret fr lo) {i : Nat} {F1 : Int32 → Option (ρ × fkS)} (hi : kdC i = 0) (hdg : decode cc pc = .ok (.getfield 43, 3))
    (kk : ∀ x, fk_J wC g en k (pc + 3) lv (.int x :: stk) st (F1 x)) : fk_J wC g en k pc lv (fk_r g i :: stk) st (fk_let (gI st 10 i) F1) := by
  intro o ho hq
  have kk := kk (gI st 10 i) o ho hq
  obtain ⟨p, l, e, R, s, m, args, below, meth, c, rv, sf⟩ := k
  obtain ⟨hx, hb, hml, hown, hts, hK, hE, hr, hlk, hinj, hfr, hlo⟩ := hk
  intro H locs ls hl hP hS
  exact va_get (D := g.2.1) (ci := 0) (C := RX0) (T := TX0) (N := 11) (v := .int (gI st 10 i)) hx hb hts wB_0 hown hK hP i (wat_0 hi) rfl 10 (by decide) (hts _ wf_0_43) (fun _ h => h) rfl hdg (kk H locs ls hl hP hS)
theorem p_0_43 {g : fkG} {k : fkK} {ρ : Type} {en : ρ → Option Value} {cc : ByteArray} {nL fr lo pc : Nat} {ret : Option FieldType} {lv : List (Nat × Value)} {stk : List Value} {st : fkS} (hk : fk_ok wC g k RX0 cc nL ret fr lo) {i : Nat} {v : Int32} {F1 : fkS → Option (ρ × fkS)} (hi : kdC i = 0) (hdg : decode cc pc = .ok (.putfield 43, 3))
    (kk : ∀ st1, fk_J wC g en k (pc + 3) lv stk st1 (F1 st1)) : fk_J wC g en k pc lv (.int v :: fk_r g i :: stk) st (fk_let (sI st 10 i v) F1) := by
  intro o ho hq
  have kk := kk (sI st 10 i v) o ho hq
  obtain ⟨p, l, e, R, s, m, args, below, meth, c, rv, sf⟩ := k
  obtain ⟨hx, hb, hml, hown, hts, hK, hE, hr, hlk, hinj, hfr, hlo⟩ := hk
  intro H locs ls hl hP hS
  refine va_put (D := g.2.1) (ci := 0) (C := RX0) (T := TX0) (N := 11) (v := .int v) (ty := .int) hx hb hts wB_0 tyX0 tyX0_ok nmX0 hown hK hP (fk_wD hinj _ _) hS i (wat_0 hi) rfl 10 (by decide) (hts _ wf_0_43) (fun _ h => h) rfl (by decide +kernel) rfl rfl (Nat.le_of_ble_eq_true rfl) hdg (fun H1 locs1 hP1 hD1 hS1 => kk H1 locs1 ls hl ?_ hS1)
  rw [← wst_0_10 hi]
  exact hP1
theorem wf_7_311 : Cond.fieldLinkNest RX7 311 "PieFunnels$Bakery" "seed" "I" "PieFunnels" ∈ fk_nests := List.mem_of_getElem? (i := 19) (by decide +kernel)
theorem f_7_311 {g : fkG} {k : fkK} {ρ : Type} {en : ρ → Option Value} {cc : ByteArray} {nL fr lo pc : Nat} {ret : Option FieldType} {lv : List (Nat × Value)} {stk : List Value} {st : fkS} (hk : fk_ok wC g k RX7 cc nL ret fr lo) {i : Nat} {F1 : Int32 → Option (ρ × fkS)} (hi : kdC i = 0) (hdg : decode cc pc = .ok (.getfield 311, 3))
    (kk : ∀ x, fk_J wC g en k (pc + 3) lv (.int x :: stk) st (F1 x)) : fk_J wC g en k pc lv (fk_r g i :: stk) st (fk_let (gI st 10 i) F1) := by
  intro o ho hq
  have kk := kk (gI st 10 i) o ho hq
  obtain ⟨p, l, e, R, s, m, args, below, meth, c, rv, sf⟩ := k
  obtain ⟨hx, hb, hml, hown, hts, hK, hE, hr, hlk, hinj, hfr, hlo⟩ := hk
  intro H locs ls hl hP hS
  exact va_getN (D := g.2.1) (ci := 0) (C := RX0) (T := TX0) (N := 11) (v := .int (gI st 10 i)) hx hb hts wB_0 hown hK hP i (wat_0 hi) rfl 10 (by decide) (va_Nw.use rfl (hE.1 _ wf_7_311)) (fun _ h => h) rfl hdg (kk H locs ls hl hP hS)
theorem p_7_311 {g : fkG} {k : fkK} {ρ : Type} {en : ρ → Option Value} {cc : ByteArray} {nL fr lo pc : Nat} {ret : Option FieldType} {lv : List (Nat × Value)} {stk : List Value} {st : fkS} (hk : fk_ok wC g k RX7 cc nL ret fr lo) {i : Nat} {v : Int32} {F1 : fkS → Option (ρ × fkS)} (hi : kdC i = 0) (hdg : decode cc pc = .ok (.putfield 311, 3))
    (kk : ∀ st1, fk_J wC g en k (pc + 3) lv stk st1 (F1 st1)) : fk_J wC g en k pc lv (.int v :: fk_r g i :: stk) st (fk_let (sI st 10 i v) F1) := by
  intro o ho hq
  have kk := kk (sI st 10 i v) o ho hq
  obtain ⟨p, l, e, R, s, m, args, below, meth, c, rv, sf⟩ := k
  obtain ⟨hx, hb, hml, hown, hts, hK, hE, hr, hlk, hinj, hfr, hlo⟩ := hk
  intro H locs ls hl hP hS
  refine va_putN (D := g.2.1) (ci := 0) (C := RX0) (T := TX0) (N := 11) (v := .int v) (ty := .int) hx hb hts wB_0 tyX0 tyX0_ok nmX0 hown hK hP (fk_wD hinj _ _) hS i (wat_0 hi) rfl 10 (by decide) (va_Nw.use rfl (hE.1 _ wf_7_311)) (fun _ h => h) rfl (by decide +kernel) rfl rfl (Nat.le_of_ble_eq_true rfl) hdg (fun H1 locs1 hP1 hD1 hS1 => kk H1 locs1 ls hl ?_ hS1)
  rw [← wst_0_10 hi]
  exact hP1
theorem wf_4_9 : Cond.fieldLink RX4 9 "PieFunnels$Reader" "fault" "I" ∈ fkB := fkB_in (List.mem_of_getElem? (i := 198) (by decide +kernel)) rfl
theorem f_4_9 {g : fkG} {k : fkK} {ρ : Type} {en : ρ → Option Value} {cc : ByteArray} {nL fr lo pc : Nat} {ret : Option FieldType} {lv : List (Nat × Value)} {stk : List Value} {st : fkS} (hk : fk_ok wC g k RX4 cc nL ret fr lo) {i : Nat} {F1 : Int32 → Option (ρ × fkS)} (hi : kdC i = 4) (hdg : decode cc pc = .ok (.getfield 9, 3))
    (kk : ∀ x, fk_J wC g en k (pc + 3) lv (.int x :: stk) st (F1 x)) : fk_J wC g en k pc lv (fk_r g i :: stk) st (fk_let (gI st 80 i) F1) := by
  intro o ho hq
  have kk := kk (gI st 80 i) o ho hq
  obtain ⟨p, l, e, R, s, m, args, below, meth, c, rv, sf⟩ := k
  obtain ⟨hx, hb, hml, hown, hts, hK, hE, hr, hlk, hinj, hfr, hlo⟩ := hk
  intro H locs ls hl hP hS
  exact va_get (D := g.2.1) (ci := 4) (C := RX4) (T := TX4) (N := 4) (v := .int (gI st 80 i)) hx hb hts wB_4 hown hK hP i (wat_4 hi) rfl 0 (by decide) (hts _ wf_4_9) (fun _ h => h) rfl hdg (kk H locs ls hl hP hS)
theorem p_4_9 {g : fkG} {k : fkK} {ρ : Type} {en : ρ → Option Value} {cc : ByteArray} {nL fr lo pc : Nat} {ret : Option FieldType} {lv : List (Nat × Value)} {stk : List Value} {st : fkS} (hk : fk_ok wC g k RX4 cc nL ret fr lo) {i : Nat} {v : Int32} {F1 : fkS → Option (ρ × fkS)} (hi : kdC i = 4) (hdg : decode cc pc = .ok (.putfield 9, 3))
    (kk : ∀ st1, fk_J wC g en k (pc + 3) lv stk st1 (F1 st1)) : fk_J wC g en k pc lv (.int v :: fk_r g i :: stk) st (fk_let (sI st 80 i v) F1) := by
  intro o ho hq
  have kk := kk (sI st 80 i v) o ho hq
  obtain ⟨p, l, e, R, s, m, args, below, meth, c, rv, sf⟩ := k
  obtain ⟨hx, hb, hml, hown, hts, hK, hE, hr, hlk, hinj, hfr, hlo⟩ := hk
  intro H locs ls hl hP hS
  refine va_put (D := g.2.1) (ci := 4) (C := RX4) (T := TX4) (N := 4) (v := .int v) (ty := .int) hx hb hts wB_4 tyX4 tyX4_ok nmX4 hown hK hP (fk_wD hinj _ _) hS i (wat_4 hi) rfl 0 (by decide) (hts _ wf_4_9) (fun _ h => h) rfl (by decide +kernel) rfl rfl (Nat.le_of_ble_eq_true rfl) hdg (fun H1 locs1 hP1 hD1 hS1 => kk H1 locs1 ls hl ?_ hS1)
  rw [← wst_4_0 hi]
  exact hP1
theorem wf_7_207 : Cond.fieldLinkNest RX7 207 "PieFunnels$Reader" "fault" "I" "PieFunnels" ∈ fk_nests := List.mem_of_getElem? (i := 20) (by decide +kernel)
theorem f_7_207 {g : fkG} {k : fkK} {ρ : Type} {en : ρ → Option Value} {cc : ByteArray} {nL fr lo pc : Nat} {ret : Option FieldType} {lv : List (Nat × Value)} {stk : List Value} {st : fkS} (hk : fk_ok wC g k RX7 cc nL ret fr lo) {i : Nat} {F1 : Int32 → Option (ρ × fkS)} (hi : kdC i = 4) (hdg : decode cc pc = .ok (.getfield 207, 3))
    (kk : ∀ x, fk_J wC g en k (pc + 3) lv (.int x :: stk) st (F1 x)) : fk_J wC g en k pc lv (fk_r g i :: stk) st (fk_let (gI st 80 i) F1) := by
  intro o ho hq
  have kk := kk (gI st 80 i) o ho hq
  obtain ⟨p, l, e, R, s, m, args, below, meth, c, rv, sf⟩ := k
  obtain ⟨hx, hb, hml, hown, hts, hK, hE, hr, hlk, hinj, hfr, hlo⟩ := hk
  intro H locs ls hl hP hS
  exact va_getN (D := g.2.1) (ci := 4) (C := RX4) (T := TX4) (N := 4) (v := .int (gI st 80 i)) hx hb hts wB_4 hown hK hP i (wat_4 hi) rfl 0 (by decide) (va_Nw.use rfl (hE.1 _ wf_7_207)) (fun _ h => h) rfl hdg (kk H locs ls hl hP hS)
theorem p_7_207 {g : fkG} {k : fkK} {ρ : Type} {en : ρ → Option Value} {cc : ByteArray} {nL fr lo pc : Nat} {ret : Option FieldType} {lv : List (Nat × Value)} {stk : List Value} {st : fkS} (hk : fk_ok wC g k RX7 cc nL ret fr lo) {i : Nat} {v : Int32} {F1 : fkS → Option (ρ × fkS)} (hi : kdC i = 4) (hdg : decode cc pc = .ok (.putfield 207, 3))
    (kk : ∀ st1, fk_J wC g en k (pc + 3) lv stk st1 (F1 st1)) : fk_J wC g en k pc lv (.int v :: fk_r g i :: stk) st (fk_let (sI st 80 i v) F1) := by
  intro o ho hq
  have kk := kk (sI st 80 i v) o ho hq
  obtain ⟨p, l, e, R, s, m, args, below, meth, c, rv, sf⟩ := k
  obtain ⟨hx, hb, hml, hown, hts, hK, hE, hr, hlk, hinj, hfr, hlo⟩ := hk
  intro H locs ls hl hP hS
  refine va_putN (D := g.2.1) (ci := 4) (C := RX4) (T := TX4) (N := 4) (v := .int v) (ty := .int) hx hb hts wB_4 tyX4 tyX4_ok nmX4 hown hK hP (fk_wD hinj _ _) hS i (wat_4 hi) rfl 0 (by decide) (va_Nw.use rfl (hE.1 _ wf_7_207)) (fun _ h => h) rfl (by decide +kernel) rfl rfl (Nat.le_of_ble_eq_true rfl) hdg (fun H1 locs1 hP1 hD1 hS1 => kk H1 locs1 ls hl ?_ hS1)
  rw [← wst_4_0 hi]
  exact hP1
theorem wf_4_15 : Cond.fieldLink RX4 15 "PieFunnels$Reader" "place" "I" ∈ fkB := fkB_in (List.mem_of_getElem? (i := 200) (by decide +kernel)) rfl
theorem f_4_15 {g : fkG} {k : fkK} {ρ : Type} {en : ρ → Option Value} {cc : ByteArray} {nL fr lo pc : Nat} {ret : Option FieldType} {lv : List (Nat × Value)} {stk : List Value} {st : fkS} (hk : fk_ok wC g k RX4 cc nL ret fr lo) {i : Nat} {F1 : Int32 → Option (ρ × fkS)} (hi : kdC i = 4) (hdg : decode cc pc = .ok (.getfield 15, 3))
    (kk : ∀ x, fk_J wC g en k (pc + 3) lv (.int x :: stk) st (F1 x)) : fk_J wC g en k pc lv (fk_r g i :: stk) st (fk_let (gI st 81 i) F1) := by
  intro o ho hq
  have kk := kk (gI st 81 i) o ho hq
  obtain ⟨p, l, e, R, s, m, args, below, meth, c, rv, sf⟩ := k
  obtain ⟨hx, hb, hml, hown, hts, hK, hE, hr, hlk, hinj, hfr, hlo⟩ := hk
  intro H locs ls hl hP hS
  exact va_get (D := g.2.1) (ci := 4) (C := RX4) (T := TX4) (N := 4) (v := .int (gI st 81 i)) hx hb hts wB_4 hown hK hP i (wat_4 hi) rfl 1 (by decide) (hts _ wf_4_15) (fun _ h => h) rfl hdg (kk H locs ls hl hP hS)
theorem p_4_15 {g : fkG} {k : fkK} {ρ : Type} {en : ρ → Option Value} {cc : ByteArray} {nL fr lo pc : Nat} {ret : Option FieldType} {lv : List (Nat × Value)} {stk : List Value} {st : fkS} (hk : fk_ok wC g k RX4 cc nL ret fr lo) {i : Nat} {v : Int32} {F1 : fkS → Option (ρ × fkS)} (hi : kdC i = 4) (hdg : decode cc pc = .ok (.putfield 15, 3))
    (kk : ∀ st1, fk_J wC g en k (pc + 3) lv stk st1 (F1 st1)) : fk_J wC g en k pc lv (.int v :: fk_r g i :: stk) st (fk_let (sI st 81 i v) F1) := by
  intro o ho hq
  have kk := kk (sI st 81 i v) o ho hq
  obtain ⟨p, l, e, R, s, m, args, below, meth, c, rv, sf⟩ := k
  obtain ⟨hx, hb, hml, hown, hts, hK, hE, hr, hlk, hinj, hfr, hlo⟩ := hk
  intro H locs ls hl hP hS
  refine va_put (D := g.2.1) (ci := 4) (C := RX4) (T := TX4) (N := 4) (v := .int v) (ty := .int) hx hb hts wB_4 tyX4 tyX4_ok nmX4 hown hK hP (fk_wD hinj _ _) hS i (wat_4 hi) rfl 1 (by decide) (hts _ wf_4_15) (fun _ h => h) rfl (by decide +kernel) rfl rfl (Nat.le_of_ble_eq_true rfl) hdg (fun H1 locs1 hP1 hD1 hS1 => kk H1 locs1 ls hl ?_ hS1)
  rw [← wst_4_1 hi]
  exact hP1
theorem wf_4_18 : Cond.fieldLink RX4 18 "PieFunnels$Reader" "text" "LPieFunnels$Shelf;" ∈ fkB := fkB_in (List.mem_of_getElem? (i := 201) (by decide +kernel)) rfl
def fk_txt {α : Type} (t : Option Nat) (F1 : Option α) (F2 : Nat → Option α) : Option α := match t with
  | none => F1
  | some t => if kdC t = 5 then F2 t else none
theorem f_4_18 {g : fkG} {k : fkK} {ρ : Type} {en : ρ → Option Value} {cc : ByteArray} {nL fr lo pc : Nat} {ret : Option FieldType} {lv : List (Nat × Value)} {stk : List Value} {st : fkS} (hk : fk_ok wC g k RX4 cc nL ret fr lo) {F1 : Option (ρ × fkS)} {F2 : Nat → Option (ρ × fkS)} (hdg : decode cc pc = .ok (.getfield 18, 3))
    (k1 : fk_J wC g en k (pc + 3) lv (.null :: stk) st F1) (k2 : ∀ t, kdC t = 5 → fk_J wC g en k (pc + 3) lv (fk_r g t :: stk) st (F2 t)) : fk_J wC g en k pc lv (fk_r g 34 :: stk) st (fk_txt (gT st) F1 F2) := by
  intro o ho hq
  have kk : fk_V wC g k (pc + 3) lv (va_rf ((gT st).map g.1) :: stk) st := by
    cases ht : gT st with
    | none =>
      rw [ht] at ho
      exact k1 o ho hq
    | some t =>
      rw [ht] at ho
      by_cases h5 : kdC t = 5
      · exact k2 t h5 o (by simpa [fk_txt, h5] using ho) hq
      · exact absurd ho (by simp [fk_txt, h5])
  obtain ⟨p, l, e, R, s, m, args, below, meth, c, rv, sf⟩ := k
  obtain ⟨hx, hb, hml, hown, hts, hK, hE, hr, hlk, hinj, hfr, hlo⟩ := hk
  intro H locs ls hl hP hS
  exact va_get (D := g.2.1) (ci := 4) (C := RX4) (T := TX4) (N := 4) (v := va_rf ((gT st).map g.1)) hx hb hts wB_4 hown hK hP 34 (wat_4 (i := 34) rfl) rfl 2 (by decide) (hts _ wf_4_18) (fun _ h => h) rfl hdg (kk H locs ls hl hP hS)
theorem p_4_18 {g : fkG} {k : fkK} {ρ : Type} {en : ρ → Option Value} {cc : ByteArray} {nL fr lo pc : Nat} {ret : Option FieldType} {lv : List (Nat × Value)} {stk : List Value} {st : fkS} (hk : fk_ok wC g k RX4 cc nL ret fr lo) {t : Nat} {F1 : fkS → Option (ρ × fkS)} (hdg : decode cc pc = .ok (.putfield 18, 3))
    (kk : ∀ st1, fk_J wC g en k (pc + 3) lv stk st1 (F1 st1)) : fk_J wC g en k pc lv (fk_r g t :: fk_r g 34 :: stk) st (fk_let (sT st (some t)) F1) := by
  intro o ho hq
  have kk := kk (sT st (some t)) o ho hq
  obtain ⟨p, l, e, R, s, m, args, below, meth, c, rv, sf⟩ := k
  obtain ⟨hx, hb, hml, hown, hts, hK, hE, hr, hlk, hinj, hfr, hlo⟩ := hk
  intro H locs ls hl hP hS
  refine va_put (D := g.2.1) (ci := 4) (C := RX4) (T := TX4) (N := 4) (v := fk_r g t) (ty := .object "PieFunnels$Shelf") hx hb hts wB_4 tyX4 tyX4_ok nmX4 hown hK hP (fk_wD hinj _ _) hS 34 (wat_4 (i := 34) rfl) rfl 2 (by decide) (hts _ wf_4_18) (fun _ h => h) rfl (by decide +kernel) rfl rfl (Nat.le_of_ble_eq_true rfl) hdg (fun H1 locs1 hP1 hD1 hS1 => kk H1 locs1 ls hl ?_ hS1)
  rw [← wst_4_T]
  exact hP1
theorem wf_4_22 : Cond.fieldLink RX4 22 "PieFunnels$Reader" "numbers" "[I" ∈ fkB := fkB_in (List.mem_of_getElem? (i := 202) (by decide +kernel)) rfl
theorem f_4_22 {g : fkG} {k : fkK} {ρ : Type} {en : ρ → Option Value} {cc : ByteArray} {nL fr lo pc : Nat} {ret : Option FieldType} {lv : List (Nat × Value)} {stk : List Value} {st : fkS} {F : Option (ρ × fkS)} (hk : fk_ok wC g k RX4 cc nL ret fr lo) {i : Nat} (hi : kdC i = 4) (hdg : decode cc pc = .ok (.getfield 22, 3))
    (kk : fk_J wC g en k (pc + 3) lv (fk_r g (i + 1) :: stk) st F) : fk_J wC g en k pc lv (fk_r g i :: stk) st F := by
  intro o ho hq
  have kk := kk o ho hq
  obtain ⟨p, l, e, R, s, m, args, below, meth, c, rv, sf⟩ := k
  obtain ⟨hx, hb, hml, hown, hts, hK, hE, hr, hlk, hinj, hfr, hlo⟩ := hk
  intro H locs ls hl hP hS
  exact va_get (D := g.2.1) (ci := 4) (C := RX4) (T := TX4) (N := 4) (v := fk_r g (i + 1)) hx hb hts wB_4 hown hK hP i (wat_4 hi) rfl 3 (by decide) (hts _ wf_4_22) (fun _ h => h) rfl hdg (kk H locs ls hl hP hS)
theorem wf_1_9 : Cond.fieldLink RX1 9 "PieFunnels$Moves" "trace" "[I" ∈ fkB := fkB_in (List.mem_of_getElem? (i := 218) (by decide +kernel)) rfl
theorem f_1_9 {g : fkG} {k : fkK} {ρ : Type} {en : ρ → Option Value} {cc : ByteArray} {nL fr lo pc : Nat} {ret : Option FieldType} {lv : List (Nat × Value)} {stk : List Value} {st : fkS} {F : Option (ρ × fkS)} (hk : fk_ok wC g k RX1 cc nL ret fr lo) {i : Nat} (hi : kdC i = 1) (hdg : decode cc pc = .ok (.getfield 9, 3))
    (kk : fk_J wC g en k (pc + 3) lv (fk_r g (i + 1) :: stk) st F) : fk_J wC g en k pc lv (fk_r g i :: stk) st F := by
  intro o ho hq
  have kk := kk o ho hq
  obtain ⟨p, l, e, R, s, m, args, below, meth, c, rv, sf⟩ := k
  obtain ⟨hx, hb, hml, hown, hts, hK, hE, hr, hlk, hinj, hfr, hlo⟩ := hk
  intro H locs ls hl hP hS
  exact va_get (D := g.2.1) (ci := 1) (C := RX1) (T := TX1) (N := 5) (v := fk_r g (i + 1)) hx hb hts wB_1 hown hK hP i (wat_1 hi) rfl 0 (by decide) (hts _ wf_1_9) (fun _ h => h) rfl hdg (kk H locs ls hl hP hS)
theorem wf_7_328 : Cond.fieldLinkNest RX7 328 "PieFunnels$Moves" "trace" "[I" "PieFunnels" ∈ fk_nests := List.mem_of_getElem? (i := 21) (by decide +kernel)
theorem f_7_328 {g : fkG} {k : fkK} {ρ : Type} {en : ρ → Option Value} {cc : ByteArray} {nL fr lo pc : Nat} {ret : Option FieldType} {lv : List (Nat × Value)} {stk : List Value} {st : fkS} {F : Option (ρ × fkS)} (hk : fk_ok wC g k RX7 cc nL ret fr lo) {i : Nat} (hi : kdC i = 1) (hdg : decode cc pc = .ok (.getfield 328, 3))
    (kk : fk_J wC g en k (pc + 3) lv (fk_r g (i + 1) :: stk) st F) : fk_J wC g en k pc lv (fk_r g i :: stk) st F := by
  intro o ho hq
  have kk := kk o ho hq
  obtain ⟨p, l, e, R, s, m, args, below, meth, c, rv, sf⟩ := k
  obtain ⟨hx, hb, hml, hown, hts, hK, hE, hr, hlk, hinj, hfr, hlo⟩ := hk
  intro H locs ls hl hP hS
  exact va_getN (D := g.2.1) (ci := 1) (C := RX1) (T := TX1) (N := 5) (v := fk_r g (i + 1)) hx hb hts wB_1 hown hK hP i (wat_1 hi) rfl 0 (by decide) (va_Nw.use rfl (hE.1 _ wf_7_328)) (fun _ h => h) rfl hdg (kk H locs ls hl hP hS)
theorem wf_1_15 : Cond.fieldLink RX1 15 "PieFunnels$Moves" "ran" "I" ∈ fkB := fkB_in (List.mem_of_getElem? (i := 220) (by decide +kernel)) rfl
theorem f_1_15 {g : fkG} {k : fkK} {ρ : Type} {en : ρ → Option Value} {cc : ByteArray} {nL fr lo pc : Nat} {ret : Option FieldType} {lv : List (Nat × Value)} {stk : List Value} {st : fkS} (hk : fk_ok wC g k RX1 cc nL ret fr lo) {i : Nat} {F1 : Int32 → Option (ρ × fkS)} (hi : kdC i = 1) (hdg : decode cc pc = .ok (.getfield 15, 3))
    (kk : ∀ x, fk_J wC g en k (pc + 3) lv (.int x :: stk) st (F1 x)) : fk_J wC g en k pc lv (fk_r g i :: stk) st (fk_let (gI st 21 i) F1) := by
  intro o ho hq
  have kk := kk (gI st 21 i) o ho hq
  obtain ⟨p, l, e, R, s, m, args, below, meth, c, rv, sf⟩ := k
  obtain ⟨hx, hb, hml, hown, hts, hK, hE, hr, hlk, hinj, hfr, hlo⟩ := hk
  intro H locs ls hl hP hS
  exact va_get (D := g.2.1) (ci := 1) (C := RX1) (T := TX1) (N := 5) (v := .int (gI st 21 i)) hx hb hts wB_1 hown hK hP i (wat_1 hi) rfl 1 (by decide) (hts _ wf_1_15) (fun _ h => h) rfl hdg (kk H locs ls hl hP hS)
theorem p_1_15 {g : fkG} {k : fkK} {ρ : Type} {en : ρ → Option Value} {cc : ByteArray} {nL fr lo pc : Nat} {ret : Option FieldType} {lv : List (Nat × Value)} {stk : List Value} {st : fkS} (hk : fk_ok wC g k RX1 cc nL ret fr lo) {i : Nat} {v : Int32} {F1 : fkS → Option (ρ × fkS)} (hi : kdC i = 1) (hdg : decode cc pc = .ok (.putfield 15, 3))
    (kk : ∀ st1, fk_J wC g en k (pc + 3) lv stk st1 (F1 st1)) : fk_J wC g en k pc lv (.int v :: fk_r g i :: stk) st (fk_let (sI st 21 i v) F1) := by
  intro o ho hq
  have kk := kk (sI st 21 i v) o ho hq
  obtain ⟨p, l, e, R, s, m, args, below, meth, c, rv, sf⟩ := k
  obtain ⟨hx, hb, hml, hown, hts, hK, hE, hr, hlk, hinj, hfr, hlo⟩ := hk
  intro H locs ls hl hP hS
  refine va_put (D := g.2.1) (ci := 1) (C := RX1) (T := TX1) (N := 5) (v := .int v) (ty := .int) hx hb hts wB_1 tyX1 tyX1_ok nmX1 hown hK hP (fk_wD hinj _ _) hS i (wat_1 hi) rfl 1 (by decide) (hts _ wf_1_15) (fun _ h => h) rfl (by decide +kernel) rfl rfl (Nat.le_of_ble_eq_true rfl) hdg (fun H1 locs1 hP1 hD1 hS1 => kk H1 locs1 ls hl ?_ hS1)
  rw [← wst_1_1 hi]
  exact hP1
theorem wf_7_334 : Cond.fieldLinkNest RX7 334 "PieFunnels$Moves" "ran" "I" "PieFunnels" ∈ fk_nests := List.mem_of_getElem? (i := 22) (by decide +kernel)
theorem f_7_334 {g : fkG} {k : fkK} {ρ : Type} {en : ρ → Option Value} {cc : ByteArray} {nL fr lo pc : Nat} {ret : Option FieldType} {lv : List (Nat × Value)} {stk : List Value} {st : fkS} (hk : fk_ok wC g k RX7 cc nL ret fr lo) {i : Nat} {F1 : Int32 → Option (ρ × fkS)} (hi : kdC i = 1) (hdg : decode cc pc = .ok (.getfield 334, 3))
    (kk : ∀ x, fk_J wC g en k (pc + 3) lv (.int x :: stk) st (F1 x)) : fk_J wC g en k pc lv (fk_r g i :: stk) st (fk_let (gI st 21 i) F1) := by
  intro o ho hq
  have kk := kk (gI st 21 i) o ho hq
  obtain ⟨p, l, e, R, s, m, args, below, meth, c, rv, sf⟩ := k
  obtain ⟨hx, hb, hml, hown, hts, hK, hE, hr, hlk, hinj, hfr, hlo⟩ := hk
  intro H locs ls hl hP hS
  exact va_getN (D := g.2.1) (ci := 1) (C := RX1) (T := TX1) (N := 5) (v := .int (gI st 21 i)) hx hb hts wB_1 hown hK hP i (wat_1 hi) rfl 1 (by decide) (va_Nw.use rfl (hE.1 _ wf_7_334)) (fun _ h => h) rfl hdg (kk H locs ls hl hP hS)
theorem p_7_334 {g : fkG} {k : fkK} {ρ : Type} {en : ρ → Option Value} {cc : ByteArray} {nL fr lo pc : Nat} {ret : Option FieldType} {lv : List (Nat × Value)} {stk : List Value} {st : fkS} (hk : fk_ok wC g k RX7 cc nL ret fr lo) {i : Nat} {v : Int32} {F1 : fkS → Option (ρ × fkS)} (hi : kdC i = 1) (hdg : decode cc pc = .ok (.putfield 334, 3))
    (kk : ∀ st1, fk_J wC g en k (pc + 3) lv stk st1 (F1 st1)) : fk_J wC g en k pc lv (.int v :: fk_r g i :: stk) st (fk_let (sI st 21 i v) F1) := by
  intro o ho hq
  have kk := kk (sI st 21 i v) o ho hq
  obtain ⟨p, l, e, R, s, m, args, below, meth, c, rv, sf⟩ := k
  obtain ⟨hx, hb, hml, hown, hts, hK, hE, hr, hlk, hinj, hfr, hlo⟩ := hk
  intro H locs ls hl hP hS
  refine va_putN (D := g.2.1) (ci := 1) (C := RX1) (T := TX1) (N := 5) (v := .int v) (ty := .int) hx hb hts wB_1 tyX1 tyX1_ok nmX1 hown hK hP (fk_wD hinj _ _) hS i (wat_1 hi) rfl 1 (by decide) (va_Nw.use rfl (hE.1 _ wf_7_334)) (fun _ h => h) rfl (by decide +kernel) rfl rfl (Nat.le_of_ble_eq_true rfl) hdg (fun H1 locs1 hP1 hD1 hS1 => kk H1 locs1 ls hl ?_ hS1)
  rw [← wst_1_1 hi]
  exact hP1
theorem wf_1_19 : Cond.fieldLink RX1 19 "PieFunnels$Moves" "kind" "I" ∈ fkB := fkB_in (List.mem_of_getElem? (i := 222) (by decide +kernel)) rfl
theorem f_1_19 {g : fkG} {k : fkK} {ρ : Type} {en : ρ → Option Value} {cc : ByteArray} {nL fr lo pc : Nat} {ret : Option FieldType} {lv : List (Nat × Value)} {stk : List Value} {st : fkS} (hk : fk_ok wC g k RX1 cc nL ret fr lo) {i : Nat} {F1 : Int32 → Option (ρ × fkS)} (hi : kdC i = 1) (hdg : decode cc pc = .ok (.getfield 19, 3))
    (kk : ∀ x, fk_J wC g en k (pc + 3) lv (.int x :: stk) st (F1 x)) : fk_J wC g en k pc lv (fk_r g i :: stk) st (fk_let (gI st 22 i) F1) := by
  intro o ho hq
  have kk := kk (gI st 22 i) o ho hq
  obtain ⟨p, l, e, R, s, m, args, below, meth, c, rv, sf⟩ := k
  obtain ⟨hx, hb, hml, hown, hts, hK, hE, hr, hlk, hinj, hfr, hlo⟩ := hk
  intro H locs ls hl hP hS
  exact va_get (D := g.2.1) (ci := 1) (C := RX1) (T := TX1) (N := 5) (v := .int (gI st 22 i)) hx hb hts wB_1 hown hK hP i (wat_1 hi) rfl 2 (by decide) (hts _ wf_1_19) (fun _ h => h) rfl hdg (kk H locs ls hl hP hS)
theorem p_1_19 {g : fkG} {k : fkK} {ρ : Type} {en : ρ → Option Value} {cc : ByteArray} {nL fr lo pc : Nat} {ret : Option FieldType} {lv : List (Nat × Value)} {stk : List Value} {st : fkS} (hk : fk_ok wC g k RX1 cc nL ret fr lo) {i : Nat} {v : Int32} {F1 : fkS → Option (ρ × fkS)} (hi : kdC i = 1) (hdg : decode cc pc = .ok (.putfield 19, 3))
    (kk : ∀ st1, fk_J wC g en k (pc + 3) lv stk st1 (F1 st1)) : fk_J wC g en k pc lv (.int v :: fk_r g i :: stk) st (fk_let (sI st 22 i v) F1) := by
  intro o ho hq
  have kk := kk (sI st 22 i v) o ho hq
  obtain ⟨p, l, e, R, s, m, args, below, meth, c, rv, sf⟩ := k
  obtain ⟨hx, hb, hml, hown, hts, hK, hE, hr, hlk, hinj, hfr, hlo⟩ := hk
  intro H locs ls hl hP hS
  refine va_put (D := g.2.1) (ci := 1) (C := RX1) (T := TX1) (N := 5) (v := .int v) (ty := .int) hx hb hts wB_1 tyX1 tyX1_ok nmX1 hown hK hP (fk_wD hinj _ _) hS i (wat_1 hi) rfl 2 (by decide) (hts _ wf_1_19) (fun _ h => h) rfl (by decide +kernel) rfl rfl (Nat.le_of_ble_eq_true rfl) hdg (fun H1 locs1 hP1 hD1 hS1 => kk H1 locs1 ls hl ?_ hS1)
  rw [← wst_1_2 hi]
  exact hP1
theorem wf_7_318 : Cond.fieldLinkNest RX7 318 "PieFunnels$Moves" "kind" "I" "PieFunnels" ∈ fk_nests := List.mem_of_getElem? (i := 23) (by decide +kernel)
theorem f_7_318 {g : fkG} {k : fkK} {ρ : Type} {en : ρ → Option Value} {cc : ByteArray} {nL fr lo pc : Nat} {ret : Option FieldType} {lv : List (Nat × Value)} {stk : List Value} {st : fkS} (hk : fk_ok wC g k RX7 cc nL ret fr lo) {i : Nat} {F1 : Int32 → Option (ρ × fkS)} (hi : kdC i = 1) (hdg : decode cc pc = .ok (.getfield 318, 3))
    (kk : ∀ x, fk_J wC g en k (pc + 3) lv (.int x :: stk) st (F1 x)) : fk_J wC g en k pc lv (fk_r g i :: stk) st (fk_let (gI st 22 i) F1) := by
  intro o ho hq
  have kk := kk (gI st 22 i) o ho hq
  obtain ⟨p, l, e, R, s, m, args, below, meth, c, rv, sf⟩ := k
  obtain ⟨hx, hb, hml, hown, hts, hK, hE, hr, hlk, hinj, hfr, hlo⟩ := hk
  intro H locs ls hl hP hS
  exact va_getN (D := g.2.1) (ci := 1) (C := RX1) (T := TX1) (N := 5) (v := .int (gI st 22 i)) hx hb hts wB_1 hown hK hP i (wat_1 hi) rfl 2 (by decide) (va_Nw.use rfl (hE.1 _ wf_7_318)) (fun _ h => h) rfl hdg (kk H locs ls hl hP hS)
theorem p_7_318 {g : fkG} {k : fkK} {ρ : Type} {en : ρ → Option Value} {cc : ByteArray} {nL fr lo pc : Nat} {ret : Option FieldType} {lv : List (Nat × Value)} {stk : List Value} {st : fkS} (hk : fk_ok wC g k RX7 cc nL ret fr lo) {i : Nat} {v : Int32} {F1 : fkS → Option (ρ × fkS)} (hi : kdC i = 1) (hdg : decode cc pc = .ok (.putfield 318, 3))
    (kk : ∀ st1, fk_J wC g en k (pc + 3) lv stk st1 (F1 st1)) : fk_J wC g en k pc lv (.int v :: fk_r g i :: stk) st (fk_let (sI st 22 i v) F1) := by
  intro o ho hq
  have kk := kk (sI st 22 i v) o ho hq
  obtain ⟨p, l, e, R, s, m, args, below, meth, c, rv, sf⟩ := k
  obtain ⟨hx, hb, hml, hown, hts, hK, hE, hr, hlk, hinj, hfr, hlo⟩ := hk
  intro H locs ls hl hP hS
  refine va_putN (D := g.2.1) (ci := 1) (C := RX1) (T := TX1) (N := 5) (v := .int v) (ty := .int) hx hb hts wB_1 tyX1 tyX1_ok nmX1 hown hK hP (fk_wD hinj _ _) hS i (wat_1 hi) rfl 2 (by decide) (va_Nw.use rfl (hE.1 _ wf_7_318)) (fun _ h => h) rfl (by decide +kernel) rfl rfl (Nat.le_of_ble_eq_true rfl) hdg (fun H1 locs1 hP1 hD1 hS1 => kk H1 locs1 ls hl ?_ hS1)
  rw [← wst_1_2 hi]
  exact hP1
theorem wf_1_22 : Cond.fieldLink RX1 22 "PieFunnels$Moves" "number" "I" ∈ fkB := fkB_in (List.mem_of_getElem? (i := 224) (by decide +kernel)) rfl
theorem f_1_22 {g : fkG} {k : fkK} {ρ : Type} {en : ρ → Option Value} {cc : ByteArray} {nL fr lo pc : Nat} {ret : Option FieldType} {lv : List (Nat × Value)} {stk : List Value} {st : fkS} (hk : fk_ok wC g k RX1 cc nL ret fr lo) {i : Nat} {F1 : Int32 → Option (ρ × fkS)} (hi : kdC i = 1) (hdg : decode cc pc = .ok (.getfield 22, 3))
    (kk : ∀ x, fk_J wC g en k (pc + 3) lv (.int x :: stk) st (F1 x)) : fk_J wC g en k pc lv (fk_r g i :: stk) st (fk_let (gI st 23 i) F1) := by
  intro o ho hq
  have kk := kk (gI st 23 i) o ho hq
  obtain ⟨p, l, e, R, s, m, args, below, meth, c, rv, sf⟩ := k
  obtain ⟨hx, hb, hml, hown, hts, hK, hE, hr, hlk, hinj, hfr, hlo⟩ := hk
  intro H locs ls hl hP hS
  exact va_get (D := g.2.1) (ci := 1) (C := RX1) (T := TX1) (N := 5) (v := .int (gI st 23 i)) hx hb hts wB_1 hown hK hP i (wat_1 hi) rfl 3 (by decide) (hts _ wf_1_22) (fun _ h => h) rfl hdg (kk H locs ls hl hP hS)
theorem p_1_22 {g : fkG} {k : fkK} {ρ : Type} {en : ρ → Option Value} {cc : ByteArray} {nL fr lo pc : Nat} {ret : Option FieldType} {lv : List (Nat × Value)} {stk : List Value} {st : fkS} (hk : fk_ok wC g k RX1 cc nL ret fr lo) {i : Nat} {v : Int32} {F1 : fkS → Option (ρ × fkS)} (hi : kdC i = 1) (hdg : decode cc pc = .ok (.putfield 22, 3))
    (kk : ∀ st1, fk_J wC g en k (pc + 3) lv stk st1 (F1 st1)) : fk_J wC g en k pc lv (.int v :: fk_r g i :: stk) st (fk_let (sI st 23 i v) F1) := by
  intro o ho hq
  have kk := kk (sI st 23 i v) o ho hq
  obtain ⟨p, l, e, R, s, m, args, below, meth, c, rv, sf⟩ := k
  obtain ⟨hx, hb, hml, hown, hts, hK, hE, hr, hlk, hinj, hfr, hlo⟩ := hk
  intro H locs ls hl hP hS
  refine va_put (D := g.2.1) (ci := 1) (C := RX1) (T := TX1) (N := 5) (v := .int v) (ty := .int) hx hb hts wB_1 tyX1 tyX1_ok nmX1 hown hK hP (fk_wD hinj _ _) hS i (wat_1 hi) rfl 3 (by decide) (hts _ wf_1_22) (fun _ h => h) rfl (by decide +kernel) rfl rfl (Nat.le_of_ble_eq_true rfl) hdg (fun H1 locs1 hP1 hD1 hS1 => kk H1 locs1 ls hl ?_ hS1)
  rw [← wst_1_3 hi]
  exact hP1
theorem wf_1_25 : Cond.fieldLink RX1 25 "PieFunnels$Moves" "a" "I" ∈ fkB := fkB_in (List.mem_of_getElem? (i := 225) (by decide +kernel)) rfl
theorem f_1_25 {g : fkG} {k : fkK} {ρ : Type} {en : ρ → Option Value} {cc : ByteArray} {nL fr lo pc : Nat} {ret : Option FieldType} {lv : List (Nat × Value)} {stk : List Value} {st : fkS} (hk : fk_ok wC g k RX1 cc nL ret fr lo) {i : Nat} {F1 : Int32 → Option (ρ × fkS)} (hi : kdC i = 1) (hdg : decode cc pc = .ok (.getfield 25, 3))
    (kk : ∀ x, fk_J wC g en k (pc + 3) lv (.int x :: stk) st (F1 x)) : fk_J wC g en k pc lv (fk_r g i :: stk) st (fk_let (gI st 24 i) F1) := by
  intro o ho hq
  have kk := kk (gI st 24 i) o ho hq
  obtain ⟨p, l, e, R, s, m, args, below, meth, c, rv, sf⟩ := k
  obtain ⟨hx, hb, hml, hown, hts, hK, hE, hr, hlk, hinj, hfr, hlo⟩ := hk
  intro H locs ls hl hP hS
  exact va_get (D := g.2.1) (ci := 1) (C := RX1) (T := TX1) (N := 5) (v := .int (gI st 24 i)) hx hb hts wB_1 hown hK hP i (wat_1 hi) rfl 4 (by decide) (hts _ wf_1_25) (fun _ h => h) rfl hdg (kk H locs ls hl hP hS)
theorem p_1_25 {g : fkG} {k : fkK} {ρ : Type} {en : ρ → Option Value} {cc : ByteArray} {nL fr lo pc : Nat} {ret : Option FieldType} {lv : List (Nat × Value)} {stk : List Value} {st : fkS} (hk : fk_ok wC g k RX1 cc nL ret fr lo) {i : Nat} {v : Int32} {F1 : fkS → Option (ρ × fkS)} (hi : kdC i = 1) (hdg : decode cc pc = .ok (.putfield 25, 3))
    (kk : ∀ st1, fk_J wC g en k (pc + 3) lv stk st1 (F1 st1)) : fk_J wC g en k pc lv (.int v :: fk_r g i :: stk) st (fk_let (sI st 24 i v) F1) := by
  intro o ho hq
  have kk := kk (sI st 24 i v) o ho hq
  obtain ⟨p, l, e, R, s, m, args, below, meth, c, rv, sf⟩ := k
  obtain ⟨hx, hb, hml, hown, hts, hK, hE, hr, hlk, hinj, hfr, hlo⟩ := hk
  intro H locs ls hl hP hS
  refine va_put (D := g.2.1) (ci := 1) (C := RX1) (T := TX1) (N := 5) (v := .int v) (ty := .int) hx hb hts wB_1 tyX1 tyX1_ok nmX1 hown hK hP (fk_wD hinj _ _) hS i (wat_1 hi) rfl 4 (by decide) (hts _ wf_1_25) (fun _ h => h) rfl (by decide +kernel) rfl rfl (Nat.le_of_ble_eq_true rfl) hdg (fun H1 locs1 hP1 hD1 hS1 => kk H1 locs1 ls hl ?_ hS1)
  rw [← wst_1_4 hi]
  exact hP1
theorem wf_3_9 : Cond.fieldLink RX3 9 "PieFunnels$Pie" "stuffings" "[I" ∈ fkB := fkB_in (List.mem_of_getElem? (i := 243) (by decide +kernel)) rfl
theorem f_3_9 {g : fkG} {k : fkK} {ρ : Type} {en : ρ → Option Value} {cc : ByteArray} {nL fr lo pc : Nat} {ret : Option FieldType} {lv : List (Nat × Value)} {stk : List Value} {st : fkS} {F : Option (ρ × fkS)} (hk : fk_ok wC g k RX3 cc nL ret fr lo) {i : Nat} (hi : kdC i = 3) (hdg : decode cc pc = .ok (.getfield 9, 3))
    (kk : fk_J wC g en k (pc + 3) lv (fk_r g (i + 1) :: stk) st F) : fk_J wC g en k pc lv (fk_r g i :: stk) st F := by
  intro o ho hq
  have kk := kk o ho hq
  obtain ⟨p, l, e, R, s, m, args, below, meth, c, rv, sf⟩ := k
  obtain ⟨hx, hb, hml, hown, hts, hK, hE, hr, hlk, hinj, hfr, hlo⟩ := hk
  intro H locs ls hl hP hS
  exact va_get (D := g.2.1) (ci := 3) (C := RX3) (T := TX3) (N := 2) (v := fk_r g (i + 1)) hx hb hts wB_3 hown hK hP i (wat_3 hi) rfl 0 (by decide) (hts _ wf_3_9) (fun _ h => h) rfl hdg (kk H locs ls hl hP hS)
theorem wf_3_15 : Cond.fieldLink RX3 15 "PieFunnels$Pie" "layers" "I" ∈ fkB := fkB_in (List.mem_of_getElem? (i := 244) (by decide +kernel)) rfl
theorem f_3_15 {g : fkG} {k : fkK} {ρ : Type} {en : ρ → Option Value} {cc : ByteArray} {nL fr lo pc : Nat} {ret : Option FieldType} {lv : List (Nat × Value)} {stk : List Value} {st : fkS} (hk : fk_ok wC g k RX3 cc nL ret fr lo) {i : Nat} {F1 : Int32 → Option (ρ × fkS)} (hi : kdC i = 3) (hdg : decode cc pc = .ok (.getfield 15, 3))
    (kk : ∀ x, fk_J wC g en k (pc + 3) lv (.int x :: stk) st (F1 x)) : fk_J wC g en k pc lv (fk_r g i :: stk) st (fk_let (gI st 61 i) F1) := by
  intro o ho hq
  have kk := kk (gI st 61 i) o ho hq
  obtain ⟨p, l, e, R, s, m, args, below, meth, c, rv, sf⟩ := k
  obtain ⟨hx, hb, hml, hown, hts, hK, hE, hr, hlk, hinj, hfr, hlo⟩ := hk
  intro H locs ls hl hP hS
  exact va_get (D := g.2.1) (ci := 3) (C := RX3) (T := TX3) (N := 2) (v := .int (gI st 61 i)) hx hb hts wB_3 hown hK hP i (wat_3 hi) rfl 1 (by decide) (hts _ wf_3_15) (fun _ h => h) rfl hdg (kk H locs ls hl hP hS)
theorem p_3_15 {g : fkG} {k : fkK} {ρ : Type} {en : ρ → Option Value} {cc : ByteArray} {nL fr lo pc : Nat} {ret : Option FieldType} {lv : List (Nat × Value)} {stk : List Value} {st : fkS} (hk : fk_ok wC g k RX3 cc nL ret fr lo) {i : Nat} {v : Int32} {F1 : fkS → Option (ρ × fkS)} (hi : kdC i = 3) (hdg : decode cc pc = .ok (.putfield 15, 3))
    (kk : ∀ st1, fk_J wC g en k (pc + 3) lv stk st1 (F1 st1)) : fk_J wC g en k pc lv (.int v :: fk_r g i :: stk) st (fk_let (sI st 61 i v) F1) := by
  intro o ho hq
  have kk := kk (sI st 61 i v) o ho hq
  obtain ⟨p, l, e, R, s, m, args, below, meth, c, rv, sf⟩ := k
  obtain ⟨hx, hb, hml, hown, hts, hK, hE, hr, hlk, hinj, hfr, hlo⟩ := hk
  intro H locs ls hl hP hS
  refine va_put (D := g.2.1) (ci := 3) (C := RX3) (T := TX3) (N := 2) (v := .int v) (ty := .int) hx hb hts wB_3 tyX3 tyX3_ok nmX3 hown hK hP (fk_wD hinj _ _) hS i (wat_3 hi) rfl 1 (by decide) (hts _ wf_3_15) (fun _ h => h) rfl (by decide +kernel) rfl rfl (Nat.le_of_ble_eq_true rfl) hdg (fun H1 locs1 hP1 hD1 hS1 => kk H1 locs1 ls hl ?_ hS1)
  rw [← wst_3_1 hi]
  exact hP1
theorem wf_6_69 : Cond.fieldLinkNest RX6 69 "PieFunnels$Pie" "layers" "I" "PieFunnels" ∈ fk_nests := List.mem_of_getElem? (i := 24) (by decide +kernel)
theorem f_6_69 {g : fkG} {k : fkK} {ρ : Type} {en : ρ → Option Value} {cc : ByteArray} {nL fr lo pc : Nat} {ret : Option FieldType} {lv : List (Nat × Value)} {stk : List Value} {st : fkS} (hk : fk_ok wC g k RX6 cc nL ret fr lo) {i : Nat} {F1 : Int32 → Option (ρ × fkS)} (hi : kdC i = 3) (hdg : decode cc pc = .ok (.getfield 69, 3))
    (kk : ∀ x, fk_J wC g en k (pc + 3) lv (.int x :: stk) st (F1 x)) : fk_J wC g en k pc lv (fk_r g i :: stk) st (fk_let (gI st 61 i) F1) := by
  intro o ho hq
  have kk := kk (gI st 61 i) o ho hq
  obtain ⟨p, l, e, R, s, m, args, below, meth, c, rv, sf⟩ := k
  obtain ⟨hx, hb, hml, hown, hts, hK, hE, hr, hlk, hinj, hfr, hlo⟩ := hk
  intro H locs ls hl hP hS
  exact va_getN (D := g.2.1) (ci := 3) (C := RX3) (T := TX3) (N := 2) (v := .int (gI st 61 i)) hx hb hts wB_3 hown hK hP i (wat_3 hi) rfl 1 (by decide) (va_Nw.use rfl (hE.1 _ wf_6_69)) (fun _ h => h) rfl hdg (kk H locs ls hl hP hS)
theorem p_6_69 {g : fkG} {k : fkK} {ρ : Type} {en : ρ → Option Value} {cc : ByteArray} {nL fr lo pc : Nat} {ret : Option FieldType} {lv : List (Nat × Value)} {stk : List Value} {st : fkS} (hk : fk_ok wC g k RX6 cc nL ret fr lo) {i : Nat} {v : Int32} {F1 : fkS → Option (ρ × fkS)} (hi : kdC i = 3) (hdg : decode cc pc = .ok (.putfield 69, 3))
    (kk : ∀ st1, fk_J wC g en k (pc + 3) lv stk st1 (F1 st1)) : fk_J wC g en k pc lv (.int v :: fk_r g i :: stk) st (fk_let (sI st 61 i v) F1) := by
  intro o ho hq
  have kk := kk (sI st 61 i v) o ho hq
  obtain ⟨p, l, e, R, s, m, args, below, meth, c, rv, sf⟩ := k
  obtain ⟨hx, hb, hml, hown, hts, hK, hE, hr, hlk, hinj, hfr, hlo⟩ := hk
  intro H locs ls hl hP hS
  refine va_putN (D := g.2.1) (ci := 3) (C := RX3) (T := TX3) (N := 2) (v := .int v) (ty := .int) hx hb hts wB_3 tyX3 tyX3_ok nmX3 hown hK hP (fk_wD hinj _ _) hS i (wat_3 hi) rfl 1 (by decide) (va_Nw.use rfl (hE.1 _ wf_6_69)) (fun _ h => h) rfl (by decide +kernel) rfl rfl (Nat.le_of_ble_eq_true rfl) hdg (fun H1 locs1 hP1 hD1 hS1 => kk H1 locs1 ls hl ?_ hS1)
  rw [← wst_3_1 hi]
  exact hP1
theorem wf_7_228 : Cond.fieldLinkNest RX7 228 "PieFunnels$Pie" "layers" "I" "PieFunnels" ∈ fk_nests := List.mem_of_getElem? (i := 25) (by decide +kernel)
theorem f_7_228 {g : fkG} {k : fkK} {ρ : Type} {en : ρ → Option Value} {cc : ByteArray} {nL fr lo pc : Nat} {ret : Option FieldType} {lv : List (Nat × Value)} {stk : List Value} {st : fkS} (hk : fk_ok wC g k RX7 cc nL ret fr lo) {i : Nat} {F1 : Int32 → Option (ρ × fkS)} (hi : kdC i = 3) (hdg : decode cc pc = .ok (.getfield 228, 3))
    (kk : ∀ x, fk_J wC g en k (pc + 3) lv (.int x :: stk) st (F1 x)) : fk_J wC g en k pc lv (fk_r g i :: stk) st (fk_let (gI st 61 i) F1) := by
  intro o ho hq
  have kk := kk (gI st 61 i) o ho hq
  obtain ⟨p, l, e, R, s, m, args, below, meth, c, rv, sf⟩ := k
  obtain ⟨hx, hb, hml, hown, hts, hK, hE, hr, hlk, hinj, hfr, hlo⟩ := hk
  intro H locs ls hl hP hS
  exact va_getN (D := g.2.1) (ci := 3) (C := RX3) (T := TX3) (N := 2) (v := .int (gI st 61 i)) hx hb hts wB_3 hown hK hP i (wat_3 hi) rfl 1 (by decide) (va_Nw.use rfl (hE.1 _ wf_7_228)) (fun _ h => h) rfl hdg (kk H locs ls hl hP hS)
theorem p_7_228 {g : fkG} {k : fkK} {ρ : Type} {en : ρ → Option Value} {cc : ByteArray} {nL fr lo pc : Nat} {ret : Option FieldType} {lv : List (Nat × Value)} {stk : List Value} {st : fkS} (hk : fk_ok wC g k RX7 cc nL ret fr lo) {i : Nat} {v : Int32} {F1 : fkS → Option (ρ × fkS)} (hi : kdC i = 3) (hdg : decode cc pc = .ok (.putfield 228, 3))
    (kk : ∀ st1, fk_J wC g en k (pc + 3) lv stk st1 (F1 st1)) : fk_J wC g en k pc lv (.int v :: fk_r g i :: stk) st (fk_let (sI st 61 i v) F1) := by
  intro o ho hq
  have kk := kk (sI st 61 i v) o ho hq
  obtain ⟨p, l, e, R, s, m, args, below, meth, c, rv, sf⟩ := k
  obtain ⟨hx, hb, hml, hown, hts, hK, hE, hr, hlk, hinj, hfr, hlo⟩ := hk
  intro H locs ls hl hP hS
  refine va_putN (D := g.2.1) (ci := 3) (C := RX3) (T := TX3) (N := 2) (v := .int v) (ty := .int) hx hb hts wB_3 tyX3 tyX3_ok nmX3 hown hK hP (fk_wD hinj _ _) hS i (wat_3 hi) rfl 1 (by decide) (va_Nw.use rfl (hE.1 _ wf_7_228)) (fun _ h => h) rfl (by decide +kernel) rfl rfl (Nat.le_of_ble_eq_true rfl) hdg (fun H1 locs1 hP1 hD1 hS1 => kk H1 locs1 ls hl ?_ hS1)
  rw [← wst_3_1 hi]
  exact hP1
theorem wf_6_9 : Cond.fieldLink RX6 9 "PieFunnels$Voice" "kind" "I" ∈ fkB := fkB_in (List.mem_of_getElem? (i := 258) (by decide +kernel)) rfl
theorem f_6_9 {g : fkG} {k : fkK} {ρ : Type} {en : ρ → Option Value} {cc : ByteArray} {nL fr lo pc : Nat} {ret : Option FieldType} {lv : List (Nat × Value)} {stk : List Value} {st : fkS} (hk : fk_ok wC g k RX6 cc nL ret fr lo) {i : Nat} {F1 : Int32 → Option (ρ × fkS)} (hi : kdC i = 6) (hdg : decode cc pc = .ok (.getfield 9, 3))
    (kk : ∀ x, fk_J wC g en k (pc + 3) lv (.int x :: stk) st (F1 x)) : fk_J wC g en k pc lv (fk_r g i :: stk) st (fk_let (gI st 120 i) F1) := by
  intro o ho hq
  have kk := kk (gI st 120 i) o ho hq
  obtain ⟨p, l, e, R, s, m, args, below, meth, c, rv, sf⟩ := k
  obtain ⟨hx, hb, hml, hown, hts, hK, hE, hr, hlk, hinj, hfr, hlo⟩ := hk
  intro H locs ls hl hP hS
  exact va_get (D := g.2.1) (ci := 6) (C := RX6) (T := TX6) (N := 6) (v := .int (gI st 120 i)) hx hb hts wB_6 hown hK hP i (wat_6 hi) rfl 0 (by decide) (hts _ wf_6_9) (fun _ h => h) rfl hdg (kk H locs ls hl hP hS)
theorem p_6_9 {g : fkG} {k : fkK} {ρ : Type} {en : ρ → Option Value} {cc : ByteArray} {nL fr lo pc : Nat} {ret : Option FieldType} {lv : List (Nat × Value)} {stk : List Value} {st : fkS} (hk : fk_ok wC g k RX6 cc nL ret fr lo) {i : Nat} {v : Int32} {F1 : fkS → Option (ρ × fkS)} (hi : kdC i = 6) (hdg : decode cc pc = .ok (.putfield 9, 3))
    (kk : ∀ st1, fk_J wC g en k (pc + 3) lv stk st1 (F1 st1)) : fk_J wC g en k pc lv (.int v :: fk_r g i :: stk) st (fk_let (sI st 120 i v) F1) := by
  intro o ho hq
  have kk := kk (sI st 120 i v) o ho hq
  obtain ⟨p, l, e, R, s, m, args, below, meth, c, rv, sf⟩ := k
  obtain ⟨hx, hb, hml, hown, hts, hK, hE, hr, hlk, hinj, hfr, hlo⟩ := hk
  intro H locs ls hl hP hS
  refine va_put (D := g.2.1) (ci := 6) (C := RX6) (T := TX6) (N := 6) (v := .int v) (ty := .int) hx hb hts wB_6 tyX6 tyX6_ok nmX6 hown hK hP (fk_wD hinj _ _) hS i (wat_6 hi) rfl 0 (by decide) (hts _ wf_6_9) (fun _ h => h) rfl (by decide +kernel) rfl rfl (Nat.le_of_ble_eq_true rfl) hdg (fun H1 locs1 hP1 hD1 hS1 => kk H1 locs1 ls hl ?_ hS1)
  rw [← wst_6_0 hi]
  exact hP1
theorem wf_7_337 : Cond.fieldLinkNest RX7 337 "PieFunnels$Voice" "kind" "I" "PieFunnels" ∈ fk_nests := List.mem_of_getElem? (i := 26) (by decide +kernel)
theorem f_7_337 {g : fkG} {k : fkK} {ρ : Type} {en : ρ → Option Value} {cc : ByteArray} {nL fr lo pc : Nat} {ret : Option FieldType} {lv : List (Nat × Value)} {stk : List Value} {st : fkS} (hk : fk_ok wC g k RX7 cc nL ret fr lo) {i : Nat} {F1 : Int32 → Option (ρ × fkS)} (hi : kdC i = 6) (hdg : decode cc pc = .ok (.getfield 337, 3))
    (kk : ∀ x, fk_J wC g en k (pc + 3) lv (.int x :: stk) st (F1 x)) : fk_J wC g en k pc lv (fk_r g i :: stk) st (fk_let (gI st 120 i) F1) := by
  intro o ho hq
  have kk := kk (gI st 120 i) o ho hq
  obtain ⟨p, l, e, R, s, m, args, below, meth, c, rv, sf⟩ := k
  obtain ⟨hx, hb, hml, hown, hts, hK, hE, hr, hlk, hinj, hfr, hlo⟩ := hk
  intro H locs ls hl hP hS
  exact va_getN (D := g.2.1) (ci := 6) (C := RX6) (T := TX6) (N := 6) (v := .int (gI st 120 i)) hx hb hts wB_6 hown hK hP i (wat_6 hi) rfl 0 (by decide) (va_Nw.use rfl (hE.1 _ wf_7_337)) (fun _ h => h) rfl hdg (kk H locs ls hl hP hS)
theorem p_7_337 {g : fkG} {k : fkK} {ρ : Type} {en : ρ → Option Value} {cc : ByteArray} {nL fr lo pc : Nat} {ret : Option FieldType} {lv : List (Nat × Value)} {stk : List Value} {st : fkS} (hk : fk_ok wC g k RX7 cc nL ret fr lo) {i : Nat} {v : Int32} {F1 : fkS → Option (ρ × fkS)} (hi : kdC i = 6) (hdg : decode cc pc = .ok (.putfield 337, 3))
    (kk : ∀ st1, fk_J wC g en k (pc + 3) lv stk st1 (F1 st1)) : fk_J wC g en k pc lv (.int v :: fk_r g i :: stk) st (fk_let (sI st 120 i v) F1) := by
  intro o ho hq
  have kk := kk (sI st 120 i v) o ho hq
  obtain ⟨p, l, e, R, s, m, args, below, meth, c, rv, sf⟩ := k
  obtain ⟨hx, hb, hml, hown, hts, hK, hE, hr, hlk, hinj, hfr, hlo⟩ := hk
  intro H locs ls hl hP hS
  refine va_putN (D := g.2.1) (ci := 6) (C := RX6) (T := TX6) (N := 6) (v := .int v) (ty := .int) hx hb hts wB_6 tyX6 tyX6_ok nmX6 hown hK hP (fk_wD hinj _ _) hS i (wat_6 hi) rfl 0 (by decide) (va_Nw.use rfl (hE.1 _ wf_7_337)) (fun _ h => h) rfl (by decide +kernel) rfl rfl (Nat.le_of_ble_eq_true rfl) hdg (fun H1 locs1 hP1 hD1 hS1 => kk H1 locs1 ls hl ?_ hS1)
  rw [← wst_6_0 hi]
  exact hP1
theorem wf_6_15 : Cond.fieldLink RX6 15 "PieFunnels$Voice" "a" "I" ∈ fkB := fkB_in (List.mem_of_getElem? (i := 260) (by decide +kernel)) rfl
theorem f_6_15 {g : fkG} {k : fkK} {ρ : Type} {en : ρ → Option Value} {cc : ByteArray} {nL fr lo pc : Nat} {ret : Option FieldType} {lv : List (Nat × Value)} {stk : List Value} {st : fkS} (hk : fk_ok wC g k RX6 cc nL ret fr lo) {i : Nat} {F1 : Int32 → Option (ρ × fkS)} (hi : kdC i = 6) (hdg : decode cc pc = .ok (.getfield 15, 3))
    (kk : ∀ x, fk_J wC g en k (pc + 3) lv (.int x :: stk) st (F1 x)) : fk_J wC g en k pc lv (fk_r g i :: stk) st (fk_let (gI st 121 i) F1) := by
  intro o ho hq
  have kk := kk (gI st 121 i) o ho hq
  obtain ⟨p, l, e, R, s, m, args, below, meth, c, rv, sf⟩ := k
  obtain ⟨hx, hb, hml, hown, hts, hK, hE, hr, hlk, hinj, hfr, hlo⟩ := hk
  intro H locs ls hl hP hS
  exact va_get (D := g.2.1) (ci := 6) (C := RX6) (T := TX6) (N := 6) (v := .int (gI st 121 i)) hx hb hts wB_6 hown hK hP i (wat_6 hi) rfl 1 (by decide) (hts _ wf_6_15) (fun _ h => h) rfl hdg (kk H locs ls hl hP hS)
theorem p_6_15 {g : fkG} {k : fkK} {ρ : Type} {en : ρ → Option Value} {cc : ByteArray} {nL fr lo pc : Nat} {ret : Option FieldType} {lv : List (Nat × Value)} {stk : List Value} {st : fkS} (hk : fk_ok wC g k RX6 cc nL ret fr lo) {i : Nat} {v : Int32} {F1 : fkS → Option (ρ × fkS)} (hi : kdC i = 6) (hdg : decode cc pc = .ok (.putfield 15, 3))
    (kk : ∀ st1, fk_J wC g en k (pc + 3) lv stk st1 (F1 st1)) : fk_J wC g en k pc lv (.int v :: fk_r g i :: stk) st (fk_let (sI st 121 i v) F1) := by
  intro o ho hq
  have kk := kk (sI st 121 i v) o ho hq
  obtain ⟨p, l, e, R, s, m, args, below, meth, c, rv, sf⟩ := k
  obtain ⟨hx, hb, hml, hown, hts, hK, hE, hr, hlk, hinj, hfr, hlo⟩ := hk
  intro H locs ls hl hP hS
  refine va_put (D := g.2.1) (ci := 6) (C := RX6) (T := TX6) (N := 6) (v := .int v) (ty := .int) hx hb hts wB_6 tyX6 tyX6_ok nmX6 hown hK hP (fk_wD hinj _ _) hS i (wat_6 hi) rfl 1 (by decide) (hts _ wf_6_15) (fun _ h => h) rfl (by decide +kernel) rfl rfl (Nat.le_of_ble_eq_true rfl) hdg (fun H1 locs1 hP1 hD1 hS1 => kk H1 locs1 ls hl ?_ hS1)
  rw [← wst_6_1 hi]
  exact hP1
theorem wf_7_168 : Cond.fieldLinkNest RX7 168 "PieFunnels$Voice" "a" "I" "PieFunnels" ∈ fk_nests := List.mem_of_getElem? (i := 27) (by decide +kernel)
theorem f_7_168 {g : fkG} {k : fkK} {ρ : Type} {en : ρ → Option Value} {cc : ByteArray} {nL fr lo pc : Nat} {ret : Option FieldType} {lv : List (Nat × Value)} {stk : List Value} {st : fkS} (hk : fk_ok wC g k RX7 cc nL ret fr lo) {i : Nat} {F1 : Int32 → Option (ρ × fkS)} (hi : kdC i = 6) (hdg : decode cc pc = .ok (.getfield 168, 3))
    (kk : ∀ x, fk_J wC g en k (pc + 3) lv (.int x :: stk) st (F1 x)) : fk_J wC g en k pc lv (fk_r g i :: stk) st (fk_let (gI st 121 i) F1) := by
  intro o ho hq
  have kk := kk (gI st 121 i) o ho hq
  obtain ⟨p, l, e, R, s, m, args, below, meth, c, rv, sf⟩ := k
  obtain ⟨hx, hb, hml, hown, hts, hK, hE, hr, hlk, hinj, hfr, hlo⟩ := hk
  intro H locs ls hl hP hS
  exact va_getN (D := g.2.1) (ci := 6) (C := RX6) (T := TX6) (N := 6) (v := .int (gI st 121 i)) hx hb hts wB_6 hown hK hP i (wat_6 hi) rfl 1 (by decide) (va_Nw.use rfl (hE.1 _ wf_7_168)) (fun _ h => h) rfl hdg (kk H locs ls hl hP hS)
theorem p_7_168 {g : fkG} {k : fkK} {ρ : Type} {en : ρ → Option Value} {cc : ByteArray} {nL fr lo pc : Nat} {ret : Option FieldType} {lv : List (Nat × Value)} {stk : List Value} {st : fkS} (hk : fk_ok wC g k RX7 cc nL ret fr lo) {i : Nat} {v : Int32} {F1 : fkS → Option (ρ × fkS)} (hi : kdC i = 6) (hdg : decode cc pc = .ok (.putfield 168, 3))
    (kk : ∀ st1, fk_J wC g en k (pc + 3) lv stk st1 (F1 st1)) : fk_J wC g en k pc lv (.int v :: fk_r g i :: stk) st (fk_let (sI st 121 i v) F1) := by
  intro o ho hq
  have kk := kk (sI st 121 i v) o ho hq
  obtain ⟨p, l, e, R, s, m, args, below, meth, c, rv, sf⟩ := k
  obtain ⟨hx, hb, hml, hown, hts, hK, hE, hr, hlk, hinj, hfr, hlo⟩ := hk
  intro H locs ls hl hP hS
  refine va_putN (D := g.2.1) (ci := 6) (C := RX6) (T := TX6) (N := 6) (v := .int v) (ty := .int) hx hb hts wB_6 tyX6 tyX6_ok nmX6 hown hK hP (fk_wD hinj _ _) hS i (wat_6 hi) rfl 1 (by decide) (va_Nw.use rfl (hE.1 _ wf_7_168)) (fun _ h => h) rfl (by decide +kernel) rfl rfl (Nat.le_of_ble_eq_true rfl) hdg (fun H1 locs1 hP1 hD1 hS1 => kk H1 locs1 ls hl ?_ hS1)
  rw [← wst_6_1 hi]
  exact hP1
theorem wf_6_18 : Cond.fieldLink RX6 18 "PieFunnels$Voice" "mouth" "I" ∈ fkB := fkB_in (List.mem_of_getElem? (i := 262) (by decide +kernel)) rfl
theorem f_6_18 {g : fkG} {k : fkK} {ρ : Type} {en : ρ → Option Value} {cc : ByteArray} {nL fr lo pc : Nat} {ret : Option FieldType} {lv : List (Nat × Value)} {stk : List Value} {st : fkS} (hk : fk_ok wC g k RX6 cc nL ret fr lo) {i : Nat} {F1 : Int32 → Option (ρ × fkS)} (hi : kdC i = 6) (hdg : decode cc pc = .ok (.getfield 18, 3))
    (kk : ∀ x, fk_J wC g en k (pc + 3) lv (.int x :: stk) st (F1 x)) : fk_J wC g en k pc lv (fk_r g i :: stk) st (fk_let (gI st 122 i) F1) := by
  intro o ho hq
  have kk := kk (gI st 122 i) o ho hq
  obtain ⟨p, l, e, R, s, m, args, below, meth, c, rv, sf⟩ := k
  obtain ⟨hx, hb, hml, hown, hts, hK, hE, hr, hlk, hinj, hfr, hlo⟩ := hk
  intro H locs ls hl hP hS
  exact va_get (D := g.2.1) (ci := 6) (C := RX6) (T := TX6) (N := 6) (v := .int (gI st 122 i)) hx hb hts wB_6 hown hK hP i (wat_6 hi) rfl 2 (by decide) (hts _ wf_6_18) (fun _ h => h) rfl hdg (kk H locs ls hl hP hS)
theorem p_6_18 {g : fkG} {k : fkK} {ρ : Type} {en : ρ → Option Value} {cc : ByteArray} {nL fr lo pc : Nat} {ret : Option FieldType} {lv : List (Nat × Value)} {stk : List Value} {st : fkS} (hk : fk_ok wC g k RX6 cc nL ret fr lo) {i : Nat} {v : Int32} {F1 : fkS → Option (ρ × fkS)} (hi : kdC i = 6) (hdg : decode cc pc = .ok (.putfield 18, 3))
    (kk : ∀ st1, fk_J wC g en k (pc + 3) lv stk st1 (F1 st1)) : fk_J wC g en k pc lv (.int v :: fk_r g i :: stk) st (fk_let (sI st 122 i v) F1) := by
  intro o ho hq
  have kk := kk (sI st 122 i v) o ho hq
  obtain ⟨p, l, e, R, s, m, args, below, meth, c, rv, sf⟩ := k
  obtain ⟨hx, hb, hml, hown, hts, hK, hE, hr, hlk, hinj, hfr, hlo⟩ := hk
  intro H locs ls hl hP hS
  refine va_put (D := g.2.1) (ci := 6) (C := RX6) (T := TX6) (N := 6) (v := .int v) (ty := .int) hx hb hts wB_6 tyX6 tyX6_ok nmX6 hown hK hP (fk_wD hinj _ _) hS i (wat_6 hi) rfl 2 (by decide) (hts _ wf_6_18) (fun _ h => h) rfl (by decide +kernel) rfl rfl (Nat.le_of_ble_eq_true rfl) hdg (fun H1 locs1 hP1 hD1 hS1 => kk H1 locs1 ls hl ?_ hS1)
  rw [← wst_6_2 hi]
  exact hP1
theorem wf_7_152 : Cond.fieldLinkNest RX7 152 "PieFunnels$Voice" "mouth" "I" "PieFunnels" ∈ fk_nests := List.mem_of_getElem? (i := 28) (by decide +kernel)
theorem f_7_152 {g : fkG} {k : fkK} {ρ : Type} {en : ρ → Option Value} {cc : ByteArray} {nL fr lo pc : Nat} {ret : Option FieldType} {lv : List (Nat × Value)} {stk : List Value} {st : fkS} (hk : fk_ok wC g k RX7 cc nL ret fr lo) {i : Nat} {F1 : Int32 → Option (ρ × fkS)} (hi : kdC i = 6) (hdg : decode cc pc = .ok (.getfield 152, 3))
    (kk : ∀ x, fk_J wC g en k (pc + 3) lv (.int x :: stk) st (F1 x)) : fk_J wC g en k pc lv (fk_r g i :: stk) st (fk_let (gI st 122 i) F1) := by
  intro o ho hq
  have kk := kk (gI st 122 i) o ho hq
  obtain ⟨p, l, e, R, s, m, args, below, meth, c, rv, sf⟩ := k
  obtain ⟨hx, hb, hml, hown, hts, hK, hE, hr, hlk, hinj, hfr, hlo⟩ := hk
  intro H locs ls hl hP hS
  exact va_getN (D := g.2.1) (ci := 6) (C := RX6) (T := TX6) (N := 6) (v := .int (gI st 122 i)) hx hb hts wB_6 hown hK hP i (wat_6 hi) rfl 2 (by decide) (va_Nw.use rfl (hE.1 _ wf_7_152)) (fun _ h => h) rfl hdg (kk H locs ls hl hP hS)
theorem p_7_152 {g : fkG} {k : fkK} {ρ : Type} {en : ρ → Option Value} {cc : ByteArray} {nL fr lo pc : Nat} {ret : Option FieldType} {lv : List (Nat × Value)} {stk : List Value} {st : fkS} (hk : fk_ok wC g k RX7 cc nL ret fr lo) {i : Nat} {v : Int32} {F1 : fkS → Option (ρ × fkS)} (hi : kdC i = 6) (hdg : decode cc pc = .ok (.putfield 152, 3))
    (kk : ∀ st1, fk_J wC g en k (pc + 3) lv stk st1 (F1 st1)) : fk_J wC g en k pc lv (.int v :: fk_r g i :: stk) st (fk_let (sI st 122 i v) F1) := by
  intro o ho hq
  have kk := kk (sI st 122 i v) o ho hq
  obtain ⟨p, l, e, R, s, m, args, below, meth, c, rv, sf⟩ := k
  obtain ⟨hx, hb, hml, hown, hts, hK, hE, hr, hlk, hinj, hfr, hlo⟩ := hk
  intro H locs ls hl hP hS
  refine va_putN (D := g.2.1) (ci := 6) (C := RX6) (T := TX6) (N := 6) (v := .int v) (ty := .int) hx hb hts wB_6 tyX6 tyX6_ok nmX6 hown hK hP (fk_wD hinj _ _) hS i (wat_6 hi) rfl 2 (by decide) (va_Nw.use rfl (hE.1 _ wf_7_152)) (fun _ h => h) rfl (by decide +kernel) rfl rfl (Nat.le_of_ble_eq_true rfl) hdg (fun H1 locs1 hP1 hD1 hS1 => kk H1 locs1 ls hl ?_ hS1)
  rw [← wst_6_2 hi]
  exact hP1
theorem wf_6_21 : Cond.fieldLink RX6 21 "PieFunnels$Voice" "heat" "I" ∈ fkB := fkB_in (List.mem_of_getElem? (i := 264) (by decide +kernel)) rfl
theorem f_6_21 {g : fkG} {k : fkK} {ρ : Type} {en : ρ → Option Value} {cc : ByteArray} {nL fr lo pc : Nat} {ret : Option FieldType} {lv : List (Nat × Value)} {stk : List Value} {st : fkS} (hk : fk_ok wC g k RX6 cc nL ret fr lo) {i : Nat} {F1 : Int32 → Option (ρ × fkS)} (hi : kdC i = 6) (hdg : decode cc pc = .ok (.getfield 21, 3))
    (kk : ∀ x, fk_J wC g en k (pc + 3) lv (.int x :: stk) st (F1 x)) : fk_J wC g en k pc lv (fk_r g i :: stk) st (fk_let (gI st 123 i) F1) := by
  intro o ho hq
  have kk := kk (gI st 123 i) o ho hq
  obtain ⟨p, l, e, R, s, m, args, below, meth, c, rv, sf⟩ := k
  obtain ⟨hx, hb, hml, hown, hts, hK, hE, hr, hlk, hinj, hfr, hlo⟩ := hk
  intro H locs ls hl hP hS
  exact va_get (D := g.2.1) (ci := 6) (C := RX6) (T := TX6) (N := 6) (v := .int (gI st 123 i)) hx hb hts wB_6 hown hK hP i (wat_6 hi) rfl 3 (by decide) (hts _ wf_6_21) (fun _ h => h) rfl hdg (kk H locs ls hl hP hS)
theorem p_6_21 {g : fkG} {k : fkK} {ρ : Type} {en : ρ → Option Value} {cc : ByteArray} {nL fr lo pc : Nat} {ret : Option FieldType} {lv : List (Nat × Value)} {stk : List Value} {st : fkS} (hk : fk_ok wC g k RX6 cc nL ret fr lo) {i : Nat} {v : Int32} {F1 : fkS → Option (ρ × fkS)} (hi : kdC i = 6) (hdg : decode cc pc = .ok (.putfield 21, 3))
    (kk : ∀ st1, fk_J wC g en k (pc + 3) lv stk st1 (F1 st1)) : fk_J wC g en k pc lv (.int v :: fk_r g i :: stk) st (fk_let (sI st 123 i v) F1) := by
  intro o ho hq
  have kk := kk (sI st 123 i v) o ho hq
  obtain ⟨p, l, e, R, s, m, args, below, meth, c, rv, sf⟩ := k
  obtain ⟨hx, hb, hml, hown, hts, hK, hE, hr, hlk, hinj, hfr, hlo⟩ := hk
  intro H locs ls hl hP hS
  refine va_put (D := g.2.1) (ci := 6) (C := RX6) (T := TX6) (N := 6) (v := .int v) (ty := .int) hx hb hts wB_6 tyX6 tyX6_ok nmX6 hown hK hP (fk_wD hinj _ _) hS i (wat_6 hi) rfl 3 (by decide) (hts _ wf_6_21) (fun _ h => h) rfl (by decide +kernel) rfl rfl (Nat.le_of_ble_eq_true rfl) hdg (fun H1 locs1 hP1 hD1 hS1 => kk H1 locs1 ls hl ?_ hS1)
  rw [← wst_6_3 hi]
  exact hP1
theorem wf_7_270 : Cond.fieldLinkNest RX7 270 "PieFunnels$Voice" "heat" "I" "PieFunnels" ∈ fk_nests := List.mem_of_getElem? (i := 29) (by decide +kernel)
theorem f_7_270 {g : fkG} {k : fkK} {ρ : Type} {en : ρ → Option Value} {cc : ByteArray} {nL fr lo pc : Nat} {ret : Option FieldType} {lv : List (Nat × Value)} {stk : List Value} {st : fkS} (hk : fk_ok wC g k RX7 cc nL ret fr lo) {i : Nat} {F1 : Int32 → Option (ρ × fkS)} (hi : kdC i = 6) (hdg : decode cc pc = .ok (.getfield 270, 3))
    (kk : ∀ x, fk_J wC g en k (pc + 3) lv (.int x :: stk) st (F1 x)) : fk_J wC g en k pc lv (fk_r g i :: stk) st (fk_let (gI st 123 i) F1) := by
  intro o ho hq
  have kk := kk (gI st 123 i) o ho hq
  obtain ⟨p, l, e, R, s, m, args, below, meth, c, rv, sf⟩ := k
  obtain ⟨hx, hb, hml, hown, hts, hK, hE, hr, hlk, hinj, hfr, hlo⟩ := hk
  intro H locs ls hl hP hS
  exact va_getN (D := g.2.1) (ci := 6) (C := RX6) (T := TX6) (N := 6) (v := .int (gI st 123 i)) hx hb hts wB_6 hown hK hP i (wat_6 hi) rfl 3 (by decide) (va_Nw.use rfl (hE.1 _ wf_7_270)) (fun _ h => h) rfl hdg (kk H locs ls hl hP hS)
theorem p_7_270 {g : fkG} {k : fkK} {ρ : Type} {en : ρ → Option Value} {cc : ByteArray} {nL fr lo pc : Nat} {ret : Option FieldType} {lv : List (Nat × Value)} {stk : List Value} {st : fkS} (hk : fk_ok wC g k RX7 cc nL ret fr lo) {i : Nat} {v : Int32} {F1 : fkS → Option (ρ × fkS)} (hi : kdC i = 6) (hdg : decode cc pc = .ok (.putfield 270, 3))
    (kk : ∀ st1, fk_J wC g en k (pc + 3) lv stk st1 (F1 st1)) : fk_J wC g en k pc lv (.int v :: fk_r g i :: stk) st (fk_let (sI st 123 i v) F1) := by
  intro o ho hq
  have kk := kk (sI st 123 i v) o ho hq
  obtain ⟨p, l, e, R, s, m, args, below, meth, c, rv, sf⟩ := k
  obtain ⟨hx, hb, hml, hown, hts, hK, hE, hr, hlk, hinj, hfr, hlo⟩ := hk
  intro H locs ls hl hP hS
  refine va_putN (D := g.2.1) (ci := 6) (C := RX6) (T := TX6) (N := 6) (v := .int v) (ty := .int) hx hb hts wB_6 tyX6 tyX6_ok nmX6 hown hK hP (fk_wD hinj _ _) hS i (wat_6 hi) rfl 3 (by decide) (va_Nw.use rfl (hE.1 _ wf_7_270)) (fun _ h => h) rfl (by decide +kernel) rfl rfl (Nat.le_of_ble_eq_true rfl) hdg (fun H1 locs1 hP1 hD1 hS1 => kk H1 locs1 ls hl ?_ hS1)
  rw [← wst_6_3 hi]
  exact hP1
theorem wf_6_24 : Cond.fieldLink RX6 24 "PieFunnels$Voice" "count" "I" ∈ fkB := fkB_in (List.mem_of_getElem? (i := 266) (by decide +kernel)) rfl
theorem f_6_24 {g : fkG} {k : fkK} {ρ : Type} {en : ρ → Option Value} {cc : ByteArray} {nL fr lo pc : Nat} {ret : Option FieldType} {lv : List (Nat × Value)} {stk : List Value} {st : fkS} (hk : fk_ok wC g k RX6 cc nL ret fr lo) {i : Nat} {F1 : Int32 → Option (ρ × fkS)} (hi : kdC i = 6) (hdg : decode cc pc = .ok (.getfield 24, 3))
    (kk : ∀ x, fk_J wC g en k (pc + 3) lv (.int x :: stk) st (F1 x)) : fk_J wC g en k pc lv (fk_r g i :: stk) st (fk_let (gI st 124 i) F1) := by
  intro o ho hq
  have kk := kk (gI st 124 i) o ho hq
  obtain ⟨p, l, e, R, s, m, args, below, meth, c, rv, sf⟩ := k
  obtain ⟨hx, hb, hml, hown, hts, hK, hE, hr, hlk, hinj, hfr, hlo⟩ := hk
  intro H locs ls hl hP hS
  exact va_get (D := g.2.1) (ci := 6) (C := RX6) (T := TX6) (N := 6) (v := .int (gI st 124 i)) hx hb hts wB_6 hown hK hP i (wat_6 hi) rfl 4 (by decide) (hts _ wf_6_24) (fun _ h => h) rfl hdg (kk H locs ls hl hP hS)
theorem p_6_24 {g : fkG} {k : fkK} {ρ : Type} {en : ρ → Option Value} {cc : ByteArray} {nL fr lo pc : Nat} {ret : Option FieldType} {lv : List (Nat × Value)} {stk : List Value} {st : fkS} (hk : fk_ok wC g k RX6 cc nL ret fr lo) {i : Nat} {v : Int32} {F1 : fkS → Option (ρ × fkS)} (hi : kdC i = 6) (hdg : decode cc pc = .ok (.putfield 24, 3))
    (kk : ∀ st1, fk_J wC g en k (pc + 3) lv stk st1 (F1 st1)) : fk_J wC g en k pc lv (.int v :: fk_r g i :: stk) st (fk_let (sI st 124 i v) F1) := by
  intro o ho hq
  have kk := kk (sI st 124 i v) o ho hq
  obtain ⟨p, l, e, R, s, m, args, below, meth, c, rv, sf⟩ := k
  obtain ⟨hx, hb, hml, hown, hts, hK, hE, hr, hlk, hinj, hfr, hlo⟩ := hk
  intro H locs ls hl hP hS
  refine va_put (D := g.2.1) (ci := 6) (C := RX6) (T := TX6) (N := 6) (v := .int v) (ty := .int) hx hb hts wB_6 tyX6 tyX6_ok nmX6 hown hK hP (fk_wD hinj _ _) hS i (wat_6 hi) rfl 4 (by decide) (hts _ wf_6_24) (fun _ h => h) rfl (by decide +kernel) rfl rfl (Nat.le_of_ble_eq_true rfl) hdg (fun H1 locs1 hP1 hD1 hS1 => kk H1 locs1 ls hl ?_ hS1)
  rw [← wst_6_4 hi]
  exact hP1
theorem wf_0_56 : Cond.fieldLinkNest RX0 56 "PieFunnels$Voice" "count" "I" "PieFunnels" ∈ fk_nests := List.mem_of_getElem? (i := 30) (by decide +kernel)
theorem f_0_56 {g : fkG} {k : fkK} {ρ : Type} {en : ρ → Option Value} {cc : ByteArray} {nL fr lo pc : Nat} {ret : Option FieldType} {lv : List (Nat × Value)} {stk : List Value} {st : fkS} (hk : fk_ok wC g k RX0 cc nL ret fr lo) {i : Nat} {F1 : Int32 → Option (ρ × fkS)} (hi : kdC i = 6) (hdg : decode cc pc = .ok (.getfield 56, 3))
    (kk : ∀ x, fk_J wC g en k (pc + 3) lv (.int x :: stk) st (F1 x)) : fk_J wC g en k pc lv (fk_r g i :: stk) st (fk_let (gI st 124 i) F1) := by
  intro o ho hq
  have kk := kk (gI st 124 i) o ho hq
  obtain ⟨p, l, e, R, s, m, args, below, meth, c, rv, sf⟩ := k
  obtain ⟨hx, hb, hml, hown, hts, hK, hE, hr, hlk, hinj, hfr, hlo⟩ := hk
  intro H locs ls hl hP hS
  exact va_getN (D := g.2.1) (ci := 6) (C := RX6) (T := TX6) (N := 6) (v := .int (gI st 124 i)) hx hb hts wB_6 hown hK hP i (wat_6 hi) rfl 4 (by decide) (va_Nw.use rfl (hE.1 _ wf_0_56)) (fun _ h => h) rfl hdg (kk H locs ls hl hP hS)
theorem p_0_56 {g : fkG} {k : fkK} {ρ : Type} {en : ρ → Option Value} {cc : ByteArray} {nL fr lo pc : Nat} {ret : Option FieldType} {lv : List (Nat × Value)} {stk : List Value} {st : fkS} (hk : fk_ok wC g k RX0 cc nL ret fr lo) {i : Nat} {v : Int32} {F1 : fkS → Option (ρ × fkS)} (hi : kdC i = 6) (hdg : decode cc pc = .ok (.putfield 56, 3))
    (kk : ∀ st1, fk_J wC g en k (pc + 3) lv stk st1 (F1 st1)) : fk_J wC g en k pc lv (.int v :: fk_r g i :: stk) st (fk_let (sI st 124 i v) F1) := by
  intro o ho hq
  have kk := kk (sI st 124 i v) o ho hq
  obtain ⟨p, l, e, R, s, m, args, below, meth, c, rv, sf⟩ := k
  obtain ⟨hx, hb, hml, hown, hts, hK, hE, hr, hlk, hinj, hfr, hlo⟩ := hk
  intro H locs ls hl hP hS
  refine va_putN (D := g.2.1) (ci := 6) (C := RX6) (T := TX6) (N := 6) (v := .int v) (ty := .int) hx hb hts wB_6 tyX6 tyX6_ok nmX6 hown hK hP (fk_wD hinj _ _) hS i (wat_6 hi) rfl 4 (by decide) (va_Nw.use rfl (hE.1 _ wf_0_56)) (fun _ h => h) rfl (by decide +kernel) rfl rfl (Nat.le_of_ble_eq_true rfl) hdg (fun H1 locs1 hP1 hD1 hS1 => kk H1 locs1 ls hl ?_ hS1)
  rw [← wst_6_4 hi]
  exact hP1
theorem wf_7_162 : Cond.fieldLinkNest RX7 162 "PieFunnels$Voice" "count" "I" "PieFunnels" ∈ fk_nests := List.mem_of_getElem? (i := 31) (by decide +kernel)
theorem f_7_162 {g : fkG} {k : fkK} {ρ : Type} {en : ρ → Option Value} {cc : ByteArray} {nL fr lo pc : Nat} {ret : Option FieldType} {lv : List (Nat × Value)} {stk : List Value} {st : fkS} (hk : fk_ok wC g k RX7 cc nL ret fr lo) {i : Nat} {F1 : Int32 → Option (ρ × fkS)} (hi : kdC i = 6) (hdg : decode cc pc = .ok (.getfield 162, 3))
    (kk : ∀ x, fk_J wC g en k (pc + 3) lv (.int x :: stk) st (F1 x)) : fk_J wC g en k pc lv (fk_r g i :: stk) st (fk_let (gI st 124 i) F1) := by
  intro o ho hq
  have kk := kk (gI st 124 i) o ho hq
  obtain ⟨p, l, e, R, s, m, args, below, meth, c, rv, sf⟩ := k
  obtain ⟨hx, hb, hml, hown, hts, hK, hE, hr, hlk, hinj, hfr, hlo⟩ := hk
  intro H locs ls hl hP hS
  exact va_getN (D := g.2.1) (ci := 6) (C := RX6) (T := TX6) (N := 6) (v := .int (gI st 124 i)) hx hb hts wB_6 hown hK hP i (wat_6 hi) rfl 4 (by decide) (va_Nw.use rfl (hE.1 _ wf_7_162)) (fun _ h => h) rfl hdg (kk H locs ls hl hP hS)
theorem p_7_162 {g : fkG} {k : fkK} {ρ : Type} {en : ρ → Option Value} {cc : ByteArray} {nL fr lo pc : Nat} {ret : Option FieldType} {lv : List (Nat × Value)} {stk : List Value} {st : fkS} (hk : fk_ok wC g k RX7 cc nL ret fr lo) {i : Nat} {v : Int32} {F1 : fkS → Option (ρ × fkS)} (hi : kdC i = 6) (hdg : decode cc pc = .ok (.putfield 162, 3))
    (kk : ∀ st1, fk_J wC g en k (pc + 3) lv stk st1 (F1 st1)) : fk_J wC g en k pc lv (.int v :: fk_r g i :: stk) st (fk_let (sI st 124 i v) F1) := by
  intro o ho hq
  have kk := kk (sI st 124 i v) o ho hq
  obtain ⟨p, l, e, R, s, m, args, below, meth, c, rv, sf⟩ := k
  obtain ⟨hx, hb, hml, hown, hts, hK, hE, hr, hlk, hinj, hfr, hlo⟩ := hk
  intro H locs ls hl hP hS
  refine va_putN (D := g.2.1) (ci := 6) (C := RX6) (T := TX6) (N := 6) (v := .int v) (ty := .int) hx hb hts wB_6 tyX6 tyX6_ok nmX6 hown hK hP (fk_wD hinj _ _) hS i (wat_6 hi) rfl 4 (by decide) (va_Nw.use rfl (hE.1 _ wf_7_162)) (fun _ h => h) rfl (by decide +kernel) rfl rfl (Nat.le_of_ble_eq_true rfl) hdg (fun H1 locs1 hP1 hD1 hS1 => kk H1 locs1 ls hl ?_ hS1)
  rw [← wst_6_4 hi]
  exact hP1
theorem wf_6_27 : Cond.fieldLink RX6 27 "PieFunnels$Voice" "signs" "[I" ∈ fkB := fkB_in (List.mem_of_getElem? (i := 269) (by decide +kernel)) rfl
theorem f_6_27 {g : fkG} {k : fkK} {ρ : Type} {en : ρ → Option Value} {cc : ByteArray} {nL fr lo pc : Nat} {ret : Option FieldType} {lv : List (Nat × Value)} {stk : List Value} {st : fkS} {F : Option (ρ × fkS)} (hk : fk_ok wC g k RX6 cc nL ret fr lo) {i : Nat} (hi : kdC i = 6) (hdg : decode cc pc = .ok (.getfield 27, 3))
    (kk : fk_J wC g en k (pc + 3) lv (fk_r g (i + 2) :: stk) st F) : fk_J wC g en k pc lv (fk_r g i :: stk) st F := by
  intro o ho hq
  have kk := kk o ho hq
  obtain ⟨p, l, e, R, s, m, args, below, meth, c, rv, sf⟩ := k
  obtain ⟨hx, hb, hml, hown, hts, hK, hE, hr, hlk, hinj, hfr, hlo⟩ := hk
  intro H locs ls hl hP hS
  exact va_get (D := g.2.1) (ci := 6) (C := RX6) (T := TX6) (N := 6) (v := fk_r g (i + 2)) hx hb hts wB_6 hown hK hP i (wat_6 hi) rfl 5 (by decide) (hts _ wf_6_27) (fun _ h => h) rfl hdg (kk H locs ls hl hP hS)
theorem wf_0_61 : Cond.fieldLinkNest RX0 61 "PieFunnels$Voice" "signs" "[I" "PieFunnels" ∈ fk_nests := List.mem_of_getElem? (i := 32) (by decide +kernel)
theorem f_0_61 {g : fkG} {k : fkK} {ρ : Type} {en : ρ → Option Value} {cc : ByteArray} {nL fr lo pc : Nat} {ret : Option FieldType} {lv : List (Nat × Value)} {stk : List Value} {st : fkS} {F : Option (ρ × fkS)} (hk : fk_ok wC g k RX0 cc nL ret fr lo) {i : Nat} (hi : kdC i = 6) (hdg : decode cc pc = .ok (.getfield 61, 3))
    (kk : fk_J wC g en k (pc + 3) lv (fk_r g (i + 2) :: stk) st F) : fk_J wC g en k pc lv (fk_r g i :: stk) st F := by
  intro o ho hq
  have kk := kk o ho hq
  obtain ⟨p, l, e, R, s, m, args, below, meth, c, rv, sf⟩ := k
  obtain ⟨hx, hb, hml, hown, hts, hK, hE, hr, hlk, hinj, hfr, hlo⟩ := hk
  intro H locs ls hl hP hS
  exact va_getN (D := g.2.1) (ci := 6) (C := RX6) (T := TX6) (N := 6) (v := fk_r g (i + 2)) hx hb hts wB_6 hown hK hP i (wat_6 hi) rfl 5 (by decide) (va_Nw.use rfl (hE.1 _ wf_0_61)) (fun _ h => h) rfl hdg (kk H locs ls hl hP hS)
theorem wf_2_9 : Cond.fieldLink RX2 9 "PieFunnels$Parting" "tribes" "I" ∈ fkB := fkB_in (List.mem_of_getElem? (i := 290) (by decide +kernel)) rfl
theorem f_2_9 {g : fkG} {k : fkK} {ρ : Type} {en : ρ → Option Value} {cc : ByteArray} {nL fr lo pc : Nat} {ret : Option FieldType} {lv : List (Nat × Value)} {stk : List Value} {st : fkS} (hk : fk_ok wC g k RX2 cc nL ret fr lo) {i : Nat} {F1 : Int32 → Option (ρ × fkS)} (hi : kdC i = 2) (hdg : decode cc pc = .ok (.getfield 9, 3))
    (kk : ∀ x, fk_J wC g en k (pc + 3) lv (.int x :: stk) st (F1 x)) : fk_J wC g en k pc lv (fk_r g i :: stk) st (fk_let (gI st 40 i) F1) := by
  intro o ho hq
  have kk := kk (gI st 40 i) o ho hq
  obtain ⟨p, l, e, R, s, m, args, below, meth, c, rv, sf⟩ := k
  obtain ⟨hx, hb, hml, hown, hts, hK, hE, hr, hlk, hinj, hfr, hlo⟩ := hk
  intro H locs ls hl hP hS
  exact va_get (D := g.2.1) (ci := 2) (C := RX2) (T := TX2) (N := 5) (v := .int (gI st 40 i)) hx hb hts wB_2 hown hK hP i (wat_2 hi) rfl 0 (by decide) (hts _ wf_2_9) (fun _ h => h) rfl hdg (kk H locs ls hl hP hS)
theorem p_2_9 {g : fkG} {k : fkK} {ρ : Type} {en : ρ → Option Value} {cc : ByteArray} {nL fr lo pc : Nat} {ret : Option FieldType} {lv : List (Nat × Value)} {stk : List Value} {st : fkS} (hk : fk_ok wC g k RX2 cc nL ret fr lo) {i : Nat} {v : Int32} {F1 : fkS → Option (ρ × fkS)} (hi : kdC i = 2) (hdg : decode cc pc = .ok (.putfield 9, 3))
    (kk : ∀ st1, fk_J wC g en k (pc + 3) lv stk st1 (F1 st1)) : fk_J wC g en k pc lv (.int v :: fk_r g i :: stk) st (fk_let (sI st 40 i v) F1) := by
  intro o ho hq
  have kk := kk (sI st 40 i v) o ho hq
  obtain ⟨p, l, e, R, s, m, args, below, meth, c, rv, sf⟩ := k
  obtain ⟨hx, hb, hml, hown, hts, hK, hE, hr, hlk, hinj, hfr, hlo⟩ := hk
  intro H locs ls hl hP hS
  refine va_put (D := g.2.1) (ci := 2) (C := RX2) (T := TX2) (N := 5) (v := .int v) (ty := .int) hx hb hts wB_2 tyX2 tyX2_ok nmX2 hown hK hP (fk_wD hinj _ _) hS i (wat_2 hi) rfl 0 (by decide) (hts _ wf_2_9) (fun _ h => h) rfl (by decide +kernel) rfl rfl (Nat.le_of_ble_eq_true rfl) hdg (fun H1 locs1 hP1 hD1 hS1 => kk H1 locs1 ls hl ?_ hS1)
  rw [← wst_2_0 hi]
  exact hP1
theorem wf_7_277 : Cond.fieldLinkNest RX7 277 "PieFunnels$Parting" "tribes" "I" "PieFunnels" ∈ fk_nests := List.mem_of_getElem? (i := 33) (by decide +kernel)
theorem f_7_277 {g : fkG} {k : fkK} {ρ : Type} {en : ρ → Option Value} {cc : ByteArray} {nL fr lo pc : Nat} {ret : Option FieldType} {lv : List (Nat × Value)} {stk : List Value} {st : fkS} (hk : fk_ok wC g k RX7 cc nL ret fr lo) {i : Nat} {F1 : Int32 → Option (ρ × fkS)} (hi : kdC i = 2) (hdg : decode cc pc = .ok (.getfield 277, 3))
    (kk : ∀ x, fk_J wC g en k (pc + 3) lv (.int x :: stk) st (F1 x)) : fk_J wC g en k pc lv (fk_r g i :: stk) st (fk_let (gI st 40 i) F1) := by
  intro o ho hq
  have kk := kk (gI st 40 i) o ho hq
  obtain ⟨p, l, e, R, s, m, args, below, meth, c, rv, sf⟩ := k
  obtain ⟨hx, hb, hml, hown, hts, hK, hE, hr, hlk, hinj, hfr, hlo⟩ := hk
  intro H locs ls hl hP hS
  exact va_getN (D := g.2.1) (ci := 2) (C := RX2) (T := TX2) (N := 5) (v := .int (gI st 40 i)) hx hb hts wB_2 hown hK hP i (wat_2 hi) rfl 0 (by decide) (va_Nw.use rfl (hE.1 _ wf_7_277)) (fun _ h => h) rfl hdg (kk H locs ls hl hP hS)
theorem p_7_277 {g : fkG} {k : fkK} {ρ : Type} {en : ρ → Option Value} {cc : ByteArray} {nL fr lo pc : Nat} {ret : Option FieldType} {lv : List (Nat × Value)} {stk : List Value} {st : fkS} (hk : fk_ok wC g k RX7 cc nL ret fr lo) {i : Nat} {v : Int32} {F1 : fkS → Option (ρ × fkS)} (hi : kdC i = 2) (hdg : decode cc pc = .ok (.putfield 277, 3))
    (kk : ∀ st1, fk_J wC g en k (pc + 3) lv stk st1 (F1 st1)) : fk_J wC g en k pc lv (.int v :: fk_r g i :: stk) st (fk_let (sI st 40 i v) F1) := by
  intro o ho hq
  have kk := kk (sI st 40 i v) o ho hq
  obtain ⟨p, l, e, R, s, m, args, below, meth, c, rv, sf⟩ := k
  obtain ⟨hx, hb, hml, hown, hts, hK, hE, hr, hlk, hinj, hfr, hlo⟩ := hk
  intro H locs ls hl hP hS
  refine va_putN (D := g.2.1) (ci := 2) (C := RX2) (T := TX2) (N := 5) (v := .int v) (ty := .int) hx hb hts wB_2 tyX2 tyX2_ok nmX2 hown hK hP (fk_wD hinj _ _) hS i (wat_2 hi) rfl 0 (by decide) (va_Nw.use rfl (hE.1 _ wf_7_277)) (fun _ h => h) rfl (by decide +kernel) rfl rfl (Nat.le_of_ble_eq_true rfl) hdg (fun H1 locs1 hP1 hD1 hS1 => kk H1 locs1 ls hl ?_ hS1)
  rw [← wst_2_0 hi]
  exact hP1
theorem wf_2_15 : Cond.fieldLink RX2 15 "PieFunnels$Parting" "served" "I" ∈ fkB := fkB_in (List.mem_of_getElem? (i := 292) (by decide +kernel)) rfl
theorem f_2_15 {g : fkG} {k : fkK} {ρ : Type} {en : ρ → Option Value} {cc : ByteArray} {nL fr lo pc : Nat} {ret : Option FieldType} {lv : List (Nat × Value)} {stk : List Value} {st : fkS} (hk : fk_ok wC g k RX2 cc nL ret fr lo) {i : Nat} {F1 : Int32 → Option (ρ × fkS)} (hi : kdC i = 2) (hdg : decode cc pc = .ok (.getfield 15, 3))
    (kk : ∀ x, fk_J wC g en k (pc + 3) lv (.int x :: stk) st (F1 x)) : fk_J wC g en k pc lv (fk_r g i :: stk) st (fk_let (gI st 41 i) F1) := by
  intro o ho hq
  have kk := kk (gI st 41 i) o ho hq
  obtain ⟨p, l, e, R, s, m, args, below, meth, c, rv, sf⟩ := k
  obtain ⟨hx, hb, hml, hown, hts, hK, hE, hr, hlk, hinj, hfr, hlo⟩ := hk
  intro H locs ls hl hP hS
  exact va_get (D := g.2.1) (ci := 2) (C := RX2) (T := TX2) (N := 5) (v := .int (gI st 41 i)) hx hb hts wB_2 hown hK hP i (wat_2 hi) rfl 1 (by decide) (hts _ wf_2_15) (fun _ h => h) rfl hdg (kk H locs ls hl hP hS)
theorem p_2_15 {g : fkG} {k : fkK} {ρ : Type} {en : ρ → Option Value} {cc : ByteArray} {nL fr lo pc : Nat} {ret : Option FieldType} {lv : List (Nat × Value)} {stk : List Value} {st : fkS} (hk : fk_ok wC g k RX2 cc nL ret fr lo) {i : Nat} {v : Int32} {F1 : fkS → Option (ρ × fkS)} (hi : kdC i = 2) (hdg : decode cc pc = .ok (.putfield 15, 3))
    (kk : ∀ st1, fk_J wC g en k (pc + 3) lv stk st1 (F1 st1)) : fk_J wC g en k pc lv (.int v :: fk_r g i :: stk) st (fk_let (sI st 41 i v) F1) := by
  intro o ho hq
  have kk := kk (sI st 41 i v) o ho hq
  obtain ⟨p, l, e, R, s, m, args, below, meth, c, rv, sf⟩ := k
  obtain ⟨hx, hb, hml, hown, hts, hK, hE, hr, hlk, hinj, hfr, hlo⟩ := hk
  intro H locs ls hl hP hS
  refine va_put (D := g.2.1) (ci := 2) (C := RX2) (T := TX2) (N := 5) (v := .int v) (ty := .int) hx hb hts wB_2 tyX2 tyX2_ok nmX2 hown hK hP (fk_wD hinj _ _) hS i (wat_2 hi) rfl 1 (by decide) (hts _ wf_2_15) (fun _ h => h) rfl (by decide +kernel) rfl rfl (Nat.le_of_ble_eq_true rfl) hdg (fun H1 locs1 hP1 hD1 hS1 => kk H1 locs1 ls hl ?_ hS1)
  rw [← wst_2_1 hi]
  exact hP1
theorem wf_7_286 : Cond.fieldLinkNest RX7 286 "PieFunnels$Parting" "served" "I" "PieFunnels" ∈ fk_nests := List.mem_of_getElem? (i := 34) (by decide +kernel)
theorem f_7_286 {g : fkG} {k : fkK} {ρ : Type} {en : ρ → Option Value} {cc : ByteArray} {nL fr lo pc : Nat} {ret : Option FieldType} {lv : List (Nat × Value)} {stk : List Value} {st : fkS} (hk : fk_ok wC g k RX7 cc nL ret fr lo) {i : Nat} {F1 : Int32 → Option (ρ × fkS)} (hi : kdC i = 2) (hdg : decode cc pc = .ok (.getfield 286, 3))
    (kk : ∀ x, fk_J wC g en k (pc + 3) lv (.int x :: stk) st (F1 x)) : fk_J wC g en k pc lv (fk_r g i :: stk) st (fk_let (gI st 41 i) F1) := by
  intro o ho hq
  have kk := kk (gI st 41 i) o ho hq
  obtain ⟨p, l, e, R, s, m, args, below, meth, c, rv, sf⟩ := k
  obtain ⟨hx, hb, hml, hown, hts, hK, hE, hr, hlk, hinj, hfr, hlo⟩ := hk
  intro H locs ls hl hP hS
  exact va_getN (D := g.2.1) (ci := 2) (C := RX2) (T := TX2) (N := 5) (v := .int (gI st 41 i)) hx hb hts wB_2 hown hK hP i (wat_2 hi) rfl 1 (by decide) (va_Nw.use rfl (hE.1 _ wf_7_286)) (fun _ h => h) rfl hdg (kk H locs ls hl hP hS)
theorem p_7_286 {g : fkG} {k : fkK} {ρ : Type} {en : ρ → Option Value} {cc : ByteArray} {nL fr lo pc : Nat} {ret : Option FieldType} {lv : List (Nat × Value)} {stk : List Value} {st : fkS} (hk : fk_ok wC g k RX7 cc nL ret fr lo) {i : Nat} {v : Int32} {F1 : fkS → Option (ρ × fkS)} (hi : kdC i = 2) (hdg : decode cc pc = .ok (.putfield 286, 3))
    (kk : ∀ st1, fk_J wC g en k (pc + 3) lv stk st1 (F1 st1)) : fk_J wC g en k pc lv (.int v :: fk_r g i :: stk) st (fk_let (sI st 41 i v) F1) := by
  intro o ho hq
  have kk := kk (sI st 41 i v) o ho hq
  obtain ⟨p, l, e, R, s, m, args, below, meth, c, rv, sf⟩ := k
  obtain ⟨hx, hb, hml, hown, hts, hK, hE, hr, hlk, hinj, hfr, hlo⟩ := hk
  intro H locs ls hl hP hS
  refine va_putN (D := g.2.1) (ci := 2) (C := RX2) (T := TX2) (N := 5) (v := .int v) (ty := .int) hx hb hts wB_2 tyX2 tyX2_ok nmX2 hown hK hP (fk_wD hinj _ _) hS i (wat_2 hi) rfl 1 (by decide) (va_Nw.use rfl (hE.1 _ wf_7_286)) (fun _ h => h) rfl (by decide +kernel) rfl rfl (Nat.le_of_ble_eq_true rfl) hdg (fun H1 locs1 hP1 hD1 hS1 => kk H1 locs1 ls hl ?_ hS1)
  rw [← wst_2_1 hi]
  exact hP1
theorem wf_2_18 : Cond.fieldLink RX2 18 "PieFunnels$Parting" "wishes" "[I" ∈ fkB := fkB_in (List.mem_of_getElem? (i := 294) (by decide +kernel)) rfl
theorem f_2_18 {g : fkG} {k : fkK} {ρ : Type} {en : ρ → Option Value} {cc : ByteArray} {nL fr lo pc : Nat} {ret : Option FieldType} {lv : List (Nat × Value)} {stk : List Value} {st : fkS} {F : Option (ρ × fkS)} (hk : fk_ok wC g k RX2 cc nL ret fr lo) {i : Nat} (hi : kdC i = 2) (hdg : decode cc pc = .ok (.getfield 18, 3))
    (kk : fk_J wC g en k (pc + 3) lv (fk_r g (i + 1) :: stk) st F) : fk_J wC g en k pc lv (fk_r g i :: stk) st F := by
  intro o ho hq
  have kk := kk o ho hq
  obtain ⟨p, l, e, R, s, m, args, below, meth, c, rv, sf⟩ := k
  obtain ⟨hx, hb, hml, hown, hts, hK, hE, hr, hlk, hinj, hfr, hlo⟩ := hk
  intro H locs ls hl hP hS
  exact va_get (D := g.2.1) (ci := 2) (C := RX2) (T := TX2) (N := 5) (v := fk_r g (i + 1)) hx hb hts wB_2 hown hK hP i (wat_2 hi) rfl 2 (by decide) (hts _ wf_2_18) (fun _ h => h) rfl hdg (kk H locs ls hl hP hS)
theorem wf_2_22 : Cond.fieldLink RX2 22 "PieFunnels$Parting" "whom" "[I" ∈ fkB := fkB_in (List.mem_of_getElem? (i := 295) (by decide +kernel)) rfl
theorem f_2_22 {g : fkG} {k : fkK} {ρ : Type} {en : ρ → Option Value} {cc : ByteArray} {nL fr lo pc : Nat} {ret : Option FieldType} {lv : List (Nat × Value)} {stk : List Value} {st : fkS} {F : Option (ρ × fkS)} (hk : fk_ok wC g k RX2 cc nL ret fr lo) {i : Nat} (hi : kdC i = 2) (hdg : decode cc pc = .ok (.getfield 22, 3))
    (kk : fk_J wC g en k (pc + 3) lv (fk_r g (i + 2) :: stk) st F) : fk_J wC g en k pc lv (fk_r g i :: stk) st F := by
  intro o ho hq
  have kk := kk o ho hq
  obtain ⟨p, l, e, R, s, m, args, below, meth, c, rv, sf⟩ := k
  obtain ⟨hx, hb, hml, hown, hts, hK, hE, hr, hlk, hinj, hfr, hlo⟩ := hk
  intro H locs ls hl hP hS
  exact va_get (D := g.2.1) (ci := 2) (C := RX2) (T := TX2) (N := 5) (v := fk_r g (i + 2)) hx hb hts wB_2 hown hK hP i (wat_2 hi) rfl 3 (by decide) (hts _ wf_2_22) (fun _ h => h) rfl hdg (kk H locs ls hl hP hS)
theorem wf_2_25 : Cond.fieldLink RX2 25 "PieFunnels$Parting" "brought" "[I" ∈ fkB := fkB_in (List.mem_of_getElem? (i := 296) (by decide +kernel)) rfl
theorem f_2_25 {g : fkG} {k : fkK} {ρ : Type} {en : ρ → Option Value} {cc : ByteArray} {nL fr lo pc : Nat} {ret : Option FieldType} {lv : List (Nat × Value)} {stk : List Value} {st : fkS} {F : Option (ρ × fkS)} (hk : fk_ok wC g k RX2 cc nL ret fr lo) {i : Nat} (hi : kdC i = 2) (hdg : decode cc pc = .ok (.getfield 25, 3))
    (kk : fk_J wC g en k (pc + 3) lv (fk_r g (i + 3) :: stk) st F) : fk_J wC g en k pc lv (fk_r g i :: stk) st F := by
  intro o ho hq
  have kk := kk o ho hq
  obtain ⟨p, l, e, R, s, m, args, below, meth, c, rv, sf⟩ := k
  obtain ⟨hx, hb, hml, hown, hts, hK, hE, hr, hlk, hinj, hfr, hlo⟩ := hk
  intro H locs ls hl hP hS
  exact va_get (D := g.2.1) (ci := 2) (C := RX2) (T := TX2) (N := 5) (v := fk_r g (i + 3)) hx hb hts wB_2 hown hK hP i (wat_2 hi) rfl 4 (by decide) (hts _ wf_2_25) (fun _ h => h) rfl hdg (kk H locs ls hl hP hS)
theorem wf_5_11 : Cond.fieldLink RX5 11 "PieFunnels$Shelf" "content" "I" ∈ fkB := fkB_in (List.mem_of_getElem? (i := 313) (by decide +kernel)) rfl
theorem f_5_11 {g : fkG} {k : fkK} {ρ : Type} {en : ρ → Option Value} {cc : ByteArray} {nL fr lo pc : Nat} {ret : Option FieldType} {lv : List (Nat × Value)} {stk : List Value} {st : fkS} (hk : fk_ok wC g k RX5 cc nL ret fr lo) {i : Nat} {F1 : Int32 → Option (ρ × fkS)} (hi : kdC i = 5) (hdg : decode cc pc = .ok (.getfield 11, 3))
    (kk : ∀ x, fk_J wC g en k (pc + 3) lv (.int x :: stk) st (F1 x)) : fk_J wC g en k pc lv (fk_r g i :: stk) st (fk_let (gI st 100 i) F1) := by
  intro o ho hq
  have kk := kk (gI st 100 i) o ho hq
  obtain ⟨p, l, e, R, s, m, args, below, meth, c, rv, sf⟩ := k
  obtain ⟨hx, hb, hml, hown, hts, hK, hE, hr, hlk, hinj, hfr, hlo⟩ := hk
  intro H locs ls hl hP hS
  exact va_get (D := g.2.1) (ci := 5) (C := RX5) (T := TX5) (N := 5) (v := .int (gI st 100 i)) hx hb hts wB_5 hown hK hP i (wat_5 hi) rfl 0 (by decide) (hts _ wf_5_11) (fun _ h => h) rfl hdg (kk H locs ls hl hP hS)
theorem p_5_11 {g : fkG} {k : fkK} {ρ : Type} {en : ρ → Option Value} {cc : ByteArray} {nL fr lo pc : Nat} {ret : Option FieldType} {lv : List (Nat × Value)} {stk : List Value} {st : fkS} (hk : fk_ok wC g k RX5 cc nL ret fr lo) {i : Nat} {v : Int32} {F1 : fkS → Option (ρ × fkS)} (hi : kdC i = 5) (hdg : decode cc pc = .ok (.putfield 11, 3))
    (kk : ∀ st1, fk_J wC g en k (pc + 3) lv stk st1 (F1 st1)) : fk_J wC g en k pc lv (.int v :: fk_r g i :: stk) st (fk_let (sI st 100 i v) F1) := by
  intro o ho hq
  have kk := kk (sI st 100 i v) o ho hq
  obtain ⟨p, l, e, R, s, m, args, below, meth, c, rv, sf⟩ := k
  obtain ⟨hx, hb, hml, hown, hts, hK, hE, hr, hlk, hinj, hfr, hlo⟩ := hk
  intro H locs ls hl hP hS
  refine va_put (D := g.2.1) (ci := 5) (C := RX5) (T := TX5) (N := 5) (v := .int v) (ty := .int) hx hb hts wB_5 tyX5 tyX5_ok nmX5 hown hK hP (fk_wD hinj _ _) hS i (wat_5 hi) rfl 0 (by decide) (hts _ wf_5_11) (fun _ h => h) rfl (by decide +kernel) rfl rfl (Nat.le_of_ble_eq_true rfl) hdg (fun H1 locs1 hP1 hD1 hS1 => kk H1 locs1 ls hl ?_ hS1)
  rw [← wst_5_0 hi]
  exact hP1
theorem wf_7_133 : Cond.fieldLinkNest RX7 133 "PieFunnels$Shelf" "content" "I" "PieFunnels" ∈ fk_nests := List.mem_of_getElem? (i := 35) (by decide +kernel)
theorem f_7_133 {g : fkG} {k : fkK} {ρ : Type} {en : ρ → Option Value} {cc : ByteArray} {nL fr lo pc : Nat} {ret : Option FieldType} {lv : List (Nat × Value)} {stk : List Value} {st : fkS} (hk : fk_ok wC g k RX7 cc nL ret fr lo) {i : Nat} {F1 : Int32 → Option (ρ × fkS)} (hi : kdC i = 5) (hdg : decode cc pc = .ok (.getfield 133, 3))
    (kk : ∀ x, fk_J wC g en k (pc + 3) lv (.int x :: stk) st (F1 x)) : fk_J wC g en k pc lv (fk_r g i :: stk) st (fk_let (gI st 100 i) F1) := by
  intro o ho hq
  have kk := kk (gI st 100 i) o ho hq
  obtain ⟨p, l, e, R, s, m, args, below, meth, c, rv, sf⟩ := k
  obtain ⟨hx, hb, hml, hown, hts, hK, hE, hr, hlk, hinj, hfr, hlo⟩ := hk
  intro H locs ls hl hP hS
  exact va_getN (D := g.2.1) (ci := 5) (C := RX5) (T := TX5) (N := 5) (v := .int (gI st 100 i)) hx hb hts wB_5 hown hK hP i (wat_5 hi) rfl 0 (by decide) (va_Nw.use rfl (hE.1 _ wf_7_133)) (fun _ h => h) rfl hdg (kk H locs ls hl hP hS)
theorem p_7_133 {g : fkG} {k : fkK} {ρ : Type} {en : ρ → Option Value} {cc : ByteArray} {nL fr lo pc : Nat} {ret : Option FieldType} {lv : List (Nat × Value)} {stk : List Value} {st : fkS} (hk : fk_ok wC g k RX7 cc nL ret fr lo) {i : Nat} {v : Int32} {F1 : fkS → Option (ρ × fkS)} (hi : kdC i = 5) (hdg : decode cc pc = .ok (.putfield 133, 3))
    (kk : ∀ st1, fk_J wC g en k (pc + 3) lv stk st1 (F1 st1)) : fk_J wC g en k pc lv (.int v :: fk_r g i :: stk) st (fk_let (sI st 100 i v) F1) := by
  intro o ho hq
  have kk := kk (sI st 100 i v) o ho hq
  obtain ⟨p, l, e, R, s, m, args, below, meth, c, rv, sf⟩ := k
  obtain ⟨hx, hb, hml, hown, hts, hK, hE, hr, hlk, hinj, hfr, hlo⟩ := hk
  intro H locs ls hl hP hS
  refine va_putN (D := g.2.1) (ci := 5) (C := RX5) (T := TX5) (N := 5) (v := .int v) (ty := .int) hx hb hts wB_5 tyX5 tyX5_ok nmX5 hown hK hP (fk_wD hinj _ _) hS i (wat_5 hi) rfl 0 (by decide) (va_Nw.use rfl (hE.1 _ wf_7_133)) (fun _ h => h) rfl (by decide +kernel) rfl rfl (Nat.le_of_ble_eq_true rfl) hdg (fun H1 locs1 hP1 hD1 hS1 => kk H1 locs1 ls hl ?_ hS1)
  rw [← wst_5_0 hi]
  exact hP1
theorem wf_5_15 : Cond.fieldLink RX5 15 "PieFunnels$Shelf" "bird" "I" ∈ fkB := fkB_in (List.mem_of_getElem? (i := 315) (by decide +kernel)) rfl
theorem f_5_15 {g : fkG} {k : fkK} {ρ : Type} {en : ρ → Option Value} {cc : ByteArray} {nL fr lo pc : Nat} {ret : Option FieldType} {lv : List (Nat × Value)} {stk : List Value} {st : fkS} (hk : fk_ok wC g k RX5 cc nL ret fr lo) {i : Nat} {F1 : Int32 → Option (ρ × fkS)} (hi : kdC i = 5) (hdg : decode cc pc = .ok (.getfield 15, 3))
    (kk : ∀ x, fk_J wC g en k (pc + 3) lv (.int x :: stk) st (F1 x)) : fk_J wC g en k pc lv (fk_r g i :: stk) st (fk_let (gI st 101 i) F1) := by
  intro o ho hq
  have kk := kk (gI st 101 i) o ho hq
  obtain ⟨p, l, e, R, s, m, args, below, meth, c, rv, sf⟩ := k
  obtain ⟨hx, hb, hml, hown, hts, hK, hE, hr, hlk, hinj, hfr, hlo⟩ := hk
  intro H locs ls hl hP hS
  exact va_get (D := g.2.1) (ci := 5) (C := RX5) (T := TX5) (N := 5) (v := .int (gI st 101 i)) hx hb hts wB_5 hown hK hP i (wat_5 hi) rfl 1 (by decide) (hts _ wf_5_15) (fun _ h => h) rfl hdg (kk H locs ls hl hP hS)
theorem p_5_15 {g : fkG} {k : fkK} {ρ : Type} {en : ρ → Option Value} {cc : ByteArray} {nL fr lo pc : Nat} {ret : Option FieldType} {lv : List (Nat × Value)} {stk : List Value} {st : fkS} (hk : fk_ok wC g k RX5 cc nL ret fr lo) {i : Nat} {v : Int32} {F1 : fkS → Option (ρ × fkS)} (hi : kdC i = 5) (hdg : decode cc pc = .ok (.putfield 15, 3))
    (kk : ∀ st1, fk_J wC g en k (pc + 3) lv stk st1 (F1 st1)) : fk_J wC g en k pc lv (.int v :: fk_r g i :: stk) st (fk_let (sI st 101 i v) F1) := by
  intro o ho hq
  have kk := kk (sI st 101 i v) o ho hq
  obtain ⟨p, l, e, R, s, m, args, below, meth, c, rv, sf⟩ := k
  obtain ⟨hx, hb, hml, hown, hts, hK, hE, hr, hlk, hinj, hfr, hlo⟩ := hk
  intro H locs ls hl hP hS
  refine va_put (D := g.2.1) (ci := 5) (C := RX5) (T := TX5) (N := 5) (v := .int v) (ty := .int) hx hb hts wB_5 tyX5 tyX5_ok nmX5 hown hK hP (fk_wD hinj _ _) hS i (wat_5 hi) rfl 1 (by decide) (hts _ wf_5_15) (fun _ h => h) rfl (by decide +kernel) rfl rfl (Nat.le_of_ble_eq_true rfl) hdg (fun H1 locs1 hP1 hD1 hS1 => kk H1 locs1 ls hl ?_ hS1)
  rw [← wst_5_1 hi]
  exact hP1
theorem wf_7_136 : Cond.fieldLinkNest RX7 136 "PieFunnels$Shelf" "bird" "I" "PieFunnels" ∈ fk_nests := List.mem_of_getElem? (i := 36) (by decide +kernel)
theorem f_7_136 {g : fkG} {k : fkK} {ρ : Type} {en : ρ → Option Value} {cc : ByteArray} {nL fr lo pc : Nat} {ret : Option FieldType} {lv : List (Nat × Value)} {stk : List Value} {st : fkS} (hk : fk_ok wC g k RX7 cc nL ret fr lo) {i : Nat} {F1 : Int32 → Option (ρ × fkS)} (hi : kdC i = 5) (hdg : decode cc pc = .ok (.getfield 136, 3))
    (kk : ∀ x, fk_J wC g en k (pc + 3) lv (.int x :: stk) st (F1 x)) : fk_J wC g en k pc lv (fk_r g i :: stk) st (fk_let (gI st 101 i) F1) := by
  intro o ho hq
  have kk := kk (gI st 101 i) o ho hq
  obtain ⟨p, l, e, R, s, m, args, below, meth, c, rv, sf⟩ := k
  obtain ⟨hx, hb, hml, hown, hts, hK, hE, hr, hlk, hinj, hfr, hlo⟩ := hk
  intro H locs ls hl hP hS
  exact va_getN (D := g.2.1) (ci := 5) (C := RX5) (T := TX5) (N := 5) (v := .int (gI st 101 i)) hx hb hts wB_5 hown hK hP i (wat_5 hi) rfl 1 (by decide) (va_Nw.use rfl (hE.1 _ wf_7_136)) (fun _ h => h) rfl hdg (kk H locs ls hl hP hS)
theorem p_7_136 {g : fkG} {k : fkK} {ρ : Type} {en : ρ → Option Value} {cc : ByteArray} {nL fr lo pc : Nat} {ret : Option FieldType} {lv : List (Nat × Value)} {stk : List Value} {st : fkS} (hk : fk_ok wC g k RX7 cc nL ret fr lo) {i : Nat} {v : Int32} {F1 : fkS → Option (ρ × fkS)} (hi : kdC i = 5) (hdg : decode cc pc = .ok (.putfield 136, 3))
    (kk : ∀ st1, fk_J wC g en k (pc + 3) lv stk st1 (F1 st1)) : fk_J wC g en k pc lv (.int v :: fk_r g i :: stk) st (fk_let (sI st 101 i v) F1) := by
  intro o ho hq
  have kk := kk (sI st 101 i v) o ho hq
  obtain ⟨p, l, e, R, s, m, args, below, meth, c, rv, sf⟩ := k
  obtain ⟨hx, hb, hml, hown, hts, hK, hE, hr, hlk, hinj, hfr, hlo⟩ := hk
  intro H locs ls hl hP hS
  refine va_putN (D := g.2.1) (ci := 5) (C := RX5) (T := TX5) (N := 5) (v := .int v) (ty := .int) hx hb hts wB_5 tyX5 tyX5_ok nmX5 hown hK hP (fk_wD hinj _ _) hS i (wat_5 hi) rfl 1 (by decide) (va_Nw.use rfl (hE.1 _ wf_7_136)) (fun _ h => h) rfl (by decide +kernel) rfl rfl (Nat.le_of_ble_eq_true rfl) hdg (fun H1 locs1 hP1 hD1 hS1 => kk H1 locs1 ls hl ?_ hS1)
  rw [← wst_5_1 hi]
  exact hP1
theorem wf_5_18 : Cond.fieldLink RX5 18 "PieFunnels$Shelf" "sort" "I" ∈ fkB := fkB_in (List.mem_of_getElem? (i := 317) (by decide +kernel)) rfl
theorem f_5_18 {g : fkG} {k : fkK} {ρ : Type} {en : ρ → Option Value} {cc : ByteArray} {nL fr lo pc : Nat} {ret : Option FieldType} {lv : List (Nat × Value)} {stk : List Value} {st : fkS} (hk : fk_ok wC g k RX5 cc nL ret fr lo) {i : Nat} {F1 : Int32 → Option (ρ × fkS)} (hi : kdC i = 5) (hdg : decode cc pc = .ok (.getfield 18, 3))
    (kk : ∀ x, fk_J wC g en k (pc + 3) lv (.int x :: stk) st (F1 x)) : fk_J wC g en k pc lv (fk_r g i :: stk) st (fk_let (gI st 102 i) F1) := by
  intro o ho hq
  have kk := kk (gI st 102 i) o ho hq
  obtain ⟨p, l, e, R, s, m, args, below, meth, c, rv, sf⟩ := k
  obtain ⟨hx, hb, hml, hown, hts, hK, hE, hr, hlk, hinj, hfr, hlo⟩ := hk
  intro H locs ls hl hP hS
  exact va_get (D := g.2.1) (ci := 5) (C := RX5) (T := TX5) (N := 5) (v := .int (gI st 102 i)) hx hb hts wB_5 hown hK hP i (wat_5 hi) rfl 2 (by decide) (hts _ wf_5_18) (fun _ h => h) rfl hdg (kk H locs ls hl hP hS)
theorem p_5_18 {g : fkG} {k : fkK} {ρ : Type} {en : ρ → Option Value} {cc : ByteArray} {nL fr lo pc : Nat} {ret : Option FieldType} {lv : List (Nat × Value)} {stk : List Value} {st : fkS} (hk : fk_ok wC g k RX5 cc nL ret fr lo) {i : Nat} {v : Int32} {F1 : fkS → Option (ρ × fkS)} (hi : kdC i = 5) (hdg : decode cc pc = .ok (.putfield 18, 3))
    (kk : ∀ st1, fk_J wC g en k (pc + 3) lv stk st1 (F1 st1)) : fk_J wC g en k pc lv (.int v :: fk_r g i :: stk) st (fk_let (sI st 102 i v) F1) := by
  intro o ho hq
  have kk := kk (sI st 102 i v) o ho hq
  obtain ⟨p, l, e, R, s, m, args, below, meth, c, rv, sf⟩ := k
  obtain ⟨hx, hb, hml, hown, hts, hK, hE, hr, hlk, hinj, hfr, hlo⟩ := hk
  intro H locs ls hl hP hS
  refine va_put (D := g.2.1) (ci := 5) (C := RX5) (T := TX5) (N := 5) (v := .int v) (ty := .int) hx hb hts wB_5 tyX5 tyX5_ok nmX5 hown hK hP (fk_wD hinj _ _) hS i (wat_5 hi) rfl 2 (by decide) (hts _ wf_5_18) (fun _ h => h) rfl (by decide +kernel) rfl rfl (Nat.le_of_ble_eq_true rfl) hdg (fun H1 locs1 hP1 hD1 hS1 => kk H1 locs1 ls hl ?_ hS1)
  rw [← wst_5_2 hi]
  exact hP1
theorem wf_7_102 : Cond.fieldLinkNest RX7 102 "PieFunnels$Shelf" "sort" "I" "PieFunnels" ∈ fk_nests := List.mem_of_getElem? (i := 37) (by decide +kernel)
theorem f_7_102 {g : fkG} {k : fkK} {ρ : Type} {en : ρ → Option Value} {cc : ByteArray} {nL fr lo pc : Nat} {ret : Option FieldType} {lv : List (Nat × Value)} {stk : List Value} {st : fkS} (hk : fk_ok wC g k RX7 cc nL ret fr lo) {i : Nat} {F1 : Int32 → Option (ρ × fkS)} (hi : kdC i = 5) (hdg : decode cc pc = .ok (.getfield 102, 3))
    (kk : ∀ x, fk_J wC g en k (pc + 3) lv (.int x :: stk) st (F1 x)) : fk_J wC g en k pc lv (fk_r g i :: stk) st (fk_let (gI st 102 i) F1) := by
  intro o ho hq
  have kk := kk (gI st 102 i) o ho hq
  obtain ⟨p, l, e, R, s, m, args, below, meth, c, rv, sf⟩ := k
  obtain ⟨hx, hb, hml, hown, hts, hK, hE, hr, hlk, hinj, hfr, hlo⟩ := hk
  intro H locs ls hl hP hS
  exact va_getN (D := g.2.1) (ci := 5) (C := RX5) (T := TX5) (N := 5) (v := .int (gI st 102 i)) hx hb hts wB_5 hown hK hP i (wat_5 hi) rfl 2 (by decide) (va_Nw.use rfl (hE.1 _ wf_7_102)) (fun _ h => h) rfl hdg (kk H locs ls hl hP hS)
theorem p_7_102 {g : fkG} {k : fkK} {ρ : Type} {en : ρ → Option Value} {cc : ByteArray} {nL fr lo pc : Nat} {ret : Option FieldType} {lv : List (Nat × Value)} {stk : List Value} {st : fkS} (hk : fk_ok wC g k RX7 cc nL ret fr lo) {i : Nat} {v : Int32} {F1 : fkS → Option (ρ × fkS)} (hi : kdC i = 5) (hdg : decode cc pc = .ok (.putfield 102, 3))
    (kk : ∀ st1, fk_J wC g en k (pc + 3) lv stk st1 (F1 st1)) : fk_J wC g en k pc lv (.int v :: fk_r g i :: stk) st (fk_let (sI st 102 i v) F1) := by
  intro o ho hq
  have kk := kk (sI st 102 i v) o ho hq
  obtain ⟨p, l, e, R, s, m, args, below, meth, c, rv, sf⟩ := k
  obtain ⟨hx, hb, hml, hown, hts, hK, hE, hr, hlk, hinj, hfr, hlo⟩ := hk
  intro H locs ls hl hP hS
  refine va_putN (D := g.2.1) (ci := 5) (C := RX5) (T := TX5) (N := 5) (v := .int v) (ty := .int) hx hb hts wB_5 tyX5 tyX5_ok nmX5 hown hK hP (fk_wD hinj _ _) hS i (wat_5 hi) rfl 2 (by decide) (va_Nw.use rfl (hE.1 _ wf_7_102)) (fun _ h => h) rfl (by decide +kernel) rfl rfl (Nat.le_of_ble_eq_true rfl) hdg (fun H1 locs1 hP1 hD1 hS1 => kk H1 locs1 ls hl ?_ hS1)
  rw [← wst_5_2 hi]
  exact hP1
theorem wf_5_21 : Cond.fieldLink RX5 21 "PieFunnels$Shelf" "size" "I" ∈ fkB := fkB_in (List.mem_of_getElem? (i := 319) (by decide +kernel)) rfl
theorem f_5_21 {g : fkG} {k : fkK} {ρ : Type} {en : ρ → Option Value} {cc : ByteArray} {nL fr lo pc : Nat} {ret : Option FieldType} {lv : List (Nat × Value)} {stk : List Value} {st : fkS} (hk : fk_ok wC g k RX5 cc nL ret fr lo) {i : Nat} {F1 : Int32 → Option (ρ × fkS)} (hi : kdC i = 5) (hdg : decode cc pc = .ok (.getfield 21, 3))
    (kk : ∀ x, fk_J wC g en k (pc + 3) lv (.int x :: stk) st (F1 x)) : fk_J wC g en k pc lv (fk_r g i :: stk) st (fk_let (gI st 103 i) F1) := by
  intro o ho hq
  have kk := kk (gI st 103 i) o ho hq
  obtain ⟨p, l, e, R, s, m, args, below, meth, c, rv, sf⟩ := k
  obtain ⟨hx, hb, hml, hown, hts, hK, hE, hr, hlk, hinj, hfr, hlo⟩ := hk
  intro H locs ls hl hP hS
  exact va_get (D := g.2.1) (ci := 5) (C := RX5) (T := TX5) (N := 5) (v := .int (gI st 103 i)) hx hb hts wB_5 hown hK hP i (wat_5 hi) rfl 3 (by decide) (hts _ wf_5_21) (fun _ h => h) rfl hdg (kk H locs ls hl hP hS)
theorem p_5_21 {g : fkG} {k : fkK} {ρ : Type} {en : ρ → Option Value} {cc : ByteArray} {nL fr lo pc : Nat} {ret : Option FieldType} {lv : List (Nat × Value)} {stk : List Value} {st : fkS} (hk : fk_ok wC g k RX5 cc nL ret fr lo) {i : Nat} {v : Int32} {F1 : fkS → Option (ρ × fkS)} (hi : kdC i = 5) (hdg : decode cc pc = .ok (.putfield 21, 3))
    (kk : ∀ st1, fk_J wC g en k (pc + 3) lv stk st1 (F1 st1)) : fk_J wC g en k pc lv (.int v :: fk_r g i :: stk) st (fk_let (sI st 103 i v) F1) := by
  intro o ho hq
  have kk := kk (sI st 103 i v) o ho hq
  obtain ⟨p, l, e, R, s, m, args, below, meth, c, rv, sf⟩ := k
  obtain ⟨hx, hb, hml, hown, hts, hK, hE, hr, hlk, hinj, hfr, hlo⟩ := hk
  intro H locs ls hl hP hS
  refine va_put (D := g.2.1) (ci := 5) (C := RX5) (T := TX5) (N := 5) (v := .int v) (ty := .int) hx hb hts wB_5 tyX5 tyX5_ok nmX5 hown hK hP (fk_wD hinj _ _) hS i (wat_5 hi) rfl 3 (by decide) (hts _ wf_5_21) (fun _ h => h) rfl (by decide +kernel) rfl rfl (Nat.le_of_ble_eq_true rfl) hdg (fun H1 locs1 hP1 hD1 hS1 => kk H1 locs1 ls hl ?_ hS1)
  rw [← wst_5_3 hi]
  exact hP1
theorem wf_3_19 : Cond.fieldLinkNest RX3 19 "PieFunnels$Shelf" "size" "I" "PieFunnels" ∈ fk_nests := List.mem_of_getElem? (i := 38) (by decide +kernel)
theorem f_3_19 {g : fkG} {k : fkK} {ρ : Type} {en : ρ → Option Value} {cc : ByteArray} {nL fr lo pc : Nat} {ret : Option FieldType} {lv : List (Nat × Value)} {stk : List Value} {st : fkS} (hk : fk_ok wC g k RX3 cc nL ret fr lo) {i : Nat} {F1 : Int32 → Option (ρ × fkS)} (hi : kdC i = 5) (hdg : decode cc pc = .ok (.getfield 19, 3))
    (kk : ∀ x, fk_J wC g en k (pc + 3) lv (.int x :: stk) st (F1 x)) : fk_J wC g en k pc lv (fk_r g i :: stk) st (fk_let (gI st 103 i) F1) := by
  intro o ho hq
  have kk := kk (gI st 103 i) o ho hq
  obtain ⟨p, l, e, R, s, m, args, below, meth, c, rv, sf⟩ := k
  obtain ⟨hx, hb, hml, hown, hts, hK, hE, hr, hlk, hinj, hfr, hlo⟩ := hk
  intro H locs ls hl hP hS
  exact va_getN (D := g.2.1) (ci := 5) (C := RX5) (T := TX5) (N := 5) (v := .int (gI st 103 i)) hx hb hts wB_5 hown hK hP i (wat_5 hi) rfl 3 (by decide) (va_Nw.use rfl (hE.1 _ wf_3_19)) (fun _ h => h) rfl hdg (kk H locs ls hl hP hS)
theorem p_3_19 {g : fkG} {k : fkK} {ρ : Type} {en : ρ → Option Value} {cc : ByteArray} {nL fr lo pc : Nat} {ret : Option FieldType} {lv : List (Nat × Value)} {stk : List Value} {st : fkS} (hk : fk_ok wC g k RX3 cc nL ret fr lo) {i : Nat} {v : Int32} {F1 : fkS → Option (ρ × fkS)} (hi : kdC i = 5) (hdg : decode cc pc = .ok (.putfield 19, 3))
    (kk : ∀ st1, fk_J wC g en k (pc + 3) lv stk st1 (F1 st1)) : fk_J wC g en k pc lv (.int v :: fk_r g i :: stk) st (fk_let (sI st 103 i v) F1) := by
  intro o ho hq
  have kk := kk (sI st 103 i v) o ho hq
  obtain ⟨p, l, e, R, s, m, args, below, meth, c, rv, sf⟩ := k
  obtain ⟨hx, hb, hml, hown, hts, hK, hE, hr, hlk, hinj, hfr, hlo⟩ := hk
  intro H locs ls hl hP hS
  refine va_putN (D := g.2.1) (ci := 5) (C := RX5) (T := TX5) (N := 5) (v := .int v) (ty := .int) hx hb hts wB_5 tyX5 tyX5_ok nmX5 hown hK hP (fk_wD hinj _ _) hS i (wat_5 hi) rfl 3 (by decide) (va_Nw.use rfl (hE.1 _ wf_3_19)) (fun _ h => h) rfl (by decide +kernel) rfl rfl (Nat.le_of_ble_eq_true rfl) hdg (fun H1 locs1 hP1 hD1 hS1 => kk H1 locs1 ls hl ?_ hS1)
  rw [← wst_5_3 hi]
  exact hP1
theorem wf_2_28 : Cond.fieldLinkNest RX2 28 "PieFunnels$Shelf" "size" "I" "PieFunnels" ∈ fk_nests := List.mem_of_getElem? (i := 39) (by decide +kernel)
theorem f_2_28 {g : fkG} {k : fkK} {ρ : Type} {en : ρ → Option Value} {cc : ByteArray} {nL fr lo pc : Nat} {ret : Option FieldType} {lv : List (Nat × Value)} {stk : List Value} {st : fkS} (hk : fk_ok wC g k RX2 cc nL ret fr lo) {i : Nat} {F1 : Int32 → Option (ρ × fkS)} (hi : kdC i = 5) (hdg : decode cc pc = .ok (.getfield 28, 3))
    (kk : ∀ x, fk_J wC g en k (pc + 3) lv (.int x :: stk) st (F1 x)) : fk_J wC g en k pc lv (fk_r g i :: stk) st (fk_let (gI st 103 i) F1) := by
  intro o ho hq
  have kk := kk (gI st 103 i) o ho hq
  obtain ⟨p, l, e, R, s, m, args, below, meth, c, rv, sf⟩ := k
  obtain ⟨hx, hb, hml, hown, hts, hK, hE, hr, hlk, hinj, hfr, hlo⟩ := hk
  intro H locs ls hl hP hS
  exact va_getN (D := g.2.1) (ci := 5) (C := RX5) (T := TX5) (N := 5) (v := .int (gI st 103 i)) hx hb hts wB_5 hown hK hP i (wat_5 hi) rfl 3 (by decide) (va_Nw.use rfl (hE.1 _ wf_2_28)) (fun _ h => h) rfl hdg (kk H locs ls hl hP hS)
theorem p_2_28 {g : fkG} {k : fkK} {ρ : Type} {en : ρ → Option Value} {cc : ByteArray} {nL fr lo pc : Nat} {ret : Option FieldType} {lv : List (Nat × Value)} {stk : List Value} {st : fkS} (hk : fk_ok wC g k RX2 cc nL ret fr lo) {i : Nat} {v : Int32} {F1 : fkS → Option (ρ × fkS)} (hi : kdC i = 5) (hdg : decode cc pc = .ok (.putfield 28, 3))
    (kk : ∀ st1, fk_J wC g en k (pc + 3) lv stk st1 (F1 st1)) : fk_J wC g en k pc lv (.int v :: fk_r g i :: stk) st (fk_let (sI st 103 i v) F1) := by
  intro o ho hq
  have kk := kk (sI st 103 i v) o ho hq
  obtain ⟨p, l, e, R, s, m, args, below, meth, c, rv, sf⟩ := k
  obtain ⟨hx, hb, hml, hown, hts, hK, hE, hr, hlk, hinj, hfr, hlo⟩ := hk
  intro H locs ls hl hP hS
  refine va_putN (D := g.2.1) (ci := 5) (C := RX5) (T := TX5) (N := 5) (v := .int v) (ty := .int) hx hb hts wB_5 tyX5 tyX5_ok nmX5 hown hK hP (fk_wD hinj _ _) hS i (wat_5 hi) rfl 3 (by decide) (va_Nw.use rfl (hE.1 _ wf_2_28)) (fun _ h => h) rfl (by decide +kernel) rfl rfl (Nat.le_of_ble_eq_true rfl) hdg (fun H1 locs1 hP1 hD1 hS1 => kk H1 locs1 ls hl ?_ hS1)
  rw [← wst_5_3 hi]
  exact hP1
theorem wf_4_34 : Cond.fieldLinkNest RX4 34 "PieFunnels$Shelf" "size" "I" "PieFunnels" ∈ fk_nests := List.mem_of_getElem? (i := 40) (by decide +kernel)
theorem f_4_34 {g : fkG} {k : fkK} {ρ : Type} {en : ρ → Option Value} {cc : ByteArray} {nL fr lo pc : Nat} {ret : Option FieldType} {lv : List (Nat × Value)} {stk : List Value} {st : fkS} (hk : fk_ok wC g k RX4 cc nL ret fr lo) {i : Nat} {F1 : Int32 → Option (ρ × fkS)} (hi : kdC i = 5) (hdg : decode cc pc = .ok (.getfield 34, 3))
    (kk : ∀ x, fk_J wC g en k (pc + 3) lv (.int x :: stk) st (F1 x)) : fk_J wC g en k pc lv (fk_r g i :: stk) st (fk_let (gI st 103 i) F1) := by
  intro o ho hq
  have kk := kk (gI st 103 i) o ho hq
  obtain ⟨p, l, e, R, s, m, args, below, meth, c, rv, sf⟩ := k
  obtain ⟨hx, hb, hml, hown, hts, hK, hE, hr, hlk, hinj, hfr, hlo⟩ := hk
  intro H locs ls hl hP hS
  exact va_getN (D := g.2.1) (ci := 5) (C := RX5) (T := TX5) (N := 5) (v := .int (gI st 103 i)) hx hb hts wB_5 hown hK hP i (wat_5 hi) rfl 3 (by decide) (va_Nw.use rfl (hE.1 _ wf_4_34)) (fun _ h => h) rfl hdg (kk H locs ls hl hP hS)
theorem p_4_34 {g : fkG} {k : fkK} {ρ : Type} {en : ρ → Option Value} {cc : ByteArray} {nL fr lo pc : Nat} {ret : Option FieldType} {lv : List (Nat × Value)} {stk : List Value} {st : fkS} (hk : fk_ok wC g k RX4 cc nL ret fr lo) {i : Nat} {v : Int32} {F1 : fkS → Option (ρ × fkS)} (hi : kdC i = 5) (hdg : decode cc pc = .ok (.putfield 34, 3))
    (kk : ∀ st1, fk_J wC g en k (pc + 3) lv stk st1 (F1 st1)) : fk_J wC g en k pc lv (.int v :: fk_r g i :: stk) st (fk_let (sI st 103 i v) F1) := by
  intro o ho hq
  have kk := kk (sI st 103 i v) o ho hq
  obtain ⟨p, l, e, R, s, m, args, below, meth, c, rv, sf⟩ := k
  obtain ⟨hx, hb, hml, hown, hts, hK, hE, hr, hlk, hinj, hfr, hlo⟩ := hk
  intro H locs ls hl hP hS
  refine va_putN (D := g.2.1) (ci := 5) (C := RX5) (T := TX5) (N := 5) (v := .int v) (ty := .int) hx hb hts wB_5 tyX5 tyX5_ok nmX5 hown hK hP (fk_wD hinj _ _) hS i (wat_5 hi) rfl 3 (by decide) (va_Nw.use rfl (hE.1 _ wf_4_34)) (fun _ h => h) rfl (by decide +kernel) rfl rfl (Nat.le_of_ble_eq_true rfl) hdg (fun H1 locs1 hP1 hD1 hS1 => kk H1 locs1 ls hl ?_ hS1)
  rw [← wst_5_3 hi]
  exact hP1
theorem wf_7_90 : Cond.fieldLinkNest RX7 90 "PieFunnels$Shelf" "size" "I" "PieFunnels" ∈ fk_nests := List.mem_of_getElem? (i := 41) (by decide +kernel)
theorem f_7_90 {g : fkG} {k : fkK} {ρ : Type} {en : ρ → Option Value} {cc : ByteArray} {nL fr lo pc : Nat} {ret : Option FieldType} {lv : List (Nat × Value)} {stk : List Value} {st : fkS} (hk : fk_ok wC g k RX7 cc nL ret fr lo) {i : Nat} {F1 : Int32 → Option (ρ × fkS)} (hi : kdC i = 5) (hdg : decode cc pc = .ok (.getfield 90, 3))
    (kk : ∀ x, fk_J wC g en k (pc + 3) lv (.int x :: stk) st (F1 x)) : fk_J wC g en k pc lv (fk_r g i :: stk) st (fk_let (gI st 103 i) F1) := by
  intro o ho hq
  have kk := kk (gI st 103 i) o ho hq
  obtain ⟨p, l, e, R, s, m, args, below, meth, c, rv, sf⟩ := k
  obtain ⟨hx, hb, hml, hown, hts, hK, hE, hr, hlk, hinj, hfr, hlo⟩ := hk
  intro H locs ls hl hP hS
  exact va_getN (D := g.2.1) (ci := 5) (C := RX5) (T := TX5) (N := 5) (v := .int (gI st 103 i)) hx hb hts wB_5 hown hK hP i (wat_5 hi) rfl 3 (by decide) (va_Nw.use rfl (hE.1 _ wf_7_90)) (fun _ h => h) rfl hdg (kk H locs ls hl hP hS)
theorem p_7_90 {g : fkG} {k : fkK} {ρ : Type} {en : ρ → Option Value} {cc : ByteArray} {nL fr lo pc : Nat} {ret : Option FieldType} {lv : List (Nat × Value)} {stk : List Value} {st : fkS} (hk : fk_ok wC g k RX7 cc nL ret fr lo) {i : Nat} {v : Int32} {F1 : fkS → Option (ρ × fkS)} (hi : kdC i = 5) (hdg : decode cc pc = .ok (.putfield 90, 3))
    (kk : ∀ st1, fk_J wC g en k (pc + 3) lv stk st1 (F1 st1)) : fk_J wC g en k pc lv (.int v :: fk_r g i :: stk) st (fk_let (sI st 103 i v) F1) := by
  intro o ho hq
  have kk := kk (sI st 103 i v) o ho hq
  obtain ⟨p, l, e, R, s, m, args, below, meth, c, rv, sf⟩ := k
  obtain ⟨hx, hb, hml, hown, hts, hK, hE, hr, hlk, hinj, hfr, hlo⟩ := hk
  intro H locs ls hl hP hS
  refine va_putN (D := g.2.1) (ci := 5) (C := RX5) (T := TX5) (N := 5) (v := .int v) (ty := .int) hx hb hts wB_5 tyX5 tyX5_ok nmX5 hown hK hP (fk_wD hinj _ _) hS i (wat_5 hi) rfl 3 (by decide) (va_Nw.use rfl (hE.1 _ wf_7_90)) (fun _ h => h) rfl (by decide +kernel) rfl rfl (Nat.le_of_ble_eq_true rfl) hdg (fun H1 locs1 hP1 hD1 hS1 => kk H1 locs1 ls hl ?_ hS1)
  rw [← wst_5_3 hi]
  exact hP1
theorem wf_6_91 : Cond.fieldLinkNest RX6 91 "PieFunnels$Shelf" "size" "I" "PieFunnels" ∈ fk_nests := List.mem_of_getElem? (i := 42) (by decide +kernel)
theorem f_6_91 {g : fkG} {k : fkK} {ρ : Type} {en : ρ → Option Value} {cc : ByteArray} {nL fr lo pc : Nat} {ret : Option FieldType} {lv : List (Nat × Value)} {stk : List Value} {st : fkS} (hk : fk_ok wC g k RX6 cc nL ret fr lo) {i : Nat} {F1 : Int32 → Option (ρ × fkS)} (hi : kdC i = 5) (hdg : decode cc pc = .ok (.getfield 91, 3))
    (kk : ∀ x, fk_J wC g en k (pc + 3) lv (.int x :: stk) st (F1 x)) : fk_J wC g en k pc lv (fk_r g i :: stk) st (fk_let (gI st 103 i) F1) := by
  intro o ho hq
  have kk := kk (gI st 103 i) o ho hq
  obtain ⟨p, l, e, R, s, m, args, below, meth, c, rv, sf⟩ := k
  obtain ⟨hx, hb, hml, hown, hts, hK, hE, hr, hlk, hinj, hfr, hlo⟩ := hk
  intro H locs ls hl hP hS
  exact va_getN (D := g.2.1) (ci := 5) (C := RX5) (T := TX5) (N := 5) (v := .int (gI st 103 i)) hx hb hts wB_5 hown hK hP i (wat_5 hi) rfl 3 (by decide) (va_Nw.use rfl (hE.1 _ wf_6_91)) (fun _ h => h) rfl hdg (kk H locs ls hl hP hS)
theorem p_6_91 {g : fkG} {k : fkK} {ρ : Type} {en : ρ → Option Value} {cc : ByteArray} {nL fr lo pc : Nat} {ret : Option FieldType} {lv : List (Nat × Value)} {stk : List Value} {st : fkS} (hk : fk_ok wC g k RX6 cc nL ret fr lo) {i : Nat} {v : Int32} {F1 : fkS → Option (ρ × fkS)} (hi : kdC i = 5) (hdg : decode cc pc = .ok (.putfield 91, 3))
    (kk : ∀ st1, fk_J wC g en k (pc + 3) lv stk st1 (F1 st1)) : fk_J wC g en k pc lv (.int v :: fk_r g i :: stk) st (fk_let (sI st 103 i v) F1) := by
  intro o ho hq
  have kk := kk (sI st 103 i v) o ho hq
  obtain ⟨p, l, e, R, s, m, args, below, meth, c, rv, sf⟩ := k
  obtain ⟨hx, hb, hml, hown, hts, hK, hE, hr, hlk, hinj, hfr, hlo⟩ := hk
  intro H locs ls hl hP hS
  refine va_putN (D := g.2.1) (ci := 5) (C := RX5) (T := TX5) (N := 5) (v := .int v) (ty := .int) hx hb hts wB_5 tyX5 tyX5_ok nmX5 hown hK hP (fk_wD hinj _ _) hS i (wat_5 hi) rfl 3 (by decide) (va_Nw.use rfl (hE.1 _ wf_6_91)) (fun _ h => h) rfl (by decide +kernel) rfl rfl (Nat.le_of_ble_eq_true rfl) hdg (fun H1 locs1 hP1 hD1 hS1 => kk H1 locs1 ls hl ?_ hS1)
  rw [← wst_5_3 hi]
  exact hP1
theorem wf_5_24 : Cond.fieldLink RX5 24 "PieFunnels$Shelf" "cells" "[J" ∈ fkB := fkB_in (List.mem_of_getElem? (i := 325) (by decide +kernel)) rfl
theorem f_5_24 {g : fkG} {k : fkK} {ρ : Type} {en : ρ → Option Value} {cc : ByteArray} {nL fr lo pc : Nat} {ret : Option FieldType} {lv : List (Nat × Value)} {stk : List Value} {st : fkS} {F : Option (ρ × fkS)} (hk : fk_ok wC g k RX5 cc nL ret fr lo) {i : Nat} (hi : kdC i = 5) (hdg : decode cc pc = .ok (.getfield 24, 3))
    (kk : fk_J wC g en k (pc + 3) lv (fk_r g (i + 8) :: stk) st F) : fk_J wC g en k pc lv (fk_r g i :: stk) st F := by
  intro o ho hq
  have kk := kk o ho hq
  obtain ⟨p, l, e, R, s, m, args, below, meth, c, rv, sf⟩ := k
  obtain ⟨hx, hb, hml, hown, hts, hK, hE, hr, hlk, hinj, hfr, hlo⟩ := hk
  intro H locs ls hl hP hS
  exact va_get (D := g.2.1) (ci := 5) (C := RX5) (T := TX5) (N := 5) (v := fk_r g (i + 8)) hx hb hts wB_5 hown hK hP i (wat_5 hi) rfl 4 (by decide) (hts _ wf_5_24) (fun _ h => h) rfl hdg (kk H locs ls hl hP hS)
theorem wf_7_109 : Cond.fieldLinkNest RX7 109 "PieFunnels$Shelf" "cells" "[J" "PieFunnels" ∈ fk_nests := List.mem_of_getElem? (i := 43) (by decide +kernel)
theorem f_7_109 {g : fkG} {k : fkK} {ρ : Type} {en : ρ → Option Value} {cc : ByteArray} {nL fr lo pc : Nat} {ret : Option FieldType} {lv : List (Nat × Value)} {stk : List Value} {st : fkS} {F : Option (ρ × fkS)} (hk : fk_ok wC g k RX7 cc nL ret fr lo) {i : Nat} (hi : kdC i = 5) (hdg : decode cc pc = .ok (.getfield 109, 3))
    (kk : fk_J wC g en k (pc + 3) lv (fk_r g (i + 8) :: stk) st F) : fk_J wC g en k pc lv (fk_r g i :: stk) st F := by
  intro o ho hq
  have kk := kk o ho hq
  obtain ⟨p, l, e, R, s, m, args, below, meth, c, rv, sf⟩ := k
  obtain ⟨hx, hb, hml, hown, hts, hK, hE, hr, hlk, hinj, hfr, hlo⟩ := hk
  intro H locs ls hl hP hS
  exact va_getN (D := g.2.1) (ci := 5) (C := RX5) (T := TX5) (N := 5) (v := fk_r g (i + 8)) hx hb hts wB_5 hown hK hP i (wat_5 hi) rfl 4 (by decide) (va_Nw.use rfl (hE.1 _ wf_7_109)) (fun _ h => h) rfl hdg (kk H locs ls hl hP hS)
theorem wf_4_115 : Cond.fieldLinkNest RX4 115 "PieFunnels$Shelf" "cells" "[J" "PieFunnels" ∈ fk_nests := List.mem_of_getElem? (i := 44) (by decide +kernel)
theorem f_4_115 {g : fkG} {k : fkK} {ρ : Type} {en : ρ → Option Value} {cc : ByteArray} {nL fr lo pc : Nat} {ret : Option FieldType} {lv : List (Nat × Value)} {stk : List Value} {st : fkS} {F : Option (ρ × fkS)} (hk : fk_ok wC g k RX4 cc nL ret fr lo) {i : Nat} (hi : kdC i = 5) (hdg : decode cc pc = .ok (.getfield 115, 3))
    (kk : fk_J wC g en k (pc + 3) lv (fk_r g (i + 8) :: stk) st F) : fk_J wC g en k pc lv (fk_r g i :: stk) st F := by
  intro o ho hq
  have kk := kk o ho hq
  obtain ⟨p, l, e, R, s, m, args, below, meth, c, rv, sf⟩ := k
  obtain ⟨hx, hb, hml, hown, hts, hK, hE, hr, hlk, hinj, hfr, hlo⟩ := hk
  intro H locs ls hl hP hS
  exact va_getN (D := g.2.1) (ci := 5) (C := RX5) (T := TX5) (N := 5) (v := fk_r g (i + 8)) hx hb hts wB_5 hown hK hP i (wat_5 hi) rfl 4 (by decide) (va_Nw.use rfl (hE.1 _ wf_4_115)) (fun _ h => h) rfl hdg (kk H locs ls hl hP hS)
theorem wf_7_11 : Cond.fieldLink RX7 11 "PieFunnels" "shelves" "[LPieFunnels$Shelf;" ∈ fkB := fkB_in (List.mem_of_getElem? (i := 340) (by decide +kernel)) rfl
theorem f_7_11 {g : fkG} {k : fkK} {ρ : Type} {en : ρ → Option Value} {cc : ByteArray} {nL fr lo pc : Nat} {ret : Option FieldType} {lv : List (Nat × Value)} {stk : List Value} {st : fkS} {F : Option (ρ × fkS)} (hk : fk_ok wC g k RX7 cc nL ret fr lo) {i : Nat} (hi : kdC i = 7) (hdg : decode cc pc = .ok (.getfield 11, 3))
    (kk : fk_J wC g en k (pc + 3) lv (fk_r g 2 :: stk) st F) : fk_J wC g en k pc lv (fk_r g i :: stk) st F := by
  intro o ho hq
  have kk := kk o ho hq
  obtain ⟨p, l, e, R, s, m, args, below, meth, c, rv, sf⟩ := k
  obtain ⟨hx, hb, hml, hown, hts, hK, hE, hr, hlk, hinj, hfr, hlo⟩ := hk
  intro H locs ls hl hP hS
  exact va_get (D := g.2.1) (ci := 7) (C := RX7) (T := TX7) (N := 12) (v := fk_r g 2) hx hb hts wB_7 hown hK hP i (wat_7 hi) rfl 0 (by decide) (hts _ wf_7_11) (fun _ h => h) rfl hdg (kk H locs ls hl hP hS)
theorem wf_7_18 : Cond.fieldLink RX7 18 "PieFunnels" "bakery" "LPieFunnels$Bakery;" ∈ fkB := fkB_in (List.mem_of_getElem? (i := 341) (by decide +kernel)) rfl
theorem f_7_18 {g : fkG} {k : fkK} {ρ : Type} {en : ρ → Option Value} {cc : ByteArray} {nL fr lo pc : Nat} {ret : Option FieldType} {lv : List (Nat × Value)} {stk : List Value} {st : fkS} {F : Option (ρ × fkS)} (hk : fk_ok wC g k RX7 cc nL ret fr lo) {i : Nat} (hi : kdC i = 7) (hdg : decode cc pc = .ok (.getfield 18, 3))
    (kk : fk_J wC g en k (pc + 3) lv (fk_r g 19 :: stk) st F) : fk_J wC g en k pc lv (fk_r g i :: stk) st F := by
  intro o ho hq
  have kk := kk o ho hq
  obtain ⟨p, l, e, R, s, m, args, below, meth, c, rv, sf⟩ := k
  obtain ⟨hx, hb, hml, hown, hts, hK, hE, hr, hlk, hinj, hfr, hlo⟩ := hk
  intro H locs ls hl hP hS
  exact va_get (D := g.2.1) (ci := 7) (C := RX7) (T := TX7) (N := 12) (v := fk_r g 19) hx hb hts wB_7 hown hK hP i (wat_7 hi) rfl 1 (by decide) (hts _ wf_7_18) (fun _ h => h) rfl hdg (kk H locs ls hl hP hS)
theorem wf_7_22 : Cond.fieldLink RX7 22 "PieFunnels" "draft" "LPieFunnels$Bakery;" ∈ fkB := fkB_in (List.mem_of_getElem? (i := 342) (by decide +kernel)) rfl
theorem f_7_22 {g : fkG} {k : fkK} {ρ : Type} {en : ρ → Option Value} {cc : ByteArray} {nL fr lo pc : Nat} {ret : Option FieldType} {lv : List (Nat × Value)} {stk : List Value} {st : fkS} {F : Option (ρ × fkS)} (hk : fk_ok wC g k RX7 cc nL ret fr lo) {i : Nat} (hi : kdC i = 7) (hdg : decode cc pc = .ok (.getfield 22, 3))
    (kk : fk_J wC g en k (pc + 3) lv (fk_r g 20 :: stk) st F) : fk_J wC g en k pc lv (fk_r g i :: stk) st F := by
  intro o ho hq
  have kk := kk o ho hq
  obtain ⟨p, l, e, R, s, m, args, below, meth, c, rv, sf⟩ := k
  obtain ⟨hx, hb, hml, hown, hts, hK, hE, hr, hlk, hinj, hfr, hlo⟩ := hk
  intro H locs ls hl hP hS
  exact va_get (D := g.2.1) (ci := 7) (C := RX7) (T := TX7) (N := 12) (v := fk_r g 20) hx hb hts wB_7 hown hK hP i (wat_7 hi) rfl 2 (by decide) (hts _ wf_7_22) (fun _ h => h) rfl hdg (kk H locs ls hl hP hS)
theorem wf_7_25 : Cond.fieldLink RX7 25 "PieFunnels" "kept" "LPieFunnels$Bakery;" ∈ fkB := fkB_in (List.mem_of_getElem? (i := 343) (by decide +kernel)) rfl
theorem f_7_25 {g : fkG} {k : fkK} {ρ : Type} {en : ρ → Option Value} {cc : ByteArray} {nL fr lo pc : Nat} {ret : Option FieldType} {lv : List (Nat × Value)} {stk : List Value} {st : fkS} {F : Option (ρ × fkS)} (hk : fk_ok wC g k RX7 cc nL ret fr lo) {i : Nat} (hi : kdC i = 7) (hdg : decode cc pc = .ok (.getfield 25, 3))
    (kk : fk_J wC g en k (pc + 3) lv (fk_r g 21 :: stk) st F) : fk_J wC g en k pc lv (fk_r g i :: stk) st F := by
  intro o ho hq
  have kk := kk o ho hq
  obtain ⟨p, l, e, R, s, m, args, below, meth, c, rv, sf⟩ := k
  obtain ⟨hx, hb, hml, hown, hts, hK, hE, hr, hlk, hinj, hfr, hlo⟩ := hk
  intro H locs ls hl hP hS
  exact va_get (D := g.2.1) (ci := 7) (C := RX7) (T := TX7) (N := 12) (v := fk_r g 21) hx hb hts wB_7 hown hK hP i (wat_7 hi) rfl 3 (by decide) (hts _ wf_7_25) (fun _ h => h) rfl hdg (kk H locs ls hl hP hS)
theorem wf_7_28 : Cond.fieldLink RX7 28 "PieFunnels" "anyKept" "Z" ∈ fkB := fkB_in (List.mem_of_getElem? (i := 344) (by decide +kernel)) rfl
theorem f_7_28 {g : fkG} {k : fkK} {ρ : Type} {en : ρ → Option Value} {cc : ByteArray} {nL fr lo pc : Nat} {ret : Option FieldType} {lv : List (Nat × Value)} {stk : List Value} {st : fkS} (hk : fk_ok wC g k RX7 cc nL ret fr lo) {i : Nat} {F1 : Int32 → Option (ρ × fkS)} (hi : kdC i = 7) (hdg : decode cc pc = .ok (.getfield 28, 3))
    (kk : ∀ x, fk_J wC g en k (pc + 3) lv (.int x :: stk) st (F1 x)) : fk_J wC g en k pc lv (fk_r g i :: stk) st (fk_let (gI st 144 i) F1) := by
  intro o ho hq
  have kk := kk (gI st 144 i) o ho hq
  obtain ⟨p, l, e, R, s, m, args, below, meth, c, rv, sf⟩ := k
  obtain ⟨hx, hb, hml, hown, hts, hK, hE, hr, hlk, hinj, hfr, hlo⟩ := hk
  intro H locs ls hl hP hS
  exact va_get (D := g.2.1) (ci := 7) (C := RX7) (T := TX7) (N := 12) (v := .int (gI st 144 i)) hx hb hts wB_7 hown hK hP i (wat_7 hi) rfl 4 (by decide) (hts _ wf_7_28) (fun _ h => h) rfl hdg (kk H locs ls hl hP hS)
theorem p_7_28 {g : fkG} {k : fkK} {ρ : Type} {en : ρ → Option Value} {cc : ByteArray} {nL fr lo pc : Nat} {ret : Option FieldType} {lv : List (Nat × Value)} {stk : List Value} {st : fkS} (hk : fk_ok wC g k RX7 cc nL ret fr lo) {i : Nat} {v : Int32} {F1 : fkS → Option (ρ × fkS)} (hi : kdC i = 7) (hn : narrow .boolean (.int v) = .int v) (hft : fits .boolean (.int v) = true) (hdg : decode cc pc = .ok (.putfield 28, 3))
    (kk : ∀ st1, fk_J wC g en k (pc + 3) lv stk st1 (F1 st1)) : fk_J wC g en k pc lv (.int v :: fk_r g i :: stk) st (fk_let (sI st 144 i v) F1) := by
  intro o ho hq
  have kk := kk (sI st 144 i v) o ho hq
  obtain ⟨p, l, e, R, s, m, args, below, meth, c, rv, sf⟩ := k
  obtain ⟨hx, hb, hml, hown, hts, hK, hE, hr, hlk, hinj, hfr, hlo⟩ := hk
  intro H locs ls hl hP hS
  refine va_put (D := g.2.1) (ci := 7) (C := RX7) (T := TX7) (N := 12) (v := .int v) (ty := .boolean) hx hb hts wB_7 tyX7 tyX7_ok nmX7 hown hK hP (fk_wD hinj _ _) hS i (wat_7 hi) rfl 4 (by decide) (hts _ wf_7_28) (fun _ h => h) rfl (by decide +kernel) hn hft (Nat.le_of_ble_eq_true rfl) hdg (fun H1 locs1 hP1 hD1 hS1 => kk H1 locs1 ls hl ?_ hS1)
  rw [← wst_7_4 hi]
  exact hP1
theorem wf_7_35 : Cond.fieldLink RX7 35 "PieFunnels" "reader" "LPieFunnels$Reader;" ∈ fkB := fkB_in (List.mem_of_getElem? (i := 345) (by decide +kernel)) rfl
theorem f_7_35 {g : fkG} {k : fkK} {ρ : Type} {en : ρ → Option Value} {cc : ByteArray} {nL fr lo pc : Nat} {ret : Option FieldType} {lv : List (Nat × Value)} {stk : List Value} {st : fkS} {F : Option (ρ × fkS)} (hk : fk_ok wC g k RX7 cc nL ret fr lo) {i : Nat} (hi : kdC i = 7) (hdg : decode cc pc = .ok (.getfield 35, 3))
    (kk : fk_J wC g en k (pc + 3) lv (fk_r g 34 :: stk) st F) : fk_J wC g en k pc lv (fk_r g i :: stk) st F := by
  intro o ho hq
  have kk := kk o ho hq
  obtain ⟨p, l, e, R, s, m, args, below, meth, c, rv, sf⟩ := k
  obtain ⟨hx, hb, hml, hown, hts, hK, hE, hr, hlk, hinj, hfr, hlo⟩ := hk
  intro H locs ls hl hP hS
  exact va_get (D := g.2.1) (ci := 7) (C := RX7) (T := TX7) (N := 12) (v := fk_r g 34) hx hb hts wB_7 hown hK hP i (wat_7 hi) rfl 5 (by decide) (hts _ wf_7_35) (fun _ h => h) rfl hdg (kk H locs ls hl hP hS)
theorem wf_7_42 : Cond.fieldLink RX7 42 "PieFunnels" "moves" "LPieFunnels$Moves;" ∈ fkB := fkB_in (List.mem_of_getElem? (i := 346) (by decide +kernel)) rfl
theorem f_7_42 {g : fkG} {k : fkK} {ρ : Type} {en : ρ → Option Value} {cc : ByteArray} {nL fr lo pc : Nat} {ret : Option FieldType} {lv : List (Nat × Value)} {stk : List Value} {st : fkS} {F : Option (ρ × fkS)} (hk : fk_ok wC g k RX7 cc nL ret fr lo) {i : Nat} (hi : kdC i = 7) (hdg : decode cc pc = .ok (.getfield 42, 3))
    (kk : fk_J wC g en k (pc + 3) lv (fk_r g 36 :: stk) st F) : fk_J wC g en k pc lv (fk_r g i :: stk) st F := by
  intro o ho hq
  have kk := kk o ho hq
  obtain ⟨p, l, e, R, s, m, args, below, meth, c, rv, sf⟩ := k
  obtain ⟨hx, hb, hml, hown, hts, hK, hE, hr, hlk, hinj, hfr, hlo⟩ := hk
  intro H locs ls hl hP hS
  exact va_get (D := g.2.1) (ci := 7) (C := RX7) (T := TX7) (N := 12) (v := fk_r g 36) hx hb hts wB_7 hown hK hP i (wat_7 hi) rfl 6 (by decide) (hts _ wf_7_42) (fun _ h => h) rfl hdg (kk H locs ls hl hP hS)
theorem wf_7_49 : Cond.fieldLink RX7 49 "PieFunnels" "pie" "LPieFunnels$Pie;" ∈ fkB := fkB_in (List.mem_of_getElem? (i := 347) (by decide +kernel)) rfl
theorem f_7_49 {g : fkG} {k : fkK} {ρ : Type} {en : ρ → Option Value} {cc : ByteArray} {nL fr lo pc : Nat} {ret : Option FieldType} {lv : List (Nat × Value)} {stk : List Value} {st : fkS} {F : Option (ρ × fkS)} (hk : fk_ok wC g k RX7 cc nL ret fr lo) {i : Nat} (hi : kdC i = 7) (hdg : decode cc pc = .ok (.getfield 49, 3))
    (kk : fk_J wC g en k (pc + 3) lv (fk_r g 38 :: stk) st F) : fk_J wC g en k pc lv (fk_r g i :: stk) st F := by
  intro o ho hq
  have kk := kk o ho hq
  obtain ⟨p, l, e, R, s, m, args, below, meth, c, rv, sf⟩ := k
  obtain ⟨hx, hb, hml, hown, hts, hK, hE, hr, hlk, hinj, hfr, hlo⟩ := hk
  intro H locs ls hl hP hS
  exact va_get (D := g.2.1) (ci := 7) (C := RX7) (T := TX7) (N := 12) (v := fk_r g 38) hx hb hts wB_7 hown hK hP i (wat_7 hi) rfl 7 (by decide) (hts _ wf_7_49) (fun _ h => h) rfl hdg (kk H locs ls hl hP hS)
theorem wf_7_56 : Cond.fieldLink RX7 56 "PieFunnels" "voice" "LPieFunnels$Voice;" ∈ fkB := fkB_in (List.mem_of_getElem? (i := 348) (by decide +kernel)) rfl
theorem f_7_56 {g : fkG} {k : fkK} {ρ : Type} {en : ρ → Option Value} {cc : ByteArray} {nL fr lo pc : Nat} {ret : Option FieldType} {lv : List (Nat × Value)} {stk : List Value} {st : fkS} {F : Option (ρ × fkS)} (hk : fk_ok wC g k RX7 cc nL ret fr lo) {i : Nat} (hi : kdC i = 7) (hdg : decode cc pc = .ok (.getfield 56, 3))
    (kk : fk_J wC g en k (pc + 3) lv (fk_r g 40 :: stk) st F) : fk_J wC g en k pc lv (fk_r g i :: stk) st F := by
  intro o ho hq
  have kk := kk o ho hq
  obtain ⟨p, l, e, R, s, m, args, below, meth, c, rv, sf⟩ := k
  obtain ⟨hx, hb, hml, hown, hts, hK, hE, hr, hlk, hinj, hfr, hlo⟩ := hk
  intro H locs ls hl hP hS
  exact va_get (D := g.2.1) (ci := 7) (C := RX7) (T := TX7) (N := 12) (v := fk_r g 40) hx hb hts wB_7 hown hK hP i (wat_7 hi) rfl 8 (by decide) (hts _ wf_7_56) (fun _ h => h) rfl hdg (kk H locs ls hl hP hS)
theorem wf_7_60 : Cond.fieldLink RX7 60 "PieFunnels" "second" "LPieFunnels$Voice;" ∈ fkB := fkB_in (List.mem_of_getElem? (i := 349) (by decide +kernel)) rfl
theorem f_7_60 {g : fkG} {k : fkK} {ρ : Type} {en : ρ → Option Value} {cc : ByteArray} {nL fr lo pc : Nat} {ret : Option FieldType} {lv : List (Nat × Value)} {stk : List Value} {st : fkS} {F : Option (ρ × fkS)} (hk : fk_ok wC g k RX7 cc nL ret fr lo) {i : Nat} (hi : kdC i = 7) (hdg : decode cc pc = .ok (.getfield 60, 3))
    (kk : fk_J wC g en k (pc + 3) lv (fk_r g 41 :: stk) st F) : fk_J wC g en k pc lv (fk_r g i :: stk) st F := by
  intro o ho hq
  have kk := kk o ho hq
  obtain ⟨p, l, e, R, s, m, args, below, meth, c, rv, sf⟩ := k
  obtain ⟨hx, hb, hml, hown, hts, hK, hE, hr, hlk, hinj, hfr, hlo⟩ := hk
  intro H locs ls hl hP hS
  exact va_get (D := g.2.1) (ci := 7) (C := RX7) (T := TX7) (N := 12) (v := fk_r g 41) hx hb hts wB_7 hown hK hP i (wat_7 hi) rfl 9 (by decide) (hts _ wf_7_60) (fun _ h => h) rfl hdg (kk H locs ls hl hP hS)
theorem wf_7_66 : Cond.fieldLink RX7 66 "PieFunnels" "parting" "LPieFunnels$Parting;" ∈ fkB := fkB_in (List.mem_of_getElem? (i := 350) (by decide +kernel)) rfl
theorem f_7_66 {g : fkG} {k : fkK} {ρ : Type} {en : ρ → Option Value} {cc : ByteArray} {nL fr lo pc : Nat} {ret : Option FieldType} {lv : List (Nat × Value)} {stk : List Value} {st : fkS} {F : Option (ρ × fkS)} (hk : fk_ok wC g k RX7 cc nL ret fr lo) {i : Nat} (hi : kdC i = 7) (hdg : decode cc pc = .ok (.getfield 66, 3))
    (kk : fk_J wC g en k (pc + 3) lv (fk_r g 44 :: stk) st F) : fk_J wC g en k pc lv (fk_r g i :: stk) st F := by
  intro o ho hq
  have kk := kk o ho hq
  obtain ⟨p, l, e, R, s, m, args, below, meth, c, rv, sf⟩ := k
  obtain ⟨hx, hb, hml, hown, hts, hK, hE, hr, hlk, hinj, hfr, hlo⟩ := hk
  intro H locs ls hl hP hS
  exact va_get (D := g.2.1) (ci := 7) (C := RX7) (T := TX7) (N := 12) (v := fk_r g 44) hx hb hts wB_7 hown hK hP i (wat_7 hi) rfl 10 (by decide) (hts _ wf_7_66) (fun _ h => h) rfl hdg (kk H locs ls hl hP hS)
theorem wf_7_70 : Cond.fieldLink RX7 70 "PieFunnels" "refusals" "[I" ∈ fkB := fkB_in (List.mem_of_getElem? (i := 351) (by decide +kernel)) rfl
theorem f_7_70 {g : fkG} {k : fkK} {ρ : Type} {en : ρ → Option Value} {cc : ByteArray} {nL fr lo pc : Nat} {ret : Option FieldType} {lv : List (Nat × Value)} {stk : List Value} {st : fkS} {F : Option (ρ × fkS)} (hk : fk_ok wC g k RX7 cc nL ret fr lo) {i : Nat} (hi : kdC i = 7) (hdg : decode cc pc = .ok (.getfield 70, 3))
    (kk : fk_J wC g en k (pc + 3) lv (fk_r g 1 :: stk) st F) : fk_J wC g en k pc lv (fk_r g i :: stk) st F := by
  intro o ho hq
  have kk := kk o ho hq
  obtain ⟨p, l, e, R, s, m, args, below, meth, c, rv, sf⟩ := k
  obtain ⟨hx, hb, hml, hown, hts, hK, hE, hr, hlk, hinj, hfr, hlo⟩ := hk
  intro H locs ls hl hP hS
  exact va_get (D := g.2.1) (ci := 7) (C := RX7) (T := TX7) (N := 12) (v := fk_r g 1) hx hb hts wB_7 hown hK hP i (wat_7 hi) rfl 11 (by decide) (hts _ wf_7_70) (fun _ h => h) rfl hdg (kk H locs ls hl hP hS)
theorem wf_8_85 : Cond.fieldLink RX8 85 "PieFunnelsModel" "birds" "I" ∈ fkB := fkB_in (List.mem_of_getElem? (i := 903) (by decide +kernel)) rfl
theorem f_8_85 {g : fkG} {k : fkK} {ρ : Type} {en : ρ → Option Value} {cc : ByteArray} {nL fr lo pc : Nat} {ret : Option FieldType} {lv : List (Nat × Value)} {stk : List Value} {st : fkS} (hk : fk_ok wM g k RX8 cc nL ret fr lo) {i : Nat} {F1 : Int32 → Option (ρ × fkS)} (hi : kdM i = 8) (hdg : decode cc pc = .ok (.getfield 85, 3))
    (kk : ∀ x, fk_J wM g en k (pc + 3) lv (.int x :: stk) st (F1 x)) : fk_J wM g en k pc lv (fk_r g i :: stk) st (fk_let (gI st 0 i) F1) := by
  intro o ho hq
  have kk := kk (gI st 0 i) o ho hq
  obtain ⟨p, l, e, R, s, m, args, below, meth, c, rv, sf⟩ := k
  obtain ⟨hx, hb, hml, hown, hts, hK, hE, hr, hlk, hinj, hfr, hlo⟩ := hk
  intro H locs ls hl hP hS
  exact va_get (D := g.2.1) (ci := 8) (C := RX8) (T := TX8) (N := 37) (v := .int (gI st 0 i)) hx hb hts wB_8 hown hK hP i (wat_8 hi) rfl 0 (by decide) (hts _ wf_8_85) (fun _ h => h) rfl hdg (kk H locs ls hl hP hS)
theorem p_8_85 {g : fkG} {k : fkK} {ρ : Type} {en : ρ → Option Value} {cc : ByteArray} {nL fr lo pc : Nat} {ret : Option FieldType} {lv : List (Nat × Value)} {stk : List Value} {st : fkS} (hk : fk_ok wM g k RX8 cc nL ret fr lo) {i : Nat} {v : Int32} {F1 : fkS → Option (ρ × fkS)} (hi : kdM i = 8) (hdg : decode cc pc = .ok (.putfield 85, 3))
    (kk : ∀ st1, fk_J wM g en k (pc + 3) lv stk st1 (F1 st1)) : fk_J wM g en k pc lv (.int v :: fk_r g i :: stk) st (fk_let (sI st 0 i v) F1) := by
  intro o ho hq
  have kk := kk (sI st 0 i v) o ho hq
  obtain ⟨p, l, e, R, s, m, args, below, meth, c, rv, sf⟩ := k
  obtain ⟨hx, hb, hml, hown, hts, hK, hE, hr, hlk, hinj, hfr, hlo⟩ := hk
  intro H locs ls hl hP hS
  refine va_put (D := g.2.1) (ci := 8) (C := RX8) (T := TX8) (N := 37) (v := .int v) (ty := .int) hx hb hts wB_8 tyX8 tyX8_ok nmX8 hown hK hP (fk_wD hinj _ _) hS i (wat_8 hi) rfl 0 (by decide) (hts _ wf_8_85) (fun _ h => h) rfl (by decide +kernel) rfl rfl (Nat.le_of_ble_eq_true rfl) hdg (fun H1 locs1 hP1 hD1 hS1 => kk H1 locs1 ls hl ?_ hS1)
  rw [← wst_8_0 hi]
  exact hP1
theorem wf_8_7 : Cond.fieldLink RX8 7 "PieFunnelsModel" "kind" "[I" ∈ fkB := fkB_in (List.mem_of_getElem? (i := 904) (by decide +kernel)) rfl
theorem f_8_7 {g : fkG} {k : fkK} {ρ : Type} {en : ρ → Option Value} {cc : ByteArray} {nL fr lo pc : Nat} {ret : Option FieldType} {lv : List (Nat × Value)} {stk : List Value} {st : fkS} {F : Option (ρ × fkS)} (hk : fk_ok wM g k RX8 cc nL ret fr lo) {i : Nat} (hi : kdM i = 8) (hdg : decode cc pc = .ok (.getfield 7, 3))
    (kk : fk_J wM g en k (pc + 3) lv (fk_r g 1 :: stk) st F) : fk_J wM g en k pc lv (fk_r g i :: stk) st F := by
  intro o ho hq
  have kk := kk o ho hq
  obtain ⟨p, l, e, R, s, m, args, below, meth, c, rv, sf⟩ := k
  obtain ⟨hx, hb, hml, hown, hts, hK, hE, hr, hlk, hinj, hfr, hlo⟩ := hk
  intro H locs ls hl hP hS
  exact va_get (D := g.2.1) (ci := 8) (C := RX8) (T := TX8) (N := 37) (v := fk_r g 1) hx hb hts wB_8 hown hK hP i (wat_8 hi) rfl 1 (by decide) (hts _ wf_8_7) (fun _ h => h) rfl hdg (kk H locs ls hl hP hS)
theorem wf_8_13 : Cond.fieldLink RX8 13 "PieFunnelsModel" "a" "[I" ∈ fkB := fkB_in (List.mem_of_getElem? (i := 905) (by decide +kernel)) rfl
theorem f_8_13 {g : fkG} {k : fkK} {ρ : Type} {en : ρ → Option Value} {cc : ByteArray} {nL fr lo pc : Nat} {ret : Option FieldType} {lv : List (Nat × Value)} {stk : List Value} {st : fkS} {F : Option (ρ × fkS)} (hk : fk_ok wM g k RX8 cc nL ret fr lo) {i : Nat} (hi : kdM i = 8) (hdg : decode cc pc = .ok (.getfield 13, 3))
    (kk : fk_J wM g en k (pc + 3) lv (fk_r g 2 :: stk) st F) : fk_J wM g en k pc lv (fk_r g i :: stk) st F := by
  intro o ho hq
  have kk := kk o ho hq
  obtain ⟨p, l, e, R, s, m, args, below, meth, c, rv, sf⟩ := k
  obtain ⟨hx, hb, hml, hown, hts, hK, hE, hr, hlk, hinj, hfr, hlo⟩ := hk
  intro H locs ls hl hP hS
  exact va_get (D := g.2.1) (ci := 8) (C := RX8) (T := TX8) (N := 37) (v := fk_r g 2) hx hb hts wB_8 hown hK hP i (wat_8 hi) rfl 2 (by decide) (hts _ wf_8_13) (fun _ h => h) rfl hdg (kk H locs ls hl hP hS)
theorem wf_8_16 : Cond.fieldLink RX8 16 "PieFunnelsModel" "mouth" "[I" ∈ fkB := fkB_in (List.mem_of_getElem? (i := 906) (by decide +kernel)) rfl
theorem f_8_16 {g : fkG} {k : fkK} {ρ : Type} {en : ρ → Option Value} {cc : ByteArray} {nL fr lo pc : Nat} {ret : Option FieldType} {lv : List (Nat × Value)} {stk : List Value} {st : fkS} {F : Option (ρ × fkS)} (hk : fk_ok wM g k RX8 cc nL ret fr lo) {i : Nat} (hi : kdM i = 8) (hdg : decode cc pc = .ok (.getfield 16, 3))
    (kk : fk_J wM g en k (pc + 3) lv (fk_r g 3 :: stk) st F) : fk_J wM g en k pc lv (fk_r g i :: stk) st F := by
  intro o ho hq
  have kk := kk o ho hq
  obtain ⟨p, l, e, R, s, m, args, below, meth, c, rv, sf⟩ := k
  obtain ⟨hx, hb, hml, hown, hts, hK, hE, hr, hlk, hinj, hfr, hlo⟩ := hk
  intro H locs ls hl hP hS
  exact va_get (D := g.2.1) (ci := 8) (C := RX8) (T := TX8) (N := 37) (v := fk_r g 3) hx hb hts wB_8 hown hK hP i (wat_8 hi) rfl 3 (by decide) (hts _ wf_8_16) (fun _ h => h) rfl hdg (kk H locs ls hl hP hS)
theorem wf_8_19 : Cond.fieldLink RX8 19 "PieFunnelsModel" "ways" "[I" ∈ fkB := fkB_in (List.mem_of_getElem? (i := 907) (by decide +kernel)) rfl
theorem f_8_19 {g : fkG} {k : fkK} {ρ : Type} {en : ρ → Option Value} {cc : ByteArray} {nL fr lo pc : Nat} {ret : Option FieldType} {lv : List (Nat × Value)} {stk : List Value} {st : fkS} {F : Option (ρ × fkS)} (hk : fk_ok wM g k RX8 cc nL ret fr lo) {i : Nat} (hi : kdM i = 8) (hdg : decode cc pc = .ok (.getfield 19, 3))
    (kk : fk_J wM g en k (pc + 3) lv (fk_r g 4 :: stk) st F) : fk_J wM g en k pc lv (fk_r g i :: stk) st F := by
  intro o ho hq
  have kk := kk o ho hq
  obtain ⟨p, l, e, R, s, m, args, below, meth, c, rv, sf⟩ := k
  obtain ⟨hx, hb, hml, hown, hts, hK, hE, hr, hlk, hinj, hfr, hlo⟩ := hk
  intro H locs ls hl hP hS
  exact va_get (D := g.2.1) (ci := 8) (C := RX8) (T := TX8) (N := 37) (v := fk_r g 4) hx hb hts wB_8 hown hK hP i (wat_8 hi) rfl 4 (by decide) (hts _ wf_8_19) (fun _ h => h) rfl hdg (kk H locs ls hl hP hS)
theorem wf_8_22 : Cond.fieldLink RX8 22 "PieFunnelsModel" "table" "[I" ∈ fkB := fkB_in (List.mem_of_getElem? (i := 908) (by decide +kernel)) rfl
theorem f_8_22 {g : fkG} {k : fkK} {ρ : Type} {en : ρ → Option Value} {cc : ByteArray} {nL fr lo pc : Nat} {ret : Option FieldType} {lv : List (Nat × Value)} {stk : List Value} {st : fkS} {F : Option (ρ × fkS)} (hk : fk_ok wM g k RX8 cc nL ret fr lo) {i : Nat} (hi : kdM i = 8) (hdg : decode cc pc = .ok (.getfield 22, 3))
    (kk : fk_J wM g en k (pc + 3) lv (fk_r g 5 :: stk) st F) : fk_J wM g en k pc lv (fk_r g i :: stk) st F := by
  intro o ho hq
  have kk := kk o ho hq
  obtain ⟨p, l, e, R, s, m, args, below, meth, c, rv, sf⟩ := k
  obtain ⟨hx, hb, hml, hown, hts, hK, hE, hr, hlk, hinj, hfr, hlo⟩ := hk
  intro H locs ls hl hP hS
  exact va_get (D := g.2.1) (ci := 8) (C := RX8) (T := TX8) (N := 37) (v := fk_r g 5) hx hb hts wB_8 hown hK hP i (wat_8 hi) rfl 5 (by decide) (hts _ wf_8_22) (fun _ h => h) rfl hdg (kk H locs ls hl hP hS)
theorem wf_8_277 : Cond.fieldLink RX8 277 "PieFunnelsModel" "bakes" "I" ∈ fkB := fkB_in (List.mem_of_getElem? (i := 909) (by decide +kernel)) rfl
theorem f_8_277 {g : fkG} {k : fkK} {ρ : Type} {en : ρ → Option Value} {cc : ByteArray} {nL fr lo pc : Nat} {ret : Option FieldType} {lv : List (Nat × Value)} {stk : List Value} {st : fkS} (hk : fk_ok wM g k RX8 cc nL ret fr lo) {i : Nat} {F1 : Int32 → Option (ρ × fkS)} (hi : kdM i = 8) (hdg : decode cc pc = .ok (.getfield 277, 3))
    (kk : ∀ x, fk_J wM g en k (pc + 3) lv (.int x :: stk) st (F1 x)) : fk_J wM g en k pc lv (fk_r g i :: stk) st (fk_let (gI st 6 i) F1) := by
  intro o ho hq
  have kk := kk (gI st 6 i) o ho hq
  obtain ⟨p, l, e, R, s, m, args, below, meth, c, rv, sf⟩ := k
  obtain ⟨hx, hb, hml, hown, hts, hK, hE, hr, hlk, hinj, hfr, hlo⟩ := hk
  intro H locs ls hl hP hS
  exact va_get (D := g.2.1) (ci := 8) (C := RX8) (T := TX8) (N := 37) (v := .int (gI st 6 i)) hx hb hts wB_8 hown hK hP i (wat_8 hi) rfl 6 (by decide) (hts _ wf_8_277) (fun _ h => h) rfl hdg (kk H locs ls hl hP hS)
theorem p_8_277 {g : fkG} {k : fkK} {ρ : Type} {en : ρ → Option Value} {cc : ByteArray} {nL fr lo pc : Nat} {ret : Option FieldType} {lv : List (Nat × Value)} {stk : List Value} {st : fkS} (hk : fk_ok wM g k RX8 cc nL ret fr lo) {i : Nat} {v : Int32} {F1 : fkS → Option (ρ × fkS)} (hi : kdM i = 8) (hdg : decode cc pc = .ok (.putfield 277, 3))
    (kk : ∀ st1, fk_J wM g en k (pc + 3) lv stk st1 (F1 st1)) : fk_J wM g en k pc lv (.int v :: fk_r g i :: stk) st (fk_let (sI st 6 i v) F1) := by
  intro o ho hq
  have kk := kk (sI st 6 i v) o ho hq
  obtain ⟨p, l, e, R, s, m, args, below, meth, c, rv, sf⟩ := k
  obtain ⟨hx, hb, hml, hown, hts, hK, hE, hr, hlk, hinj, hfr, hlo⟩ := hk
  intro H locs ls hl hP hS
  refine va_put (D := g.2.1) (ci := 8) (C := RX8) (T := TX8) (N := 37) (v := .int v) (ty := .int) hx hb hts wB_8 tyX8 tyX8_ok nmX8 hown hK hP (fk_wD hinj _ _) hS i (wat_8 hi) rfl 6 (by decide) (hts _ wf_8_277) (fun _ h => h) rfl (by decide +kernel) rfl rfl (Nat.le_of_ble_eq_true rfl) hdg (fun H1 locs1 hP1 hD1 hS1 => kk H1 locs1 ls hl ?_ hS1)
  rw [← wst_8_6 hi]
  exact hP1
theorem wf_8_280 : Cond.fieldLink RX8 280 "PieFunnelsModel" "suffered" "I" ∈ fkB := fkB_in (List.mem_of_getElem? (i := 910) (by decide +kernel)) rfl
theorem f_8_280 {g : fkG} {k : fkK} {ρ : Type} {en : ρ → Option Value} {cc : ByteArray} {nL fr lo pc : Nat} {ret : Option FieldType} {lv : List (Nat × Value)} {stk : List Value} {st : fkS} (hk : fk_ok wM g k RX8 cc nL ret fr lo) {i : Nat} {F1 : Int32 → Option (ρ × fkS)} (hi : kdM i = 8) (hdg : decode cc pc = .ok (.getfield 280, 3))
    (kk : ∀ x, fk_J wM g en k (pc + 3) lv (.int x :: stk) st (F1 x)) : fk_J wM g en k pc lv (fk_r g i :: stk) st (fk_let (gI st 7 i) F1) := by
  intro o ho hq
  have kk := kk (gI st 7 i) o ho hq
  obtain ⟨p, l, e, R, s, m, args, below, meth, c, rv, sf⟩ := k
  obtain ⟨hx, hb, hml, hown, hts, hK, hE, hr, hlk, hinj, hfr, hlo⟩ := hk
  intro H locs ls hl hP hS
  exact va_get (D := g.2.1) (ci := 8) (C := RX8) (T := TX8) (N := 37) (v := .int (gI st 7 i)) hx hb hts wB_8 hown hK hP i (wat_8 hi) rfl 7 (by decide) (hts _ wf_8_280) (fun _ h => h) rfl hdg (kk H locs ls hl hP hS)
theorem p_8_280 {g : fkG} {k : fkK} {ρ : Type} {en : ρ → Option Value} {cc : ByteArray} {nL fr lo pc : Nat} {ret : Option FieldType} {lv : List (Nat × Value)} {stk : List Value} {st : fkS} (hk : fk_ok wM g k RX8 cc nL ret fr lo) {i : Nat} {v : Int32} {F1 : fkS → Option (ρ × fkS)} (hi : kdM i = 8) (hdg : decode cc pc = .ok (.putfield 280, 3))
    (kk : ∀ st1, fk_J wM g en k (pc + 3) lv stk st1 (F1 st1)) : fk_J wM g en k pc lv (.int v :: fk_r g i :: stk) st (fk_let (sI st 7 i v) F1) := by
  intro o ho hq
  have kk := kk (sI st 7 i v) o ho hq
  obtain ⟨p, l, e, R, s, m, args, below, meth, c, rv, sf⟩ := k
  obtain ⟨hx, hb, hml, hown, hts, hK, hE, hr, hlk, hinj, hfr, hlo⟩ := hk
  intro H locs ls hl hP hS
  refine va_put (D := g.2.1) (ci := 8) (C := RX8) (T := TX8) (N := 37) (v := .int v) (ty := .int) hx hb hts wB_8 tyX8 tyX8_ok nmX8 hown hK hP (fk_wD hinj _ _) hS i (wat_8 hi) rfl 7 (by decide) (hts _ wf_8_280) (fun _ h => h) rfl (by decide +kernel) rfl rfl (Nat.le_of_ble_eq_true rfl) hdg (fun H1 locs1 hP1 hD1 hS1 => kk H1 locs1 ls hl ?_ hS1)
  rw [← wst_8_7 hi]
  exact hP1
theorem wf_8_74 : Cond.fieldLink RX8 74 "PieFunnelsModel" "seed" "I" ∈ fkB := fkB_in (List.mem_of_getElem? (i := 911) (by decide +kernel)) rfl
theorem f_8_74 {g : fkG} {k : fkK} {ρ : Type} {en : ρ → Option Value} {cc : ByteArray} {nL fr lo pc : Nat} {ret : Option FieldType} {lv : List (Nat × Value)} {stk : List Value} {st : fkS} (hk : fk_ok wM g k RX8 cc nL ret fr lo) {i : Nat} {F1 : Int32 → Option (ρ × fkS)} (hi : kdM i = 8) (hdg : decode cc pc = .ok (.getfield 74, 3))
    (kk : ∀ x, fk_J wM g en k (pc + 3) lv (.int x :: stk) st (F1 x)) : fk_J wM g en k pc lv (fk_r g i :: stk) st (fk_let (gI st 8 i) F1) := by
  intro o ho hq
  have kk := kk (gI st 8 i) o ho hq
  obtain ⟨p, l, e, R, s, m, args, below, meth, c, rv, sf⟩ := k
  obtain ⟨hx, hb, hml, hown, hts, hK, hE, hr, hlk, hinj, hfr, hlo⟩ := hk
  intro H locs ls hl hP hS
  exact va_get (D := g.2.1) (ci := 8) (C := RX8) (T := TX8) (N := 37) (v := .int (gI st 8 i)) hx hb hts wB_8 hown hK hP i (wat_8 hi) rfl 8 (by decide) (hts _ wf_8_74) (fun _ h => h) rfl hdg (kk H locs ls hl hP hS)
theorem p_8_74 {g : fkG} {k : fkK} {ρ : Type} {en : ρ → Option Value} {cc : ByteArray} {nL fr lo pc : Nat} {ret : Option FieldType} {lv : List (Nat × Value)} {stk : List Value} {st : fkS} (hk : fk_ok wM g k RX8 cc nL ret fr lo) {i : Nat} {v : Int32} {F1 : fkS → Option (ρ × fkS)} (hi : kdM i = 8) (hdg : decode cc pc = .ok (.putfield 74, 3))
    (kk : ∀ st1, fk_J wM g en k (pc + 3) lv stk st1 (F1 st1)) : fk_J wM g en k pc lv (.int v :: fk_r g i :: stk) st (fk_let (sI st 8 i v) F1) := by
  intro o ho hq
  have kk := kk (sI st 8 i v) o ho hq
  obtain ⟨p, l, e, R, s, m, args, below, meth, c, rv, sf⟩ := k
  obtain ⟨hx, hb, hml, hown, hts, hK, hE, hr, hlk, hinj, hfr, hlo⟩ := hk
  intro H locs ls hl hP hS
  refine va_put (D := g.2.1) (ci := 8) (C := RX8) (T := TX8) (N := 37) (v := .int v) (ty := .int) hx hb hts wB_8 tyX8 tyX8_ok nmX8 hown hK hP (fk_wD hinj _ _) hS i (wat_8 hi) rfl 8 (by decide) (hts _ wf_8_74) (fun _ h => h) rfl (by decide +kernel) rfl rfl (Nat.le_of_ble_eq_true rfl) hdg (fun H1 locs1 hP1 hD1 hS1 => kk H1 locs1 ls hl ?_ hS1)
  rw [← wst_8_8 hi]
  exact hP1
theorem wf_8_25 : Cond.fieldLink RX8 25 "PieFunnelsModel" "holding" "[I" ∈ fkB := fkB_in (List.mem_of_getElem? (i := 912) (by decide +kernel)) rfl
theorem f_8_25 {g : fkG} {k : fkK} {ρ : Type} {en : ρ → Option Value} {cc : ByteArray} {nL fr lo pc : Nat} {ret : Option FieldType} {lv : List (Nat × Value)} {stk : List Value} {st : fkS} {F : Option (ρ × fkS)} (hk : fk_ok wM g k RX8 cc nL ret fr lo) {i : Nat} (hi : kdM i = 8) (hdg : decode cc pc = .ok (.getfield 25, 3))
    (kk : fk_J wM g en k (pc + 3) lv (fk_r g 6 :: stk) st F) : fk_J wM g en k pc lv (fk_r g i :: stk) st F := by
  intro o ho hq
  have kk := kk o ho hq
  obtain ⟨p, l, e, R, s, m, args, below, meth, c, rv, sf⟩ := k
  obtain ⟨hx, hb, hml, hown, hts, hK, hE, hr, hlk, hinj, hfr, hlo⟩ := hk
  intro H locs ls hl hP hS
  exact va_get (D := g.2.1) (ci := 8) (C := RX8) (T := TX8) (N := 37) (v := fk_r g 6) hx hb hts wB_8 hown hK hP i (wat_8 hi) rfl 9 (by decide) (hts _ wf_8_25) (fun _ h => h) rfl hdg (kk H locs ls hl hP hS)
theorem wf_8_28 : Cond.fieldLink RX8 28 "PieFunnelsModel" "rowLength" "[I" ∈ fkB := fkB_in (List.mem_of_getElem? (i := 913) (by decide +kernel)) rfl
theorem f_8_28 {g : fkG} {k : fkK} {ρ : Type} {en : ρ → Option Value} {cc : ByteArray} {nL fr lo pc : Nat} {ret : Option FieldType} {lv : List (Nat × Value)} {stk : List Value} {st : fkS} {F : Option (ρ × fkS)} (hk : fk_ok wM g k RX8 cc nL ret fr lo) {i : Nat} (hi : kdM i = 8) (hdg : decode cc pc = .ok (.getfield 28, 3))
    (kk : fk_J wM g en k (pc + 3) lv (fk_r g 7 :: stk) st F) : fk_J wM g en k pc lv (fk_r g i :: stk) st F := by
  intro o ho hq
  have kk := kk o ho hq
  obtain ⟨p, l, e, R, s, m, args, below, meth, c, rv, sf⟩ := k
  obtain ⟨hx, hb, hml, hown, hts, hK, hE, hr, hlk, hinj, hfr, hlo⟩ := hk
  intro H locs ls hl hP hS
  exact va_get (D := g.2.1) (ci := 8) (C := RX8) (T := TX8) (N := 37) (v := fk_r g 7) hx hb hts wB_8 hown hK hP i (wat_8 hi) rfl 10 (by decide) (hts _ wf_8_28) (fun _ h => h) rfl hdg (kk H locs ls hl hP hS)
theorem wf_8_31 : Cond.fieldLink RX8 31 "PieFunnelsModel" "rowOf" "[J" ∈ fkB := fkB_in (List.mem_of_getElem? (i := 914) (by decide +kernel)) rfl
theorem f_8_31 {g : fkG} {k : fkK} {ρ : Type} {en : ρ → Option Value} {cc : ByteArray} {nL fr lo pc : Nat} {ret : Option FieldType} {lv : List (Nat × Value)} {stk : List Value} {st : fkS} {F : Option (ρ × fkS)} (hk : fk_ok wM g k RX8 cc nL ret fr lo) {i : Nat} (hi : kdM i = 8) (hdg : decode cc pc = .ok (.getfield 31, 3))
    (kk : fk_J wM g en k (pc + 3) lv (fk_r g 8 :: stk) st F) : fk_J wM g en k pc lv (fk_r g i :: stk) st F := by
  intro o ho hq
  have kk := kk o ho hq
  obtain ⟨p, l, e, R, s, m, args, below, meth, c, rv, sf⟩ := k
  obtain ⟨hx, hb, hml, hown, hts, hK, hE, hr, hlk, hinj, hfr, hlo⟩ := hk
  intro H locs ls hl hP hS
  exact va_get (D := g.2.1) (ci := 8) (C := RX8) (T := TX8) (N := 37) (v := fk_r g 8) hx hb hts wB_8 hown hK hP i (wat_8 hi) rfl 11 (by decide) (hts _ wf_8_31) (fun _ h => h) rfl hdg (kk H locs ls hl hP hS)
theorem wf_8_135 : Cond.fieldLink RX8 135 "PieFunnelsModel" "reading" "I" ∈ fkB := fkB_in (List.mem_of_getElem? (i := 915) (by decide +kernel)) rfl
theorem f_8_135 {g : fkG} {k : fkK} {ρ : Type} {en : ρ → Option Value} {cc : ByteArray} {nL fr lo pc : Nat} {ret : Option FieldType} {lv : List (Nat × Value)} {stk : List Value} {st : fkS} (hk : fk_ok wM g k RX8 cc nL ret fr lo) {i : Nat} {F1 : Int32 → Option (ρ × fkS)} (hi : kdM i = 8) (hdg : decode cc pc = .ok (.getfield 135, 3))
    (kk : ∀ x, fk_J wM g en k (pc + 3) lv (.int x :: stk) st (F1 x)) : fk_J wM g en k pc lv (fk_r g i :: stk) st (fk_let (gI st 12 i) F1) := by
  intro o ho hq
  have kk := kk (gI st 12 i) o ho hq
  obtain ⟨p, l, e, R, s, m, args, below, meth, c, rv, sf⟩ := k
  obtain ⟨hx, hb, hml, hown, hts, hK, hE, hr, hlk, hinj, hfr, hlo⟩ := hk
  intro H locs ls hl hP hS
  exact va_get (D := g.2.1) (ci := 8) (C := RX8) (T := TX8) (N := 37) (v := .int (gI st 12 i)) hx hb hts wB_8 hown hK hP i (wat_8 hi) rfl 12 (by decide) (hts _ wf_8_135) (fun _ h => h) rfl hdg (kk H locs ls hl hP hS)
theorem p_8_135 {g : fkG} {k : fkK} {ρ : Type} {en : ρ → Option Value} {cc : ByteArray} {nL fr lo pc : Nat} {ret : Option FieldType} {lv : List (Nat × Value)} {stk : List Value} {st : fkS} (hk : fk_ok wM g k RX8 cc nL ret fr lo) {i : Nat} {v : Int32} {F1 : fkS → Option (ρ × fkS)} (hi : kdM i = 8) (hdg : decode cc pc = .ok (.putfield 135, 3))
    (kk : ∀ st1, fk_J wM g en k (pc + 3) lv stk st1 (F1 st1)) : fk_J wM g en k pc lv (.int v :: fk_r g i :: stk) st (fk_let (sI st 12 i v) F1) := by
  intro o ho hq
  have kk := kk (sI st 12 i v) o ho hq
  obtain ⟨p, l, e, R, s, m, args, below, meth, c, rv, sf⟩ := k
  obtain ⟨hx, hb, hml, hown, hts, hK, hE, hr, hlk, hinj, hfr, hlo⟩ := hk
  intro H locs ls hl hP hS
  refine va_put (D := g.2.1) (ci := 8) (C := RX8) (T := TX8) (N := 37) (v := .int v) (ty := .int) hx hb hts wB_8 tyX8 tyX8_ok nmX8 hown hK hP (fk_wD hinj _ _) hS i (wat_8 hi) rfl 12 (by decide) (hts _ wf_8_135) (fun _ h => h) rfl (by decide +kernel) rfl rfl (Nat.le_of_ble_eq_true rfl) hdg (fun H1 locs1 hP1 hD1 hS1 => kk H1 locs1 ls hl ?_ hS1)
  rw [← wst_8_12 hi]
  exact hP1
theorem wf_8_132 : Cond.fieldLink RX8 132 "PieFunnelsModel" "at" "I" ∈ fkB := fkB_in (List.mem_of_getElem? (i := 916) (by decide +kernel)) rfl
theorem f_8_132 {g : fkG} {k : fkK} {ρ : Type} {en : ρ → Option Value} {cc : ByteArray} {nL fr lo pc : Nat} {ret : Option FieldType} {lv : List (Nat × Value)} {stk : List Value} {st : fkS} (hk : fk_ok wM g k RX8 cc nL ret fr lo) {i : Nat} {F1 : Int32 → Option (ρ × fkS)} (hi : kdM i = 8) (hdg : decode cc pc = .ok (.getfield 132, 3))
    (kk : ∀ x, fk_J wM g en k (pc + 3) lv (.int x :: stk) st (F1 x)) : fk_J wM g en k pc lv (fk_r g i :: stk) st (fk_let (gI st 13 i) F1) := by
  intro o ho hq
  have kk := kk (gI st 13 i) o ho hq
  obtain ⟨p, l, e, R, s, m, args, below, meth, c, rv, sf⟩ := k
  obtain ⟨hx, hb, hml, hown, hts, hK, hE, hr, hlk, hinj, hfr, hlo⟩ := hk
  intro H locs ls hl hP hS
  exact va_get (D := g.2.1) (ci := 8) (C := RX8) (T := TX8) (N := 37) (v := .int (gI st 13 i)) hx hb hts wB_8 hown hK hP i (wat_8 hi) rfl 13 (by decide) (hts _ wf_8_132) (fun _ h => h) rfl hdg (kk H locs ls hl hP hS)
theorem p_8_132 {g : fkG} {k : fkK} {ρ : Type} {en : ρ → Option Value} {cc : ByteArray} {nL fr lo pc : Nat} {ret : Option FieldType} {lv : List (Nat × Value)} {stk : List Value} {st : fkS} (hk : fk_ok wM g k RX8 cc nL ret fr lo) {i : Nat} {v : Int32} {F1 : fkS → Option (ρ × fkS)} (hi : kdM i = 8) (hdg : decode cc pc = .ok (.putfield 132, 3))
    (kk : ∀ st1, fk_J wM g en k (pc + 3) lv stk st1 (F1 st1)) : fk_J wM g en k pc lv (.int v :: fk_r g i :: stk) st (fk_let (sI st 13 i v) F1) := by
  intro o ho hq
  have kk := kk (sI st 13 i v) o ho hq
  obtain ⟨p, l, e, R, s, m, args, below, meth, c, rv, sf⟩ := k
  obtain ⟨hx, hb, hml, hown, hts, hK, hE, hr, hlk, hinj, hfr, hlo⟩ := hk
  intro H locs ls hl hP hS
  refine va_put (D := g.2.1) (ci := 8) (C := RX8) (T := TX8) (N := 37) (v := .int v) (ty := .int) hx hb hts wB_8 tyX8 tyX8_ok nmX8 hown hK hP (fk_wD hinj _ _) hS i (wat_8 hi) rfl 13 (by decide) (hts _ wf_8_132) (fun _ h => h) rfl (by decide +kernel) rfl rfl (Nat.le_of_ble_eq_true rfl) hdg (fun H1 locs1 hP1 hD1 hS1 => kk H1 locs1 ls hl ?_ hS1)
  rw [← wst_8_13 hi]
  exact hP1
theorem wf_8_35 : Cond.fieldLink RX8 35 "PieFunnelsModel" "numbers" "[I" ∈ fkB := fkB_in (List.mem_of_getElem? (i := 917) (by decide +kernel)) rfl
theorem f_8_35 {g : fkG} {k : fkK} {ρ : Type} {en : ρ → Option Value} {cc : ByteArray} {nL fr lo pc : Nat} {ret : Option FieldType} {lv : List (Nat × Value)} {stk : List Value} {st : fkS} {F : Option (ρ × fkS)} (hk : fk_ok wM g k RX8 cc nL ret fr lo) {i : Nat} (hi : kdM i = 8) (hdg : decode cc pc = .ok (.getfield 35, 3))
    (kk : fk_J wM g en k (pc + 3) lv (fk_r g 9 :: stk) st F) : fk_J wM g en k pc lv (fk_r g i :: stk) st F := by
  intro o ho hq
  have kk := kk o ho hq
  obtain ⟨p, l, e, R, s, m, args, below, meth, c, rv, sf⟩ := k
  obtain ⟨hx, hb, hml, hown, hts, hK, hE, hr, hlk, hinj, hfr, hlo⟩ := hk
  intro H locs ls hl hP hS
  exact va_get (D := g.2.1) (ci := 8) (C := RX8) (T := TX8) (N := 37) (v := fk_r g 9) hx hb hts wB_8 hown hK hP i (wat_8 hi) rfl 14 (by decide) (hts _ wf_8_35) (fun _ h => h) rfl hdg (kk H locs ls hl hP hS)
theorem wf_8_78 : Cond.fieldLink RX8 78 "PieFunnelsModel" "fault" "I" ∈ fkB := fkB_in (List.mem_of_getElem? (i := 918) (by decide +kernel)) rfl
theorem f_8_78 {g : fkG} {k : fkK} {ρ : Type} {en : ρ → Option Value} {cc : ByteArray} {nL fr lo pc : Nat} {ret : Option FieldType} {lv : List (Nat × Value)} {stk : List Value} {st : fkS} (hk : fk_ok wM g k RX8 cc nL ret fr lo) {i : Nat} {F1 : Int32 → Option (ρ × fkS)} (hi : kdM i = 8) (hdg : decode cc pc = .ok (.getfield 78, 3))
    (kk : ∀ x, fk_J wM g en k (pc + 3) lv (.int x :: stk) st (F1 x)) : fk_J wM g en k pc lv (fk_r g i :: stk) st (fk_let (gI st 15 i) F1) := by
  intro o ho hq
  have kk := kk (gI st 15 i) o ho hq
  obtain ⟨p, l, e, R, s, m, args, below, meth, c, rv, sf⟩ := k
  obtain ⟨hx, hb, hml, hown, hts, hK, hE, hr, hlk, hinj, hfr, hlo⟩ := hk
  intro H locs ls hl hP hS
  exact va_get (D := g.2.1) (ci := 8) (C := RX8) (T := TX8) (N := 37) (v := .int (gI st 15 i)) hx hb hts wB_8 hown hK hP i (wat_8 hi) rfl 15 (by decide) (hts _ wf_8_78) (fun _ h => h) rfl hdg (kk H locs ls hl hP hS)
theorem p_8_78 {g : fkG} {k : fkK} {ρ : Type} {en : ρ → Option Value} {cc : ByteArray} {nL fr lo pc : Nat} {ret : Option FieldType} {lv : List (Nat × Value)} {stk : List Value} {st : fkS} (hk : fk_ok wM g k RX8 cc nL ret fr lo) {i : Nat} {v : Int32} {F1 : fkS → Option (ρ × fkS)} (hi : kdM i = 8) (hdg : decode cc pc = .ok (.putfield 78, 3))
    (kk : ∀ st1, fk_J wM g en k (pc + 3) lv stk st1 (F1 st1)) : fk_J wM g en k pc lv (.int v :: fk_r g i :: stk) st (fk_let (sI st 15 i v) F1) := by
  intro o ho hq
  have kk := kk (sI st 15 i v) o ho hq
  obtain ⟨p, l, e, R, s, m, args, below, meth, c, rv, sf⟩ := k
  obtain ⟨hx, hb, hml, hown, hts, hK, hE, hr, hlk, hinj, hfr, hlo⟩ := hk
  intro H locs ls hl hP hS
  refine va_put (D := g.2.1) (ci := 8) (C := RX8) (T := TX8) (N := 37) (v := .int v) (ty := .int) hx hb hts wB_8 tyX8 tyX8_ok nmX8 hown hK hP (fk_wD hinj _ _) hS i (wat_8 hi) rfl 15 (by decide) (hts _ wf_8_78) (fun _ h => h) rfl (by decide +kernel) rfl rfl (Nat.le_of_ble_eq_true rfl) hdg (fun H1 locs1 hP1 hD1 hS1 => kk H1 locs1 ls hl ?_ hS1)
  rw [← wst_8_15 hi]
  exact hP1
theorem wf_8_38 : Cond.fieldLink RX8 38 "PieFunnelsModel" "ahead" "[I" ∈ fkB := fkB_in (List.mem_of_getElem? (i := 919) (by decide +kernel)) rfl
theorem f_8_38 {g : fkG} {k : fkK} {ρ : Type} {en : ρ → Option Value} {cc : ByteArray} {nL fr lo pc : Nat} {ret : Option FieldType} {lv : List (Nat × Value)} {stk : List Value} {st : fkS} {F : Option (ρ × fkS)} (hk : fk_ok wM g k RX8 cc nL ret fr lo) {i : Nat} (hi : kdM i = 8) (hdg : decode cc pc = .ok (.getfield 38, 3))
    (kk : fk_J wM g en k (pc + 3) lv (fk_r g 10 :: stk) st F) : fk_J wM g en k pc lv (fk_r g i :: stk) st F := by
  intro o ho hq
  have kk := kk o ho hq
  obtain ⟨p, l, e, R, s, m, args, below, meth, c, rv, sf⟩ := k
  obtain ⟨hx, hb, hml, hown, hts, hK, hE, hr, hlk, hinj, hfr, hlo⟩ := hk
  intro H locs ls hl hP hS
  exact va_get (D := g.2.1) (ci := 8) (C := RX8) (T := TX8) (N := 37) (v := fk_r g 10) hx hb hts wB_8 hown hK hP i (wat_8 hi) rfl 16 (by decide) (hts _ wf_8_38) (fun _ h => h) rfl hdg (kk H locs ls hl hP hS)
theorem wf_8_289 : Cond.fieldLink RX8 289 "PieFunnelsModel" "traced" "I" ∈ fkB := fkB_in (List.mem_of_getElem? (i := 920) (by decide +kernel)) rfl
theorem f_8_289 {g : fkG} {k : fkK} {ρ : Type} {en : ρ → Option Value} {cc : ByteArray} {nL fr lo pc : Nat} {ret : Option FieldType} {lv : List (Nat × Value)} {stk : List Value} {st : fkS} (hk : fk_ok wM g k RX8 cc nL ret fr lo) {i : Nat} {F1 : Int32 → Option (ρ × fkS)} (hi : kdM i = 8) (hdg : decode cc pc = .ok (.getfield 289, 3))
    (kk : ∀ x, fk_J wM g en k (pc + 3) lv (.int x :: stk) st (F1 x)) : fk_J wM g en k pc lv (fk_r g i :: stk) st (fk_let (gI st 17 i) F1) := by
  intro o ho hq
  have kk := kk (gI st 17 i) o ho hq
  obtain ⟨p, l, e, R, s, m, args, below, meth, c, rv, sf⟩ := k
  obtain ⟨hx, hb, hml, hown, hts, hK, hE, hr, hlk, hinj, hfr, hlo⟩ := hk
  intro H locs ls hl hP hS
  exact va_get (D := g.2.1) (ci := 8) (C := RX8) (T := TX8) (N := 37) (v := .int (gI st 17 i)) hx hb hts wB_8 hown hK hP i (wat_8 hi) rfl 17 (by decide) (hts _ wf_8_289) (fun _ h => h) rfl hdg (kk H locs ls hl hP hS)
theorem p_8_289 {g : fkG} {k : fkK} {ρ : Type} {en : ρ → Option Value} {cc : ByteArray} {nL fr lo pc : Nat} {ret : Option FieldType} {lv : List (Nat × Value)} {stk : List Value} {st : fkS} (hk : fk_ok wM g k RX8 cc nL ret fr lo) {i : Nat} {v : Int32} {F1 : fkS → Option (ρ × fkS)} (hi : kdM i = 8) (hdg : decode cc pc = .ok (.putfield 289, 3))
    (kk : ∀ st1, fk_J wM g en k (pc + 3) lv stk st1 (F1 st1)) : fk_J wM g en k pc lv (.int v :: fk_r g i :: stk) st (fk_let (sI st 17 i v) F1) := by
  intro o ho hq
  have kk := kk (sI st 17 i v) o ho hq
  obtain ⟨p, l, e, R, s, m, args, below, meth, c, rv, sf⟩ := k
  obtain ⟨hx, hb, hml, hown, hts, hK, hE, hr, hlk, hinj, hfr, hlo⟩ := hk
  intro H locs ls hl hP hS
  refine va_put (D := g.2.1) (ci := 8) (C := RX8) (T := TX8) (N := 37) (v := .int v) (ty := .int) hx hb hts wB_8 tyX8 tyX8_ok nmX8 hown hK hP (fk_wD hinj _ _) hS i (wat_8 hi) rfl 17 (by decide) (hts _ wf_8_289) (fun _ h => h) rfl (by decide +kernel) rfl rfl (Nat.le_of_ble_eq_true rfl) hdg (fun H1 locs1 hP1 hD1 hS1 => kk H1 locs1 ls hl ?_ hS1)
  rw [← wst_8_17 hi]
  exact hP1
theorem wf_8_41 : Cond.fieldLink RX8 41 "PieFunnelsModel" "traces" "[I" ∈ fkB := fkB_in (List.mem_of_getElem? (i := 921) (by decide +kernel)) rfl
theorem f_8_41 {g : fkG} {k : fkK} {ρ : Type} {en : ρ → Option Value} {cc : ByteArray} {nL fr lo pc : Nat} {ret : Option FieldType} {lv : List (Nat × Value)} {stk : List Value} {st : fkS} {F : Option (ρ × fkS)} (hk : fk_ok wM g k RX8 cc nL ret fr lo) {i : Nat} (hi : kdM i = 8) (hdg : decode cc pc = .ok (.getfield 41, 3))
    (kk : fk_J wM g en k (pc + 3) lv (fk_r g 11 :: stk) st F) : fk_J wM g en k pc lv (fk_r g i :: stk) st F := by
  intro o ho hq
  have kk := kk o ho hq
  obtain ⟨p, l, e, R, s, m, args, below, meth, c, rv, sf⟩ := k
  obtain ⟨hx, hb, hml, hown, hts, hK, hE, hr, hlk, hinj, hfr, hlo⟩ := hk
  intro H locs ls hl hP hS
  exact va_get (D := g.2.1) (ci := 8) (C := RX8) (T := TX8) (N := 37) (v := fk_r g 11) hx hb hts wB_8 hown hK hP i (wat_8 hi) rfl 18 (by decide) (hts _ wf_8_41) (fun _ h => h) rfl hdg (kk H locs ls hl hP hS)
theorem wf_8_44 : Cond.fieldLink RX8 44 "PieFunnelsModel" "refusals" "[I" ∈ fkB := fkB_in (List.mem_of_getElem? (i := 922) (by decide +kernel)) rfl
theorem f_8_44 {g : fkG} {k : fkK} {ρ : Type} {en : ρ → Option Value} {cc : ByteArray} {nL fr lo pc : Nat} {ret : Option FieldType} {lv : List (Nat × Value)} {stk : List Value} {st : fkS} {F : Option (ρ × fkS)} (hk : fk_ok wM g k RX8 cc nL ret fr lo) {i : Nat} (hi : kdM i = 8) (hdg : decode cc pc = .ok (.getfield 44, 3))
    (kk : fk_J wM g en k (pc + 3) lv (fk_r g 12 :: stk) st F) : fk_J wM g en k pc lv (fk_r g i :: stk) st F := by
  intro o ho hq
  have kk := kk o ho hq
  obtain ⟨p, l, e, R, s, m, args, below, meth, c, rv, sf⟩ := k
  obtain ⟨hx, hb, hml, hown, hts, hK, hE, hr, hlk, hinj, hfr, hlo⟩ := hk
  intro H locs ls hl hP hS
  exact va_get (D := g.2.1) (ci := 8) (C := RX8) (T := TX8) (N := 37) (v := fk_r g 12) hx hb hts wB_8 hown hK hP i (wat_8 hi) rfl 19 (by decide) (hts _ wf_8_44) (fun _ h => h) rfl hdg (kk H locs ls hl hP hS)
theorem wf_8_304 : Cond.fieldLink RX8 304 "PieFunnelsModel" "imaged" "Z" ∈ fkB := fkB_in (List.mem_of_getElem? (i := 923) (by decide +kernel)) rfl
theorem f_8_304 {g : fkG} {k : fkK} {ρ : Type} {en : ρ → Option Value} {cc : ByteArray} {nL fr lo pc : Nat} {ret : Option FieldType} {lv : List (Nat × Value)} {stk : List Value} {st : fkS} (hk : fk_ok wM g k RX8 cc nL ret fr lo) {i : Nat} {F1 : Int32 → Option (ρ × fkS)} (hi : kdM i = 8) (hdg : decode cc pc = .ok (.getfield 304, 3))
    (kk : ∀ x, fk_J wM g en k (pc + 3) lv (.int x :: stk) st (F1 x)) : fk_J wM g en k pc lv (fk_r g i :: stk) st (fk_let (gI st 20 i) F1) := by
  intro o ho hq
  have kk := kk (gI st 20 i) o ho hq
  obtain ⟨p, l, e, R, s, m, args, below, meth, c, rv, sf⟩ := k
  obtain ⟨hx, hb, hml, hown, hts, hK, hE, hr, hlk, hinj, hfr, hlo⟩ := hk
  intro H locs ls hl hP hS
  exact va_get (D := g.2.1) (ci := 8) (C := RX8) (T := TX8) (N := 37) (v := .int (gI st 20 i)) hx hb hts wB_8 hown hK hP i (wat_8 hi) rfl 20 (by decide) (hts _ wf_8_304) (fun _ h => h) rfl hdg (kk H locs ls hl hP hS)
theorem p_8_304 {g : fkG} {k : fkK} {ρ : Type} {en : ρ → Option Value} {cc : ByteArray} {nL fr lo pc : Nat} {ret : Option FieldType} {lv : List (Nat × Value)} {stk : List Value} {st : fkS} (hk : fk_ok wM g k RX8 cc nL ret fr lo) {i : Nat} {v : Int32} {F1 : fkS → Option (ρ × fkS)} (hi : kdM i = 8) (hn : narrow .boolean (.int v) = .int v) (hft : fits .boolean (.int v) = true) (hdg : decode cc pc = .ok (.putfield 304, 3))
    (kk : ∀ st1, fk_J wM g en k (pc + 3) lv stk st1 (F1 st1)) : fk_J wM g en k pc lv (.int v :: fk_r g i :: stk) st (fk_let (sI st 20 i v) F1) := by
  intro o ho hq
  have kk := kk (sI st 20 i v) o ho hq
  obtain ⟨p, l, e, R, s, m, args, below, meth, c, rv, sf⟩ := k
  obtain ⟨hx, hb, hml, hown, hts, hK, hE, hr, hlk, hinj, hfr, hlo⟩ := hk
  intro H locs ls hl hP hS
  refine va_put (D := g.2.1) (ci := 8) (C := RX8) (T := TX8) (N := 37) (v := .int v) (ty := .boolean) hx hb hts wB_8 tyX8 tyX8_ok nmX8 hown hK hP (fk_wD hinj _ _) hS i (wat_8 hi) rfl 20 (by decide) (hts _ wf_8_304) (fun _ h => h) rfl (by decide +kernel) hn hft (Nat.le_of_ble_eq_true rfl) hdg (fun H1 locs1 hP1 hD1 hS1 => kk H1 locs1 ls hl ?_ hS1)
  rw [← wst_8_20 hi]
  exact hP1
theorem wf_8_47 : Cond.fieldLink RX8 47 "PieFunnelsModel" "old" "[I" ∈ fkB := fkB_in (List.mem_of_getElem? (i := 924) (by decide +kernel)) rfl
theorem f_8_47 {g : fkG} {k : fkK} {ρ : Type} {en : ρ → Option Value} {cc : ByteArray} {nL fr lo pc : Nat} {ret : Option FieldType} {lv : List (Nat × Value)} {stk : List Value} {st : fkS} {F : Option (ρ × fkS)} (hk : fk_ok wM g k RX8 cc nL ret fr lo) {i : Nat} (hi : kdM i = 8) (hdg : decode cc pc = .ok (.getfield 47, 3))
    (kk : fk_J wM g en k (pc + 3) lv (fk_r g 13 :: stk) st F) : fk_J wM g en k pc lv (fk_r g i :: stk) st F := by
  intro o ho hq
  have kk := kk o ho hq
  obtain ⟨p, l, e, R, s, m, args, below, meth, c, rv, sf⟩ := k
  obtain ⟨hx, hb, hml, hown, hts, hK, hE, hr, hlk, hinj, hfr, hlo⟩ := hk
  intro H locs ls hl hP hS
  exact va_get (D := g.2.1) (ci := 8) (C := RX8) (T := TX8) (N := 37) (v := fk_r g 13) hx hb hts wB_8 hown hK hP i (wat_8 hi) rfl 21 (by decide) (hts _ wf_8_47) (fun _ h => h) rfl hdg (kk H locs ls hl hP hS)
theorem wf_8_112 : Cond.fieldLink RX8 112 "PieFunnelsModel" "laid" "I" ∈ fkB := fkB_in (List.mem_of_getElem? (i := 925) (by decide +kernel)) rfl
theorem f_8_112 {g : fkG} {k : fkK} {ρ : Type} {en : ρ → Option Value} {cc : ByteArray} {nL fr lo pc : Nat} {ret : Option FieldType} {lv : List (Nat × Value)} {stk : List Value} {st : fkS} (hk : fk_ok wM g k RX8 cc nL ret fr lo) {i : Nat} {F1 : Int32 → Option (ρ × fkS)} (hi : kdM i = 8) (hdg : decode cc pc = .ok (.getfield 112, 3))
    (kk : ∀ x, fk_J wM g en k (pc + 3) lv (.int x :: stk) st (F1 x)) : fk_J wM g en k pc lv (fk_r g i :: stk) st (fk_let (gI st 22 i) F1) := by
  intro o ho hq
  have kk := kk (gI st 22 i) o ho hq
  obtain ⟨p, l, e, R, s, m, args, below, meth, c, rv, sf⟩ := k
  obtain ⟨hx, hb, hml, hown, hts, hK, hE, hr, hlk, hinj, hfr, hlo⟩ := hk
  intro H locs ls hl hP hS
  exact va_get (D := g.2.1) (ci := 8) (C := RX8) (T := TX8) (N := 37) (v := .int (gI st 22 i)) hx hb hts wB_8 hown hK hP i (wat_8 hi) rfl 22 (by decide) (hts _ wf_8_112) (fun _ h => h) rfl hdg (kk H locs ls hl hP hS)
theorem p_8_112 {g : fkG} {k : fkK} {ρ : Type} {en : ρ → Option Value} {cc : ByteArray} {nL fr lo pc : Nat} {ret : Option FieldType} {lv : List (Nat × Value)} {stk : List Value} {st : fkS} (hk : fk_ok wM g k RX8 cc nL ret fr lo) {i : Nat} {v : Int32} {F1 : fkS → Option (ρ × fkS)} (hi : kdM i = 8) (hdg : decode cc pc = .ok (.putfield 112, 3))
    (kk : ∀ st1, fk_J wM g en k (pc + 3) lv stk st1 (F1 st1)) : fk_J wM g en k pc lv (.int v :: fk_r g i :: stk) st (fk_let (sI st 22 i v) F1) := by
  intro o ho hq
  have kk := kk (sI st 22 i v) o ho hq
  obtain ⟨p, l, e, R, s, m, args, below, meth, c, rv, sf⟩ := k
  obtain ⟨hx, hb, hml, hown, hts, hK, hE, hr, hlk, hinj, hfr, hlo⟩ := hk
  intro H locs ls hl hP hS
  refine va_put (D := g.2.1) (ci := 8) (C := RX8) (T := TX8) (N := 37) (v := .int v) (ty := .int) hx hb hts wB_8 tyX8 tyX8_ok nmX8 hown hK hP (fk_wD hinj _ _) hS i (wat_8 hi) rfl 22 (by decide) (hts _ wf_8_112) (fun _ h => h) rfl (by decide +kernel) rfl rfl (Nat.le_of_ble_eq_true rfl) hdg (fun H1 locs1 hP1 hD1 hS1 => kk H1 locs1 ls hl ?_ hS1)
  rw [← wst_8_22 hi]
  exact hP1
theorem wf_8_50 : Cond.fieldLink RX8 50 "PieFunnelsModel" "pie" "[I" ∈ fkB := fkB_in (List.mem_of_getElem? (i := 926) (by decide +kernel)) rfl
theorem f_8_50 {g : fkG} {k : fkK} {ρ : Type} {en : ρ → Option Value} {cc : ByteArray} {nL fr lo pc : Nat} {ret : Option FieldType} {lv : List (Nat × Value)} {stk : List Value} {st : fkS} {F : Option (ρ × fkS)} (hk : fk_ok wM g k RX8 cc nL ret fr lo) {i : Nat} (hi : kdM i = 8) (hdg : decode cc pc = .ok (.getfield 50, 3))
    (kk : fk_J wM g en k (pc + 3) lv (fk_r g 14 :: stk) st F) : fk_J wM g en k pc lv (fk_r g i :: stk) st F := by
  intro o ho hq
  have kk := kk o ho hq
  obtain ⟨p, l, e, R, s, m, args, below, meth, c, rv, sf⟩ := k
  obtain ⟨hx, hb, hml, hown, hts, hK, hE, hr, hlk, hinj, hfr, hlo⟩ := hk
  intro H locs ls hl hP hS
  exact va_get (D := g.2.1) (ci := 8) (C := RX8) (T := TX8) (N := 37) (v := fk_r g 14) hx hb hts wB_8 hown hK hP i (wat_8 hi) rfl 23 (by decide) (hts _ wf_8_50) (fun _ h => h) rfl hdg (kk H locs ls hl hP hS)
theorem wf_8_119 : Cond.fieldLink RX8 119 "PieFunnelsModel" "many" "I" ∈ fkB := fkB_in (List.mem_of_getElem? (i := 927) (by decide +kernel)) rfl
theorem f_8_119 {g : fkG} {k : fkK} {ρ : Type} {en : ρ → Option Value} {cc : ByteArray} {nL fr lo pc : Nat} {ret : Option FieldType} {lv : List (Nat × Value)} {stk : List Value} {st : fkS} (hk : fk_ok wM g k RX8 cc nL ret fr lo) {i : Nat} {F1 : Int32 → Option (ρ × fkS)} (hi : kdM i = 8) (hdg : decode cc pc = .ok (.getfield 119, 3))
    (kk : ∀ x, fk_J wM g en k (pc + 3) lv (.int x :: stk) st (F1 x)) : fk_J wM g en k pc lv (fk_r g i :: stk) st (fk_let (gI st 24 i) F1) := by
  intro o ho hq
  have kk := kk (gI st 24 i) o ho hq
  obtain ⟨p, l, e, R, s, m, args, below, meth, c, rv, sf⟩ := k
  obtain ⟨hx, hb, hml, hown, hts, hK, hE, hr, hlk, hinj, hfr, hlo⟩ := hk
  intro H locs ls hl hP hS
  exact va_get (D := g.2.1) (ci := 8) (C := RX8) (T := TX8) (N := 37) (v := .int (gI st 24 i)) hx hb hts wB_8 hown hK hP i (wat_8 hi) rfl 24 (by decide) (hts _ wf_8_119) (fun _ h => h) rfl hdg (kk H locs ls hl hP hS)
theorem p_8_119 {g : fkG} {k : fkK} {ρ : Type} {en : ρ → Option Value} {cc : ByteArray} {nL fr lo pc : Nat} {ret : Option FieldType} {lv : List (Nat × Value)} {stk : List Value} {st : fkS} (hk : fk_ok wM g k RX8 cc nL ret fr lo) {i : Nat} {v : Int32} {F1 : fkS → Option (ρ × fkS)} (hi : kdM i = 8) (hdg : decode cc pc = .ok (.putfield 119, 3))
    (kk : ∀ st1, fk_J wM g en k (pc + 3) lv stk st1 (F1 st1)) : fk_J wM g en k pc lv (.int v :: fk_r g i :: stk) st (fk_let (sI st 24 i v) F1) := by
  intro o ho hq
  have kk := kk (sI st 24 i v) o ho hq
  obtain ⟨p, l, e, R, s, m, args, below, meth, c, rv, sf⟩ := k
  obtain ⟨hx, hb, hml, hown, hts, hK, hE, hr, hlk, hinj, hfr, hlo⟩ := hk
  intro H locs ls hl hP hS
  refine va_put (D := g.2.1) (ci := 8) (C := RX8) (T := TX8) (N := 37) (v := .int v) (ty := .int) hx hb hts wB_8 tyX8 tyX8_ok nmX8 hown hK hP (fk_wD hinj _ _) hS i (wat_8 hi) rfl 24 (by decide) (hts _ wf_8_119) (fun _ h => h) rfl (by decide +kernel) rfl rfl (Nat.le_of_ble_eq_true rfl) hdg (fun H1 locs1 hP1 hD1 hS1 => kk H1 locs1 ls hl ?_ hS1)
  rw [← wst_8_24 hi]
  exact hP1
theorem wf_8_53 : Cond.fieldLink RX8 53 "PieFunnelsModel" "signs" "[I" ∈ fkB := fkB_in (List.mem_of_getElem? (i := 928) (by decide +kernel)) rfl
theorem f_8_53 {g : fkG} {k : fkK} {ρ : Type} {en : ρ → Option Value} {cc : ByteArray} {nL fr lo pc : Nat} {ret : Option FieldType} {lv : List (Nat × Value)} {stk : List Value} {st : fkS} {F : Option (ρ × fkS)} (hk : fk_ok wM g k RX8 cc nL ret fr lo) {i : Nat} (hi : kdM i = 8) (hdg : decode cc pc = .ok (.getfield 53, 3))
    (kk : fk_J wM g en k (pc + 3) lv (fk_r g 15 :: stk) st F) : fk_J wM g en k pc lv (fk_r g i :: stk) st F := by
  intro o ho hq
  have kk := kk o ho hq
  obtain ⟨p, l, e, R, s, m, args, below, meth, c, rv, sf⟩ := k
  obtain ⟨hx, hb, hml, hown, hts, hK, hE, hr, hlk, hinj, hfr, hlo⟩ := hk
  intro H locs ls hl hP hS
  exact va_get (D := g.2.1) (ci := 8) (C := RX8) (T := TX8) (N := 37) (v := fk_r g 15) hx hb hts wB_8 hown hK hP i (wat_8 hi) rfl 25 (by decide) (hts _ wf_8_53) (fun _ h => h) rfl hdg (kk H locs ls hl hP hS)
theorem wf_8_209 : Cond.fieldLink RX8 209 "PieFunnelsModel" "ended" "I" ∈ fkB := fkB_in (List.mem_of_getElem? (i := 929) (by decide +kernel)) rfl
theorem f_8_209 {g : fkG} {k : fkK} {ρ : Type} {en : ρ → Option Value} {cc : ByteArray} {nL fr lo pc : Nat} {ret : Option FieldType} {lv : List (Nat × Value)} {stk : List Value} {st : fkS} (hk : fk_ok wM g k RX8 cc nL ret fr lo) {i : Nat} {F1 : Int32 → Option (ρ × fkS)} (hi : kdM i = 8) (hdg : decode cc pc = .ok (.getfield 209, 3))
    (kk : ∀ x, fk_J wM g en k (pc + 3) lv (.int x :: stk) st (F1 x)) : fk_J wM g en k pc lv (fk_r g i :: stk) st (fk_let (gI st 26 i) F1) := by
  intro o ho hq
  have kk := kk (gI st 26 i) o ho hq
  obtain ⟨p, l, e, R, s, m, args, below, meth, c, rv, sf⟩ := k
  obtain ⟨hx, hb, hml, hown, hts, hK, hE, hr, hlk, hinj, hfr, hlo⟩ := hk
  intro H locs ls hl hP hS
  exact va_get (D := g.2.1) (ci := 8) (C := RX8) (T := TX8) (N := 37) (v := .int (gI st 26 i)) hx hb hts wB_8 hown hK hP i (wat_8 hi) rfl 26 (by decide) (hts _ wf_8_209) (fun _ h => h) rfl hdg (kk H locs ls hl hP hS)
theorem p_8_209 {g : fkG} {k : fkK} {ρ : Type} {en : ρ → Option Value} {cc : ByteArray} {nL fr lo pc : Nat} {ret : Option FieldType} {lv : List (Nat × Value)} {stk : List Value} {st : fkS} (hk : fk_ok wM g k RX8 cc nL ret fr lo) {i : Nat} {v : Int32} {F1 : fkS → Option (ρ × fkS)} (hi : kdM i = 8) (hdg : decode cc pc = .ok (.putfield 209, 3))
    (kk : ∀ st1, fk_J wM g en k (pc + 3) lv stk st1 (F1 st1)) : fk_J wM g en k pc lv (.int v :: fk_r g i :: stk) st (fk_let (sI st 26 i v) F1) := by
  intro o ho hq
  have kk := kk (sI st 26 i v) o ho hq
  obtain ⟨p, l, e, R, s, m, args, below, meth, c, rv, sf⟩ := k
  obtain ⟨hx, hb, hml, hown, hts, hK, hE, hr, hlk, hinj, hfr, hlo⟩ := hk
  intro H locs ls hl hP hS
  refine va_put (D := g.2.1) (ci := 8) (C := RX8) (T := TX8) (N := 37) (v := .int v) (ty := .int) hx hb hts wB_8 tyX8 tyX8_ok nmX8 hown hK hP (fk_wD hinj _ _) hS i (wat_8 hi) rfl 26 (by decide) (hts _ wf_8_209) (fun _ h => h) rfl (by decide +kernel) rfl rfl (Nat.le_of_ble_eq_true rfl) hdg (fun H1 locs1 hP1 hD1 hS1 => kk H1 locs1 ls hl ?_ hS1)
  rw [← wst_8_26 hi]
  exact hP1
theorem wf_8_212 : Cond.fieldLink RX8 212 "PieFunnelsModel" "ills" "I" ∈ fkB := fkB_in (List.mem_of_getElem? (i := 930) (by decide +kernel)) rfl
theorem f_8_212 {g : fkG} {k : fkK} {ρ : Type} {en : ρ → Option Value} {cc : ByteArray} {nL fr lo pc : Nat} {ret : Option FieldType} {lv : List (Nat × Value)} {stk : List Value} {st : fkS} (hk : fk_ok wM g k RX8 cc nL ret fr lo) {i : Nat} {F1 : Int32 → Option (ρ × fkS)} (hi : kdM i = 8) (hdg : decode cc pc = .ok (.getfield 212, 3))
    (kk : ∀ x, fk_J wM g en k (pc + 3) lv (.int x :: stk) st (F1 x)) : fk_J wM g en k pc lv (fk_r g i :: stk) st (fk_let (gI st 27 i) F1) := by
  intro o ho hq
  have kk := kk (gI st 27 i) o ho hq
  obtain ⟨p, l, e, R, s, m, args, below, meth, c, rv, sf⟩ := k
  obtain ⟨hx, hb, hml, hown, hts, hK, hE, hr, hlk, hinj, hfr, hlo⟩ := hk
  intro H locs ls hl hP hS
  exact va_get (D := g.2.1) (ci := 8) (C := RX8) (T := TX8) (N := 37) (v := .int (gI st 27 i)) hx hb hts wB_8 hown hK hP i (wat_8 hi) rfl 27 (by decide) (hts _ wf_8_212) (fun _ h => h) rfl hdg (kk H locs ls hl hP hS)
theorem p_8_212 {g : fkG} {k : fkK} {ρ : Type} {en : ρ → Option Value} {cc : ByteArray} {nL fr lo pc : Nat} {ret : Option FieldType} {lv : List (Nat × Value)} {stk : List Value} {st : fkS} (hk : fk_ok wM g k RX8 cc nL ret fr lo) {i : Nat} {v : Int32} {F1 : fkS → Option (ρ × fkS)} (hi : kdM i = 8) (hdg : decode cc pc = .ok (.putfield 212, 3))
    (kk : ∀ st1, fk_J wM g en k (pc + 3) lv stk st1 (F1 st1)) : fk_J wM g en k pc lv (.int v :: fk_r g i :: stk) st (fk_let (sI st 27 i v) F1) := by
  intro o ho hq
  have kk := kk (sI st 27 i v) o ho hq
  obtain ⟨p, l, e, R, s, m, args, below, meth, c, rv, sf⟩ := k
  obtain ⟨hx, hb, hml, hown, hts, hK, hE, hr, hlk, hinj, hfr, hlo⟩ := hk
  intro H locs ls hl hP hS
  refine va_put (D := g.2.1) (ci := 8) (C := RX8) (T := TX8) (N := 37) (v := .int v) (ty := .int) hx hb hts wB_8 tyX8 tyX8_ok nmX8 hown hK hP (fk_wD hinj _ _) hS i (wat_8 hi) rfl 27 (by decide) (hts _ wf_8_212) (fun _ h => h) rfl (by decide +kernel) rfl rfl (Nat.le_of_ble_eq_true rfl) hdg (fun H1 locs1 hP1 hD1 hS1 => kk H1 locs1 ls hl ?_ hS1)
  rw [← wst_8_27 hi]
  exact hP1
theorem wf_8_56 : Cond.fieldLink RX8 56 "PieFunnelsModel" "group" "[I" ∈ fkB := fkB_in (List.mem_of_getElem? (i := 931) (by decide +kernel)) rfl
theorem f_8_56 {g : fkG} {k : fkK} {ρ : Type} {en : ρ → Option Value} {cc : ByteArray} {nL fr lo pc : Nat} {ret : Option FieldType} {lv : List (Nat × Value)} {stk : List Value} {st : fkS} {F : Option (ρ × fkS)} (hk : fk_ok wM g k RX8 cc nL ret fr lo) {i : Nat} (hi : kdM i = 8) (hdg : decode cc pc = .ok (.getfield 56, 3))
    (kk : fk_J wM g en k (pc + 3) lv (fk_r g 16 :: stk) st F) : fk_J wM g en k pc lv (fk_r g i :: stk) st F := by
  intro o ho hq
  have kk := kk o ho hq
  obtain ⟨p, l, e, R, s, m, args, below, meth, c, rv, sf⟩ := k
  obtain ⟨hx, hb, hml, hown, hts, hK, hE, hr, hlk, hinj, hfr, hlo⟩ := hk
  intro H locs ls hl hP hS
  exact va_get (D := g.2.1) (ci := 8) (C := RX8) (T := TX8) (N := 37) (v := fk_r g 16) hx hb hts wB_8 hown hK hP i (wat_8 hi) rfl 28 (by decide) (hts _ wf_8_56) (fun _ h => h) rfl hdg (kk H locs ls hl hP hS)
theorem wf_8_59 : Cond.fieldLink RX8 59 "PieFunnelsModel" "groupSigns" "[I" ∈ fkB := fkB_in (List.mem_of_getElem? (i := 932) (by decide +kernel)) rfl
theorem f_8_59 {g : fkG} {k : fkK} {ρ : Type} {en : ρ → Option Value} {cc : ByteArray} {nL fr lo pc : Nat} {ret : Option FieldType} {lv : List (Nat × Value)} {stk : List Value} {st : fkS} {F : Option (ρ × fkS)} (hk : fk_ok wM g k RX8 cc nL ret fr lo) {i : Nat} (hi : kdM i = 8) (hdg : decode cc pc = .ok (.getfield 59, 3))
    (kk : fk_J wM g en k (pc + 3) lv (fk_r g 17 :: stk) st F) : fk_J wM g en k pc lv (fk_r g i :: stk) st F := by
  intro o ho hq
  have kk := kk o ho hq
  obtain ⟨p, l, e, R, s, m, args, below, meth, c, rv, sf⟩ := k
  obtain ⟨hx, hb, hml, hown, hts, hK, hE, hr, hlk, hinj, hfr, hlo⟩ := hk
  intro H locs ls hl hP hS
  exact va_get (D := g.2.1) (ci := 8) (C := RX8) (T := TX8) (N := 37) (v := fk_r g 17) hx hb hts wB_8 hown hK hP i (wat_8 hi) rfl 29 (by decide) (hts _ wf_8_59) (fun _ h => h) rfl hdg (kk H locs ls hl hP hS)
theorem wf_8_62 : Cond.fieldLink RX8 62 "PieFunnelsModel" "wished" "[I" ∈ fkB := fkB_in (List.mem_of_getElem? (i := 933) (by decide +kernel)) rfl
theorem f_8_62 {g : fkG} {k : fkK} {ρ : Type} {en : ρ → Option Value} {cc : ByteArray} {nL fr lo pc : Nat} {ret : Option FieldType} {lv : List (Nat × Value)} {stk : List Value} {st : fkS} {F : Option (ρ × fkS)} (hk : fk_ok wM g k RX8 cc nL ret fr lo) {i : Nat} (hi : kdM i = 8) (hdg : decode cc pc = .ok (.getfield 62, 3))
    (kk : fk_J wM g en k (pc + 3) lv (fk_r g 18 :: stk) st F) : fk_J wM g en k pc lv (fk_r g i :: stk) st F := by
  intro o ho hq
  have kk := kk o ho hq
  obtain ⟨p, l, e, R, s, m, args, below, meth, c, rv, sf⟩ := k
  obtain ⟨hx, hb, hml, hown, hts, hK, hE, hr, hlk, hinj, hfr, hlo⟩ := hk
  intro H locs ls hl hP hS
  exact va_get (D := g.2.1) (ci := 8) (C := RX8) (T := TX8) (N := 37) (v := fk_r g 18) hx hb hts wB_8 hown hK hP i (wat_8 hi) rfl 30 (by decide) (hts _ wf_8_62) (fun _ h => h) rfl hdg (kk H locs ls hl hP hS)
theorem wf_8_262 : Cond.fieldLink RX8 262 "PieFunnelsModel" "tribes" "I" ∈ fkB := fkB_in (List.mem_of_getElem? (i := 934) (by decide +kernel)) rfl
theorem f_8_262 {g : fkG} {k : fkK} {ρ : Type} {en : ρ → Option Value} {cc : ByteArray} {nL fr lo pc : Nat} {ret : Option FieldType} {lv : List (Nat × Value)} {stk : List Value} {st : fkS} (hk : fk_ok wM g k RX8 cc nL ret fr lo) {i : Nat} {F1 : Int32 → Option (ρ × fkS)} (hi : kdM i = 8) (hdg : decode cc pc = .ok (.getfield 262, 3))
    (kk : ∀ x, fk_J wM g en k (pc + 3) lv (.int x :: stk) st (F1 x)) : fk_J wM g en k pc lv (fk_r g i :: stk) st (fk_let (gI st 31 i) F1) := by
  intro o ho hq
  have kk := kk (gI st 31 i) o ho hq
  obtain ⟨p, l, e, R, s, m, args, below, meth, c, rv, sf⟩ := k
  obtain ⟨hx, hb, hml, hown, hts, hK, hE, hr, hlk, hinj, hfr, hlo⟩ := hk
  intro H locs ls hl hP hS
  exact va_get (D := g.2.1) (ci := 8) (C := RX8) (T := TX8) (N := 37) (v := .int (gI st 31 i)) hx hb hts wB_8 hown hK hP i (wat_8 hi) rfl 31 (by decide) (hts _ wf_8_262) (fun _ h => h) rfl hdg (kk H locs ls hl hP hS)
theorem p_8_262 {g : fkG} {k : fkK} {ρ : Type} {en : ρ → Option Value} {cc : ByteArray} {nL fr lo pc : Nat} {ret : Option FieldType} {lv : List (Nat × Value)} {stk : List Value} {st : fkS} (hk : fk_ok wM g k RX8 cc nL ret fr lo) {i : Nat} {v : Int32} {F1 : fkS → Option (ρ × fkS)} (hi : kdM i = 8) (hdg : decode cc pc = .ok (.putfield 262, 3))
    (kk : ∀ st1, fk_J wM g en k (pc + 3) lv stk st1 (F1 st1)) : fk_J wM g en k pc lv (.int v :: fk_r g i :: stk) st (fk_let (sI st 31 i v) F1) := by
  intro o ho hq
  have kk := kk (sI st 31 i v) o ho hq
  obtain ⟨p, l, e, R, s, m, args, below, meth, c, rv, sf⟩ := k
  obtain ⟨hx, hb, hml, hown, hts, hK, hE, hr, hlk, hinj, hfr, hlo⟩ := hk
  intro H locs ls hl hP hS
  refine va_put (D := g.2.1) (ci := 8) (C := RX8) (T := TX8) (N := 37) (v := .int v) (ty := .int) hx hb hts wB_8 tyX8 tyX8_ok nmX8 hown hK hP (fk_wD hinj _ _) hS i (wat_8 hi) rfl 31 (by decide) (hts _ wf_8_262) (fun _ h => h) rfl (by decide +kernel) rfl rfl (Nat.le_of_ble_eq_true rfl) hdg (fun H1 locs1 hP1 hD1 hS1 => kk H1 locs1 ls hl ?_ hS1)
  rw [← wst_8_31 hi]
  exact hP1
theorem wf_8_65 : Cond.fieldLink RX8 65 "PieFunnelsModel" "brought" "[I" ∈ fkB := fkB_in (List.mem_of_getElem? (i := 935) (by decide +kernel)) rfl
theorem f_8_65 {g : fkG} {k : fkK} {ρ : Type} {en : ρ → Option Value} {cc : ByteArray} {nL fr lo pc : Nat} {ret : Option FieldType} {lv : List (Nat × Value)} {stk : List Value} {st : fkS} {F : Option (ρ × fkS)} (hk : fk_ok wM g k RX8 cc nL ret fr lo) {i : Nat} (hi : kdM i = 8) (hdg : decode cc pc = .ok (.getfield 65, 3))
    (kk : fk_J wM g en k (pc + 3) lv (fk_r g 19 :: stk) st F) : fk_J wM g en k pc lv (fk_r g i :: stk) st F := by
  intro o ho hq
  have kk := kk o ho hq
  obtain ⟨p, l, e, R, s, m, args, below, meth, c, rv, sf⟩ := k
  obtain ⟨hx, hb, hml, hown, hts, hK, hE, hr, hlk, hinj, hfr, hlo⟩ := hk
  intro H locs ls hl hP hS
  exact va_get (D := g.2.1) (ci := 8) (C := RX8) (T := TX8) (N := 37) (v := fk_r g 19) hx hb hts wB_8 hown hK hP i (wat_8 hi) rfl 32 (by decide) (hts _ wf_8_65) (fun _ h => h) rfl hdg (kk H locs ls hl hP hS)
theorem wf_8_68 : Cond.fieldLink RX8 68 "PieFunnelsModel" "tried" "[I" ∈ fkB := fkB_in (List.mem_of_getElem? (i := 936) (by decide +kernel)) rfl
theorem f_8_68 {g : fkG} {k : fkK} {ρ : Type} {en : ρ → Option Value} {cc : ByteArray} {nL fr lo pc : Nat} {ret : Option FieldType} {lv : List (Nat × Value)} {stk : List Value} {st : fkS} {F : Option (ρ × fkS)} (hk : fk_ok wM g k RX8 cc nL ret fr lo) {i : Nat} (hi : kdM i = 8) (hdg : decode cc pc = .ok (.getfield 68, 3))
    (kk : fk_J wM g en k (pc + 3) lv (fk_r g 20 :: stk) st F) : fk_J wM g en k pc lv (fk_r g i :: stk) st F := by
  intro o ho hq
  have kk := kk o ho hq
  obtain ⟨p, l, e, R, s, m, args, below, meth, c, rv, sf⟩ := k
  obtain ⟨hx, hb, hml, hown, hts, hK, hE, hr, hlk, hinj, hfr, hlo⟩ := hk
  intro H locs ls hl hP hS
  exact va_get (D := g.2.1) (ci := 8) (C := RX8) (T := TX8) (N := 37) (v := fk_r g 20) hx hb hts wB_8 hown hK hP i (wat_8 hi) rfl 33 (by decide) (hts _ wf_8_68) (fun _ h => h) rfl hdg (kk H locs ls hl hP hS)
theorem wf_8_71 : Cond.fieldLink RX8 71 "PieFunnelsModel" "best" "[I" ∈ fkB := fkB_in (List.mem_of_getElem? (i := 937) (by decide +kernel)) rfl
theorem f_8_71 {g : fkG} {k : fkK} {ρ : Type} {en : ρ → Option Value} {cc : ByteArray} {nL fr lo pc : Nat} {ret : Option FieldType} {lv : List (Nat × Value)} {stk : List Value} {st : fkS} {F : Option (ρ × fkS)} (hk : fk_ok wM g k RX8 cc nL ret fr lo) {i : Nat} (hi : kdM i = 8) (hdg : decode cc pc = .ok (.getfield 71, 3))
    (kk : fk_J wM g en k (pc + 3) lv (fk_r g 21 :: stk) st F) : fk_J wM g en k pc lv (fk_r g i :: stk) st F := by
  intro o ho hq
  have kk := kk o ho hq
  obtain ⟨p, l, e, R, s, m, args, below, meth, c, rv, sf⟩ := k
  obtain ⟨hx, hb, hml, hown, hts, hK, hE, hr, hlk, hinj, hfr, hlo⟩ := hk
  intro H locs ls hl hP hS
  exact va_get (D := g.2.1) (ci := 8) (C := RX8) (T := TX8) (N := 37) (v := fk_r g 21) hx hb hts wB_8 hown hK hP i (wat_8 hi) rfl 34 (by decide) (hts _ wf_8_71) (fun _ h => h) rfl hdg (kk H locs ls hl hP hS)
theorem wf_8_265 : Cond.fieldLink RX8 265 "PieFunnelsModel" "most" "I" ∈ fkB := fkB_in (List.mem_of_getElem? (i := 938) (by decide +kernel)) rfl
theorem f_8_265 {g : fkG} {k : fkK} {ρ : Type} {en : ρ → Option Value} {cc : ByteArray} {nL fr lo pc : Nat} {ret : Option FieldType} {lv : List (Nat × Value)} {stk : List Value} {st : fkS} (hk : fk_ok wM g k RX8 cc nL ret fr lo) {i : Nat} {F1 : Int32 → Option (ρ × fkS)} (hi : kdM i = 8) (hdg : decode cc pc = .ok (.getfield 265, 3))
    (kk : ∀ x, fk_J wM g en k (pc + 3) lv (.int x :: stk) st (F1 x)) : fk_J wM g en k pc lv (fk_r g i :: stk) st (fk_let (gI st 35 i) F1) := by
  intro o ho hq
  have kk := kk (gI st 35 i) o ho hq
  obtain ⟨p, l, e, R, s, m, args, below, meth, c, rv, sf⟩ := k
  obtain ⟨hx, hb, hml, hown, hts, hK, hE, hr, hlk, hinj, hfr, hlo⟩ := hk
  intro H locs ls hl hP hS
  exact va_get (D := g.2.1) (ci := 8) (C := RX8) (T := TX8) (N := 37) (v := .int (gI st 35 i)) hx hb hts wB_8 hown hK hP i (wat_8 hi) rfl 35 (by decide) (hts _ wf_8_265) (fun _ h => h) rfl hdg (kk H locs ls hl hP hS)
theorem p_8_265 {g : fkG} {k : fkK} {ρ : Type} {en : ρ → Option Value} {cc : ByteArray} {nL fr lo pc : Nat} {ret : Option FieldType} {lv : List (Nat × Value)} {stk : List Value} {st : fkS} (hk : fk_ok wM g k RX8 cc nL ret fr lo) {i : Nat} {v : Int32} {F1 : fkS → Option (ρ × fkS)} (hi : kdM i = 8) (hdg : decode cc pc = .ok (.putfield 265, 3))
    (kk : ∀ st1, fk_J wM g en k (pc + 3) lv stk st1 (F1 st1)) : fk_J wM g en k pc lv (.int v :: fk_r g i :: stk) st (fk_let (sI st 35 i v) F1) := by
  intro o ho hq
  have kk := kk (sI st 35 i v) o ho hq
  obtain ⟨p, l, e, R, s, m, args, below, meth, c, rv, sf⟩ := k
  obtain ⟨hx, hb, hml, hown, hts, hK, hE, hr, hlk, hinj, hfr, hlo⟩ := hk
  intro H locs ls hl hP hS
  refine va_put (D := g.2.1) (ci := 8) (C := RX8) (T := TX8) (N := 37) (v := .int v) (ty := .int) hx hb hts wB_8 tyX8 tyX8_ok nmX8 hown hK hP (fk_wD hinj _ _) hS i (wat_8 hi) rfl 35 (by decide) (hts _ wf_8_265) (fun _ h => h) rfl (by decide +kernel) rfl rfl (Nat.le_of_ble_eq_true rfl) hdg (fun H1 locs1 hP1 hD1 hS1 => kk H1 locs1 ls hl ?_ hS1)
  rw [← wst_8_35 hi]
  exact hP1
theorem wf_8_308 : Cond.fieldLink RX8 308 "PieFunnelsModel" "oldSeed" "I" ∈ fkB := fkB_in (List.mem_of_getElem? (i := 939) (by decide +kernel)) rfl
theorem f_8_308 {g : fkG} {k : fkK} {ρ : Type} {en : ρ → Option Value} {cc : ByteArray} {nL fr lo pc : Nat} {ret : Option FieldType} {lv : List (Nat × Value)} {stk : List Value} {st : fkS} (hk : fk_ok wM g k RX8 cc nL ret fr lo) {i : Nat} {F1 : Int32 → Option (ρ × fkS)} (hi : kdM i = 8) (hdg : decode cc pc = .ok (.getfield 308, 3))
    (kk : ∀ x, fk_J wM g en k (pc + 3) lv (.int x :: stk) st (F1 x)) : fk_J wM g en k pc lv (fk_r g i :: stk) st (fk_let (gI st 36 i) F1) := by
  intro o ho hq
  have kk := kk (gI st 36 i) o ho hq
  obtain ⟨p, l, e, R, s, m, args, below, meth, c, rv, sf⟩ := k
  obtain ⟨hx, hb, hml, hown, hts, hK, hE, hr, hlk, hinj, hfr, hlo⟩ := hk
  intro H locs ls hl hP hS
  exact va_get (D := g.2.1) (ci := 8) (C := RX8) (T := TX8) (N := 37) (v := .int (gI st 36 i)) hx hb hts wB_8 hown hK hP i (wat_8 hi) rfl 36 (by decide) (hts _ wf_8_308) (fun _ h => h) rfl hdg (kk H locs ls hl hP hS)
theorem p_8_308 {g : fkG} {k : fkK} {ρ : Type} {en : ρ → Option Value} {cc : ByteArray} {nL fr lo pc : Nat} {ret : Option FieldType} {lv : List (Nat × Value)} {stk : List Value} {st : fkS} (hk : fk_ok wM g k RX8 cc nL ret fr lo) {i : Nat} {v : Int32} {F1 : fkS → Option (ρ × fkS)} (hi : kdM i = 8) (hdg : decode cc pc = .ok (.putfield 308, 3))
    (kk : ∀ st1, fk_J wM g en k (pc + 3) lv stk st1 (F1 st1)) : fk_J wM g en k pc lv (.int v :: fk_r g i :: stk) st (fk_let (sI st 36 i v) F1) := by
  intro o ho hq
  have kk := kk (sI st 36 i v) o ho hq
  obtain ⟨p, l, e, R, s, m, args, below, meth, c, rv, sf⟩ := k
  obtain ⟨hx, hb, hml, hown, hts, hK, hE, hr, hlk, hinj, hfr, hlo⟩ := hk
  intro H locs ls hl hP hS
  refine va_put (D := g.2.1) (ci := 8) (C := RX8) (T := TX8) (N := 37) (v := .int v) (ty := .int) hx hb hts wB_8 tyX8 tyX8_ok nmX8 hown hK hP (fk_wD hinj _ _) hS i (wat_8 hi) rfl 36 (by decide) (hts _ wf_8_308) (fun _ h => h) rfl (by decide +kernel) rfl rfl (Nat.le_of_ble_eq_true rfl) hdg (fun H1 locs1 hP1 hD1 hS1 => kk H1 locs1 ls hl ?_ hS1)
  rw [← wst_8_36 hi]
  exact hP1
