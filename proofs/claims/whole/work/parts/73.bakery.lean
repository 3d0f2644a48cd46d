/-! a bakery is made (the contract is printed by gen/g5.py) -/
set_option maxHeartbeats 4000000 in
set_option maxRecDepth 100000 in
theorem bk_loop {p : Program} {l : Launch} {e : Env} {R : Room} {s : State} {m : MethodId} {args : Array Value} {below : List Frame} {meth : Method} {c : Code} {H0 : Heap} {cells slots : Nat} {Q : State → Prop} {A : Nat → Prop} {D : va_G} {cI cL : ClassId} {h0 q4 : Nat} {fs : List Value} {wsF : (Nat → Int32) → va_W}
    (hx : p.tables.exec = Jvm.exec) (hb : c.code = cX0_init) (hts : ∀ w ∈ fkB, w.before args s = true) (hown : s.vm.findClass RX0 = some m.cls) (hK : va_K D vwCl [(cI, .int), (cL, .long)] s)
    (f0 : ∀ f, (wsF f)[0]? = some (h0, .inr (0, fs))) (f1 : fs[4]? = some (.ref q4)) (f4 : ∀ f, (wsF f)[4]? = some (q4, .inl (cI, 40, .inl f))) (fS : ∀ f g, (wsF f).set 4 (q4, .inl (cI, 40, .inl g)) = wsF g)
    (kk : ∀ (H : Heap) (locs : List Loc) (ls : Array Slot), lv_has ls 2 [(1, .int 40), (0, .ref h0)] → va_P D vwCl (wsF tabF) H → va_D A (wsF tabF) → va_S A H0 H locs → W p l e R s m args below meth c H locs cells slots Q (F0 m 103 ls [])) :
    ∀ (d i : Nat) (f : Nat → Int32) (H : Heap) (locs : List Loc) (ls : Array Slot), i + d = 40 → (∀ j, j < i → f j = tabF j) → lv_has ls 2 [(1, .int (nI i)), (0, .ref h0)] → va_P D vwCl (wsF f) H → va_D A (wsF f) → va_S A H0 H locs → W p l e R s m args below meth c H locs cells slots Q (F0 m 73 ls []) := by
  intro d
  induction d with
  | zero =>
    intro i f H locs ls hi hf hl hP hD hS
    obtain rfl : i = 40 := by omega
    refine lv_iload_n hx hb dX0_init_73 rfl (lv_at hl 0 rfl) ?_
    refine lv_bipush (v := 40) hx hb dX0_init_74 (by decide) ?_
    refine lv_icmp_ge (tgt := 103) hx hb dX0_init_76 (by decide) (fun _ => ?_) (fun z => absurd (by decide) z)
    have hP2 : va_P D vwCl (wsF tabF) H := by
      have hc : vp_cell cI (40, .inl f) = vp_cell cI (40, .inl tabF) := by
        rw [vp_cell_i, vp_cell_i]
        exact arrV_cg (fun j hj => by rw [hf j hj])
      rw [← fS f tabF]
      exact va_P.cg (a := (cI, 40, .inl f)) (a' := (cI, 40, .inl tabF)) hP (f4 f) hc
    have hD2 : va_D A (wsF tabF) := by
      rw [← fS f tabF]
      exact hD.set (f4 f)
    exact kk H locs ls hl hP2 hD2 hS
  | succ d ih =>
    intro i f H locs ls hi hf hl hP hD hS
    refine lv_iload_n hx hb dX0_init_73 rfl (lv_at hl 0 rfl) ?_
    refine lv_bipush (v := 40) hx hb dX0_init_74 (by decide) ?_
    refine lv_icmp_ge (tgt := 103) hx hb dX0_init_76 (by decide) (fun z => ?_) (fun _ => ?_)
    · rw [zl40, nI_leI (by decide) (by omega)] at z
      omega
    · refine lv_aload_n hx hb dX0_init_79 rfl (lv_at hl 1 rfl) ?_
      refine va_get (D := D) (ci := 0) (v := .ref q4) (C := RX0) (T := TX0) (N := 11) hx hb hts wB_0 hown hK hP 0 (f0 f) rfl 4 (by decide) (hts _ wz_0_25) (fun _ h9 => h9) f1 dX0_init_80 ?_
      refine lv_iload_n hx hb dX0_init_83 rfl (lv_at hl 0 rfl) ?_
      refine lv_iload_n hx hb dX0_init_84 rfl (lv_at hl 0 rfl) ?_
      refine lv_iconst (v := 5) hx hb dX0_init_85 (by decide) ?_
      refine lv_idiv hx hb dX0_init_86 (by decide) ?_
      refine lv_iload_n hx hb dX0_init_87 rfl (lv_at hl 0 rfl) ?_
      refine lv_iconst (v := 5) hx hb dX0_init_88 (by decide) ?_
      refine lv_irem hx hb dX0_init_89 (by decide) ?_
      refine lv_iadd hx hb dX0_init_90 ?_
      refine lv_iconst (v := 1) hx hb dX0_init_91 (by decide) ?_
      refine lv_iadd hx hb dX0_init_92 ?_
      refine lv_bipush (v := 8) hx hb dX0_init_93 (by decide) ?_
      refine lv_irem hx hb dX0_init_95 (by decide) ?_
      rw [tab_ok (show i < 40 by omega)]
      refine va_iast hx hb hK hP hD hS 4 0 (f4 f) rfl (i := nI i) (vp_in_nI (by omega) (by omega)) dX0_init_96 (fun H locs hP hD hS => ?_)
      rw [nI_clamp (by omega), fS] at hP hD
      refine lv_iinc (v := nI (i + 1)) (lv' := [(1, .int (nI (i + 1))), (0, .ref h0)]) hx hb dX0_init_97 hl (k := 0) rfl (nI_1 i) (by decide) rfl (fun ls hl => ?_)
      refine lv_goto (tgt := 73) hx hb dX0_init_100 (by decide) ?_
      refine ih (i + 1) _ H _ ls (by omega) (fun j hj => ?_) hl hP hD hS
      by_cases q : j = i
      · rw [q, upd_same]
      · rw [upd_ne q]
        exact hf j (by omega)
set_option maxHeartbeats 4000000 in
set_option maxRecDepth 100000 in
theorem ci_X0 (l : Launch) (D : va_G) (cI cL : ClassId) (h0 sz : Nat) : Met l yX0_init (Cond.code yX0_init cX0_init 2 none :: fkB) ({ frames := 1, cells := 4, slots := 61, locals := 12 }) (va_Pc [.ref h0] (fun U => U.heap.size = sz ∧ va_P D vwCl [(h0, .inr (0, [.int 0, .null, .null, .null, .null, .int 0, .int 0, .int 0, .int 0, .int 0, .int 0]))] U.heap ∧ va_K D vwCl [(cI, .int), (cL, .long)] U ∧ va_D (fun _ => True) [(h0, .inr (0, [.int 0, .null, .null, .null, .null, .int 0, .int 0, .int 0, .int 0, .int 0, .int 0]))])) (va_Qv (fun _ : Nat × Nat × Nat × Nat => True) (fun u t => va_P D vwCl ((h0, .inr (0, [.int 0, .ref u.1, .ref u.2.1, .ref u.2.2.1, .ref u.2.2.2, .int 5, .int 0, .int 0, .int 0, .int 0, .int 1])) :: (u.1, fI cI 7) :: (u.2.1, fI cI 7) :: (u.2.2.1, fI cI 7) :: (u.2.2.2, .inl (cI, 40, .inl tabF)) :: []) t.heap ∧ va_K D vwCl [(cI, .int), (cL, .long)] t ∧ va_D (va_A [(h0, .inr (0, [.int 0, .null, .null, .null, .null, .int 0, .int 0, .int 0, .int 0, .int 0, .int 0]))] sz) ((h0, .inr (0, [.int 0, .ref u.1, .ref u.2.1, .ref u.2.2.1, .ref u.2.2.2, .int 5, .int 0, .int 0, .int 0, .int 0, .int 1])) :: (u.1, fI cI 7) :: (u.2.1, fI cI 7) :: (u.2.2.1, fI cI 7) :: (u.2.2.2, .inl (cI, 40, .inl tabF)) :: [])) (va_A [(h0, .inr (0, [.int 0, .null, .null, .null, .null, .int 0, .int 0, .int 0, .int 0, .int 0, .int 0]))] sz)) 4 61 (va_A [(h0, .inr (0, [.int 0, .null, .null, .null, .null, .int 0, .int 0, .int 0, .int 0, .int 0, .int 0]))] sz) := by
  refine Met.ofW (cc := cX0_init) (maxL := 2) (ret := none) (by decide) rfl ?_
  intro p e s m args below meth c s₁ B hml hv
  obtain ⟨rfl, hsz, hP, hK, hD0⟩ := hv
  have hx := B.exec
  have hb := B.bytes
  have hr := B.returns
  have hts0 := atoms_spec (ws := Cond.code yX0_init cX0_init 2 none :: fkB) B.pre
  have hts : ∀ w ∈ fkB, w.before ([Value.ref h0] : List Value).toArray s = true := fun w hw => hts0 w (List.mem_cons_of_mem _ hw)
  have hown : s.vm.findClass RX0 = some m.cls := findClass_of_methodNamed B.named
  have hlocks := B.notSynchronized
  have hin : meth.name = "<init>" := (name_of_methodNamed B.named B.method).1
  subst hsz
  have hD := hD0.self (sz := s.heap.size)
  generalize hAe : va_A [(h0, .inr (0, [.int 0, .null, .null, .null, .null, .int 0, .int 0, .int 0, .int 0, .int 0, .int 0]))] s.heap.size = A at hD ⊢
  have hA : ∀ q : Nat, s.heap.size ≤ q → A q := fun q h => by rw [← hAe]; exact Or.inr h
  have hS : va_S A s.heap s.heap [] := va_S.rf
  have hP : va_P D vwCl [(h0, .inr (0, [.int 0, .null, .null, .null, .null, .int 0, .int 0, .int 0, .int 0, .int 0, .int 0]))] s.heap := hP
  have hl := lv_entry ([.ref h0]) (n := 2) (Nat.le_of_ble_eq_true rfl)
  rw [lg_entry_eq]
  generalize (lg_sl ([.ref h0]) ++ List.replicate (2 - (lg_sl ([.ref h0])).length) Slot.unset).toArray = ls at hl ⊢
  have hl : lv_has ls 2 [(0, .ref h0)] := hl
  refine lv_aload_n hx hb dX0_init_0 rfl (lv_at hl 0 rfl) ?_
  refine W.objInit hx hb hown (hts _ wzm_0_3) (hts _ wz_oi) (hts _ wz_oc) rfl (by rw [hml]; exact hl.1) rfl dX0_init_1 (Nat.le_of_ble_eq_true rfl) (Nat.le_of_ble_eq_true rfl) ?_
  refine W.eq (g2 := F0 m 4 ls []) rfl ?_
  refine lv_aload_n hx hb dX0_init_4 rfl (lv_at hl 0 rfl) ?_
  refine lv_iconst (v := 0) hx hb dX0_init_5 (by decide) ?_
  refine va_put (D := D) (ci := 0) (v := .int 0) (ty := .int) (C := RX0) (T := TX0) (N := 11) hx hb hts wB_0 tyX0 tyX0_ok nmX0 hown hK hP hD hS 0 rfl rfl 0 (by decide) (hts _ wz_0_9) (fun _ h9 => h9) rfl (by decide +kernel) rfl rfl (Nat.le_of_ble_eq_true rfl) dX0_init_6 (fun H locs hP hD hS => ?_)
  have hP : va_P D vwCl ((h0, .inr (0, [.int 0, .null, .null, .null, .null, .int 0, .int 0, .int 0, .int 0, .int 0, .int 0])) :: []) H := hP
  have hD : va_D A ((h0, .inr (0, [.int 0, .null, .null, .null, .null, .int 0, .int 0, .int 0, .int 0, .int 0, .int 0])) :: []) := hD
  refine lv_aload_n hx hb dX0_init_9 rfl (lv_at hl 0 rfl) ?_
  refine lv_bipush (v := 7) hx hb dX0_init_10 (by decide) ?_
  refine fk_newI (n := 7) (N' := 7) hx hb (hts _ wz_ai) hK hP hD hS hA 0 rfl (by decide) rfl (Nat.le_of_ble_eq_true rfl) (Nat.le_of_ble_eq_true rfl) (Nat.le_of_ble_eq_true rfl) dX0_init_12 (fun q1 H hP hD hS => ?_)
  have hP : va_P D vwCl ((h0, .inr (0, [.int 0, .null, .null, .null, .null, .int 0, .int 0, .int 0, .int 0, .int 0, .int 0])) :: (q1, fI cI 7) :: []) H := hP
  have hD : va_D A ((h0, .inr (0, [.int 0, .null, .null, .null, .null, .int 0, .int 0, .int 0, .int 0, .int 0, .int 0])) :: (q1, fI cI 7) :: []) := hD
  refine W.widen (k := 1) (n := 7) (Nat.le_of_ble_eq_true rfl) (Nat.le_of_ble_eq_true rfl) ?_
  refine va_putF (D := D) (ci := 0) (v := .ref q1) (ty := .array .int) (C := RX0) (T := TX0) (N := 11) hx hb hts wB_0 tyX0 tyX0_ok nmX0 hown hK hP hD hS 0 rfl rfl 1 (by decide) (hts _ wz_0_15) (fun _ h9 => h9) rfl hin rfl (by decide +kernel) rfl rfl (Nat.le_of_ble_eq_true rfl) dX0_init_14 (fun H locs hP hD hS => ?_)
  have hP : va_P D vwCl ((h0, .inr (0, [.int 0, .ref q1, .null, .null, .null, .int 0, .int 0, .int 0, .int 0, .int 0, .int 0])) :: (q1, fI cI 7) :: []) H := hP
  have hD : va_D A ((h0, .inr (0, [.int 0, .ref q1, .null, .null, .null, .int 0, .int 0, .int 0, .int 0, .int 0, .int 0])) :: (q1, fI cI 7) :: []) := hD
  refine lv_aload_n hx hb dX0_init_17 rfl (lv_at hl 0 rfl) ?_
  refine lv_bipush (v := 7) hx hb dX0_init_18 (by decide) ?_
  refine fk_newI (n := 7) (N' := 7) hx hb (hts _ wz_ai) hK hP hD hS hA 0 rfl (by decide) rfl (Nat.le_of_ble_eq_true rfl) (Nat.le_of_ble_eq_true rfl) (Nat.le_of_ble_eq_true rfl) dX0_init_20 (fun q2 H hP hD hS => ?_)
  have hP : va_P D vwCl ((h0, .inr (0, [.int 0, .ref q1, .null, .null, .null, .int 0, .int 0, .int 0, .int 0, .int 0, .int 0])) :: (q1, fI cI 7) :: (q2, fI cI 7) :: []) H := hP
  have hD : va_D A ((h0, .inr (0, [.int 0, .ref q1, .null, .null, .null, .int 0, .int 0, .int 0, .int 0, .int 0, .int 0])) :: (q1, fI cI 7) :: (q2, fI cI 7) :: []) := hD
  refine W.widen (k := 2) (n := 14) (Nat.le_of_ble_eq_true rfl) (Nat.le_of_ble_eq_true rfl) ?_
  refine va_putF (D := D) (ci := 0) (v := .ref q2) (ty := .array .int) (C := RX0) (T := TX0) (N := 11) hx hb hts wB_0 tyX0 tyX0_ok nmX0 hown hK hP hD hS 0 rfl rfl 2 (by decide) (hts _ wz_0_19) (fun _ h9 => h9) rfl hin rfl (by decide +kernel) rfl rfl (Nat.le_of_ble_eq_true rfl) dX0_init_22 (fun H locs hP hD hS => ?_)
  have hP : va_P D vwCl ((h0, .inr (0, [.int 0, .ref q1, .ref q2, .null, .null, .int 0, .int 0, .int 0, .int 0, .int 0, .int 0])) :: (q1, fI cI 7) :: (q2, fI cI 7) :: []) H := hP
  have hD : va_D A ((h0, .inr (0, [.int 0, .ref q1, .ref q2, .null, .null, .int 0, .int 0, .int 0, .int 0, .int 0, .int 0])) :: (q1, fI cI 7) :: (q2, fI cI 7) :: []) := hD
  refine lv_aload_n hx hb dX0_init_25 rfl (lv_at hl 0 rfl) ?_
  refine lv_bipush (v := 7) hx hb dX0_init_26 (by decide) ?_
  refine fk_newI (n := 7) (N' := 7) hx hb (hts _ wz_ai) hK hP hD hS hA 0 rfl (by decide) rfl (Nat.le_of_ble_eq_true rfl) (Nat.le_of_ble_eq_true rfl) (Nat.le_of_ble_eq_true rfl) dX0_init_28 (fun q3 H hP hD hS => ?_)
  have hP : va_P D vwCl ((h0, .inr (0, [.int 0, .ref q1, .ref q2, .null, .null, .int 0, .int 0, .int 0, .int 0, .int 0, .int 0])) :: (q1, fI cI 7) :: (q2, fI cI 7) :: (q3, fI cI 7) :: []) H := hP
  have hD : va_D A ((h0, .inr (0, [.int 0, .ref q1, .ref q2, .null, .null, .int 0, .int 0, .int 0, .int 0, .int 0, .int 0])) :: (q1, fI cI 7) :: (q2, fI cI 7) :: (q3, fI cI 7) :: []) := hD
  refine W.widen (k := 3) (n := 21) (Nat.le_of_ble_eq_true rfl) (Nat.le_of_ble_eq_true rfl) ?_
  refine va_putF (D := D) (ci := 0) (v := .ref q3) (ty := .array .int) (C := RX0) (T := TX0) (N := 11) hx hb hts wB_0 tyX0 tyX0_ok nmX0 hown hK hP hD hS 0 rfl rfl 3 (by decide) (hts _ wz_0_22) (fun _ h9 => h9) rfl hin rfl (by decide +kernel) rfl rfl (Nat.le_of_ble_eq_true rfl) dX0_init_30 (fun H locs hP hD hS => ?_)
  have hP : va_P D vwCl ((h0, .inr (0, [.int 0, .ref q1, .ref q2, .ref q3, .null, .int 0, .int 0, .int 0, .int 0, .int 0, .int 0])) :: (q1, fI cI 7) :: (q2, fI cI 7) :: (q3, fI cI 7) :: []) H := hP
  have hD : va_D A ((h0, .inr (0, [.int 0, .ref q1, .ref q2, .ref q3, .null, .int 0, .int 0, .int 0, .int 0, .int 0, .int 0])) :: (q1, fI cI 7) :: (q2, fI cI 7) :: (q3, fI cI 7) :: []) := hD
  refine lv_aload_n hx hb dX0_init_33 rfl (lv_at hl 0 rfl) ?_
  refine lv_bipush (v := 40) hx hb dX0_init_34 (by decide) ?_
  refine fk_newI (n := 40) (N' := 40) hx hb (hts _ wz_ai) hK hP hD hS hA 0 rfl (by decide) rfl (Nat.le_of_ble_eq_true rfl) (Nat.le_of_ble_eq_true rfl) (Nat.le_of_ble_eq_true rfl) dX0_init_36 (fun q4 H hP hD hS => ?_)
  have hP : va_P D vwCl ((h0, .inr (0, [.int 0, .ref q1, .ref q2, .ref q3, .null, .int 0, .int 0, .int 0, .int 0, .int 0, .int 0])) :: (q1, fI cI 7) :: (q2, fI cI 7) :: (q3, fI cI 7) :: (q4, fI cI 40) :: []) H := hP
  have hD : va_D A ((h0, .inr (0, [.int 0, .ref q1, .ref q2, .ref q3, .null, .int 0, .int 0, .int 0, .int 0, .int 0, .int 0])) :: (q1, fI cI 7) :: (q2, fI cI 7) :: (q3, fI cI 7) :: (q4, fI cI 40) :: []) := hD
  refine W.widen (k := 4) (n := 61) (Nat.le_of_ble_eq_true rfl) (Nat.le_of_ble_eq_true rfl) ?_
  refine va_putF (D := D) (ci := 0) (v := .ref q4) (ty := .array .int) (C := RX0) (T := TX0) (N := 11) hx hb hts wB_0 tyX0 tyX0_ok nmX0 hown hK hP hD hS 0 rfl rfl 4 (by decide) (hts _ wz_0_25) (fun _ h9 => h9) rfl hin rfl (by decide +kernel) rfl rfl (Nat.le_of_ble_eq_true rfl) dX0_init_38 (fun H locs hP hD hS => ?_)
  have hP : va_P D vwCl ((h0, .inr (0, [.int 0, .ref q1, .ref q2, .ref q3, .ref q4, .int 0, .int 0, .int 0, .int 0, .int 0, .int 0])) :: (q1, fI cI 7) :: (q2, fI cI 7) :: (q3, fI cI 7) :: (q4, fI cI 40) :: []) H := hP
  have hD : va_D A ((h0, .inr (0, [.int 0, .ref q1, .ref q2, .ref q3, .ref q4, .int 0, .int 0, .int 0, .int 0, .int 0, .int 0])) :: (q1, fI cI 7) :: (q2, fI cI 7) :: (q3, fI cI 7) :: (q4, fI cI 40) :: []) := hD
  refine lv_aload_n hx hb dX0_init_41 rfl (lv_at hl 0 rfl) ?_
  refine lv_iconst (v := 5) hx hb dX0_init_42 (by decide) ?_
  refine va_put (D := D) (ci := 0) (v := .int 5) (ty := .int) (C := RX0) (T := TX0) (N := 11) hx hb hts wB_0 tyX0 tyX0_ok nmX0 hown hK hP hD hS 0 rfl rfl 5 (by decide) (hts _ wz_0_28) (fun _ h9 => h9) rfl (by decide +kernel) rfl rfl (Nat.le_of_ble_eq_true rfl) dX0_init_43 (fun H locs hP hD hS => ?_)
  have hP : va_P D vwCl ((h0, .inr (0, [.int 0, .ref q1, .ref q2, .ref q3, .ref q4, .int 5, .int 0, .int 0, .int 0, .int 0, .int 0])) :: (q1, fI cI 7) :: (q2, fI cI 7) :: (q3, fI cI 7) :: (q4, fI cI 40) :: []) H := hP
  have hD : va_D A ((h0, .inr (0, [.int 0, .ref q1, .ref q2, .ref q3, .ref q4, .int 5, .int 0, .int 0, .int 0, .int 0, .int 0])) :: (q1, fI cI 7) :: (q2, fI cI 7) :: (q3, fI cI 7) :: (q4, fI cI 40) :: []) := hD
  refine lv_aload_n hx hb dX0_init_46 rfl (lv_at hl 0 rfl) ?_
  refine lv_iconst (v := 0) hx hb dX0_init_47 (by decide) ?_
  refine va_put (D := D) (ci := 0) (v := .int 0) (ty := .int) (C := RX0) (T := TX0) (N := 11) hx hb hts wB_0 tyX0 tyX0_ok nmX0 hown hK hP hD hS 0 rfl rfl 6 (by decide) (hts _ wz_0_31) (fun _ h9 => h9) rfl (by decide +kernel) rfl rfl (Nat.le_of_ble_eq_true rfl) dX0_init_48 (fun H locs hP hD hS => ?_)
  have hP : va_P D vwCl ((h0, .inr (0, [.int 0, .ref q1, .ref q2, .ref q3, .ref q4, .int 5, .int 0, .int 0, .int 0, .int 0, .int 0])) :: (q1, fI cI 7) :: (q2, fI cI 7) :: (q3, fI cI 7) :: (q4, fI cI 40) :: []) H := hP
  have hD : va_D A ((h0, .inr (0, [.int 0, .ref q1, .ref q2, .ref q3, .ref q4, .int 5, .int 0, .int 0, .int 0, .int 0, .int 0])) :: (q1, fI cI 7) :: (q2, fI cI 7) :: (q3, fI cI 7) :: (q4, fI cI 40) :: []) := hD
  refine lv_aload_n hx hb dX0_init_51 rfl (lv_at hl 0 rfl) ?_
  refine lv_iconst (v := 0) hx hb dX0_init_52 (by decide) ?_
  refine va_put (D := D) (ci := 0) (v := .int 0) (ty := .int) (C := RX0) (T := TX0) (N := 11) hx hb hts wB_0 tyX0 tyX0_ok nmX0 hown hK hP hD hS 0 rfl rfl 7 (by decide) (hts _ wz_0_34) (fun _ h9 => h9) rfl (by decide +kernel) rfl rfl (Nat.le_of_ble_eq_true rfl) dX0_init_53 (fun H locs hP hD hS => ?_)
  have hP : va_P D vwCl ((h0, .inr (0, [.int 0, .ref q1, .ref q2, .ref q3, .ref q4, .int 5, .int 0, .int 0, .int 0, .int 0, .int 0])) :: (q1, fI cI 7) :: (q2, fI cI 7) :: (q3, fI cI 7) :: (q4, fI cI 40) :: []) H := hP
  have hD : va_D A ((h0, .inr (0, [.int 0, .ref q1, .ref q2, .ref q3, .ref q4, .int 5, .int 0, .int 0, .int 0, .int 0, .int 0])) :: (q1, fI cI 7) :: (q2, fI cI 7) :: (q3, fI cI 7) :: (q4, fI cI 40) :: []) := hD
  refine lv_aload_n hx hb dX0_init_56 rfl (lv_at hl 0 rfl) ?_
  refine lv_iconst (v := 0) hx hb dX0_init_57 (by decide) ?_
  refine va_put (D := D) (ci := 0) (v := .int 0) (ty := .int) (C := RX0) (T := TX0) (N := 11) hx hb hts wB_0 tyX0 tyX0_ok nmX0 hown hK hP hD hS 0 rfl rfl 8 (by decide) (hts _ wz_0_37) (fun _ h9 => h9) rfl (by decide +kernel) rfl rfl (Nat.le_of_ble_eq_true rfl) dX0_init_58 (fun H locs hP hD hS => ?_)
  have hP : va_P D vwCl ((h0, .inr (0, [.int 0, .ref q1, .ref q2, .ref q3, .ref q4, .int 5, .int 0, .int 0, .int 0, .int 0, .int 0])) :: (q1, fI cI 7) :: (q2, fI cI 7) :: (q3, fI cI 7) :: (q4, fI cI 40) :: []) H := hP
  have hD : va_D A ((h0, .inr (0, [.int 0, .ref q1, .ref q2, .ref q3, .ref q4, .int 5, .int 0, .int 0, .int 0, .int 0, .int 0])) :: (q1, fI cI 7) :: (q2, fI cI 7) :: (q3, fI cI 7) :: (q4, fI cI 40) :: []) := hD
  refine lv_aload_n hx hb dX0_init_61 rfl (lv_at hl 0 rfl) ?_
  refine lv_iconst (v := 0) hx hb dX0_init_62 (by decide) ?_
  refine va_put (D := D) (ci := 0) (v := .int 0) (ty := .int) (C := RX0) (T := TX0) (N := 11) hx hb hts wB_0 tyX0 tyX0_ok nmX0 hown hK hP hD hS 0 rfl rfl 9 (by decide) (hts _ wz_0_40) (fun _ h9 => h9) rfl (by decide +kernel) rfl rfl (Nat.le_of_ble_eq_true rfl) dX0_init_63 (fun H locs hP hD hS => ?_)
  have hP : va_P D vwCl ((h0, .inr (0, [.int 0, .ref q1, .ref q2, .ref q3, .ref q4, .int 5, .int 0, .int 0, .int 0, .int 0, .int 0])) :: (q1, fI cI 7) :: (q2, fI cI 7) :: (q3, fI cI 7) :: (q4, fI cI 40) :: []) H := hP
  have hD : va_D A ((h0, .inr (0, [.int 0, .ref q1, .ref q2, .ref q3, .ref q4, .int 5, .int 0, .int 0, .int 0, .int 0, .int 0])) :: (q1, fI cI 7) :: (q2, fI cI 7) :: (q3, fI cI 7) :: (q4, fI cI 40) :: []) := hD
  refine lv_aload_n hx hb dX0_init_66 rfl (lv_at hl 0 rfl) ?_
  refine lv_iconst (v := 1) hx hb dX0_init_67 (by decide) ?_
  refine va_put (D := D) (ci := 0) (v := .int 1) (ty := .int) (C := RX0) (T := TX0) (N := 11) hx hb hts wB_0 tyX0 tyX0_ok nmX0 hown hK hP hD hS 0 rfl rfl 10 (by decide) (hts _ wz_0_43) (fun _ h9 => h9) rfl (by decide +kernel) rfl rfl (Nat.le_of_ble_eq_true rfl) dX0_init_68 (fun H locs hP hD hS => ?_)
  have hP : va_P D vwCl ((h0, .inr (0, [.int 0, .ref q1, .ref q2, .ref q3, .ref q4, .int 5, .int 0, .int 0, .int 0, .int 0, .int 1])) :: (q1, fI cI 7) :: (q2, fI cI 7) :: (q3, fI cI 7) :: (q4, fI cI 40) :: []) H := hP
  have hD : va_D A ((h0, .inr (0, [.int 0, .ref q1, .ref q2, .ref q3, .ref q4, .int 5, .int 0, .int 0, .int 0, .int 0, .int 1])) :: (q1, fI cI 7) :: (q2, fI cI 7) :: (q3, fI cI 7) :: (q4, fI cI 40) :: []) := hD
  refine lv_iconst (v := 0) hx hb dX0_init_71 (by decide) ?_
  refine lv_istore_n (lv' := [(1, .int 0), (0, .ref h0)]) hx hb dX0_init_72 rfl hl (by decide) rfl (fun ls hl => ?_)
  refine bk_loop (cL := cL) (fs := [.int 0, .ref q1, .ref q2, .ref q3, .ref q4, .int 5, .int 0, .int 0, .int 0, .int 0, .int 1]) (q4 := q4) (wsF := fun f => (h0, .inr (0, [.int 0, .ref q1, .ref q2, .ref q3, .ref q4, .int 5, .int 0, .int 0, .int 0, .int 0, .int 1])) :: (q1, fI cI 7) :: (q2, fI cI 7) :: (q3, fI cI 7) :: (q4, .inl (cI, 40, .inl f)) :: []) hx hb hts hown hK (fun _ => rfl) rfl (fun _ => rfl) (fun _ _ => rfl) (fun H locs ls hl hP hD hS => ?_) 40 0 (fun _ => 0) H _ ls rfl (fun j hj => absurd hj (Nat.not_lt_zero j)) hl hP hD hS
  have hP : va_P D vwCl ((h0, .inr (0, [.int 0, .ref q1, .ref q2, .ref q3, .ref q4, .int 5, .int 0, .int 0, .int 0, .int 0, .int 1])) :: (q1, fI cI 7) :: (q2, fI cI 7) :: (q3, fI cI 7) :: (q4, .inl (cI, 40, .inl tabF)) :: []) H := hP
  have hD : va_D A ((h0, .inr (0, [.int 0, .ref q1, .ref q2, .ref q3, .ref q4, .int 5, .int 0, .int 0, .int 0, .int 0, .int 1])) :: (q1, fI cI 7) :: (q2, fI cI 7) :: (q3, fI cI 7) :: (q4, .inl (cI, 40, .inl tabF)) :: []) := hD
  exact W.vret hx hb hr (fun t ht hW => ⟨⟨(q1, q2, q3, q4), rfl, trivial, by rw [ht]; exact hP, va_K.moved hW.alike hK, hD⟩, hS.F ht⟩) hS.2.2 dX0_init_103
