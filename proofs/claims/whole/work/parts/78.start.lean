/-! THE START: what the Statement gives of it -/
def lw_fl : List Cond := flatC (Jvm.Cond.and given_1 narrow_1)
def ls_ixL : List Nat := [100, 102, 103, 104, 106, 108, 110]
def ls_tm (i : Nat) : Term := Term.string "PieFunnels$Reader" (ls_ixL.getD i 0)
theorem ls_ka1 : Cond.arrayOf (Term.static "PieFunnels" "KIND_ABOVE" "[I") .int ∈ lw_fl := by decide +kernel
theorem ls_ka2 : Cond.eq (.length (Term.static "PieFunnels" "KIND_ABOVE" "[I")) (.int (Int32.ofNat 7)) ∈ lw_fl := by decide +kernel
theorem ls_ka3 : ∀ j, j < 7 → Cond.eq (.elem (Term.static "PieFunnels" "KIND_ABOVE" "[I") (.int (Int32.ofNat j))) (.int (fk_ka j)) ∈ lw_fl := by decide +kernel
theorem ls_ka4 : Cond.laysStatic "PieFunnels" "KIND_ABOVE" "[I" ∈ lw_tbl := tb_in2 (List.mem_of_getElem? (i := 121) (by decide +kernel))
theorem ls_bo1 : Cond.arrayOf (Term.static "PieFunnels$Moves" "BODIES" "[I") .int ∈ lw_fl := by decide +kernel
theorem ls_bo2 : Cond.eq (.length (Term.static "PieFunnels$Moves" "BODIES" "[I")) (.int (Int32.ofNat 21)) ∈ lw_fl := by decide +kernel
theorem ls_bo3 : ∀ j, j < 21 → Cond.eq (.elem (Term.static "PieFunnels$Moves" "BODIES" "[I") (.int (Int32.ofNat j))) (.int (fk_bo j)) ∈ lw_fl := by decide +kernel
theorem ls_bo4 : Cond.laysStatic "PieFunnels$Moves" "BODIES" "[I" ∈ lw_tbl := tb_in4 (List.mem_of_getElem? (i := 44) (by decide +kernel))
theorem ls_cs1 : Cond.eq (Term.static "java/lang/String" "COMPACT_STRINGS" "Z") (.int 1) ∈ lw_fl := by decide +kernel
theorem ls_cs2 : Cond.laysStatic "java/lang/String" "COMPACT_STRINGS" "Z" ∈ lw_tbl := tb_in3 (List.mem_of_getElem? (i := 20) (by decide +kernel))
theorem ls_cs3 : Cond.initialized "java/lang/String" ∈ lw_tbl := tb_in1 (List.mem_of_getElem? (i := 12) (by decide +kernel))
theorem ls_sf1 : Cond.isRef (Term.static "jdk/internal/util/Preconditions" "SIOOBE_FORMATTER" "Ljava/util/function/BiFunction;") ∈ lw_fl := by decide +kernel
theorem ls_sf2 : Cond.laysStatic "jdk/internal/util/Preconditions" "SIOOBE_FORMATTER" "Ljava/util/function/BiFunction;" ∈ lw_tbl := tb_in3 (List.mem_of_getElem? (i := 36) (by decide +kernel))
theorem ls_sf3 : Cond.initialized "jdk/internal/util/Preconditions" ∈ lw_tbl := tb_in1 (List.mem_of_getElem? (i := 14) (by decide +kernel))
theorem ls_t0 : ∀ i, i < 7 → fk_len.getD i 0 < 2 ^ 31 := by decide +kernel
theorem ls_t1 : ∀ i, i < 7 → Cond.exactly (ls_tm i) "java/lang/String" ∈ lw_fl := by decide +kernel
theorem ls_t2 : ∀ i, i < 7 → Cond.eq (.field (ls_tm i) "java/lang/String" "coder" "B") (.int 0) ∈ lw_fl := by decide +kernel
theorem ls_t3 : ∀ i, i < 7 → Cond.arrayOf (.field (ls_tm i) "java/lang/String" "value" "[B") .byte ∈ lw_fl := by decide +kernel
theorem ls_t4 : ∀ i, i < 7 → Cond.eq (.length (.field (ls_tm i) "java/lang/String" "value" "[B")) (.int (Int32.ofNat (fk_len.getD i 0))) ∈ lw_fl := by decide +kernel
theorem ls_t5 : ∀ i, i < 7 → ∀ j, j < fk_len.getD i 0 → Cond.eq (.elem (.field (ls_tm i) "java/lang/String" "value" "[B") (.int (Int32.ofNat j))) (.int ((fk_byt.getD i []).getD j 0)) ∈ lw_fl := by decide +kernel
theorem ls_t6 : ∀ i, i < 7 → ∀ j, j < 7 → i ≠ j → Cond.not (Cond.eq (ls_tm i) (ls_tm j)) ∈ lw_fl ∨ Cond.not (Cond.eq (ls_tm j) (ls_tm i)) ∈ lw_fl := by decide +kernel
theorem ls_t7 : ∀ q ∈ fk_strs, q.2.2.2 < 7 ∧ (Term.string q.1 q.2.1 = ls_tm q.2.2.2 ∨ Cond.eq (ls_tm q.2.2.2) (Term.string q.1 q.2.1) ∈ lw_fl) := by decide +kernel
theorem ls_t8 : ∀ q ∈ fk_strs, Cond.stringRef q.1 q.2.1 q.2.2.1 ∈ lw_tbl := by decide +kernel
theorem ls_ne1 : ∀ w ∈ fk_nests, w ∈ lw_tbl := by decide +kernel
theorem ls_ne2 : ∀ w ∈ fk_nests, w.onTables = true := fun w h => List.all_eq_true.mp (show fk_nests.all (fun w => w.onTables) = true from by decide +kernel) w h
theorem ls_ao : Cond.arrayOver (.object RX5) ∈ lw_tbl := tb_in1 (List.mem_of_getElem? (i := 25) (by decide +kernel))
theorem ls_aI : Cond.arrayClass .int ∈ lw_tbl := tb_in1 (List.mem_of_getElem? (i := 86) (by decide +kernel))
theorem ls_aL : Cond.arrayClass .long ∈ lw_tbl := tb_in1 (List.mem_of_getElem? (i := 234) (by decide +kernel))
theorem wzi_7 : Cond.instantiable RX7 12 ∈ fkB := fkB_in (tb_in1 (List.mem_of_getElem? (i := 17) (by decide +kernel))) rfl
theorem wzi_8 : Cond.instantiable RX8 37 ∈ fkB := fkB_in (tb_in4 (List.mem_of_getElem? (i := 73) (by decide +kernel))) rfl
theorem wzk_7 : Cond.code yX7_init cX7_init 2 none ∈ fkB := fkB_in (tb_in1 (List.mem_of_getElem? (i := 20) rfl)) rfl
theorem wzy_7 : Cond.instanceMethod yX7_init ∈ fkB := fkB_in (tb_in1 (List.mem_of_getElem? (i := 19) (by decide +kernel))) rfl
theorem wzk_8 : Cond.code yX8_init cX8_init 3 none ∈ fkB := fkB_in (tb_in4 (List.mem_of_getElem? (i := 76) rfl)) rfl
theorem wzy_8 : Cond.instanceMethod yX8_init ∈ fkB := fkB_in (tb_in4 (List.mem_of_getElem? (i := 75) (by decide +kernel))) rfl
/-- the classes are known -/
theorem ls_cls {s : State} {args : Array Value} (hB : ∀ w ∈ fkB, w.before args s = true) : ∃ D : va_G, ∀ (k : Nat) (q : vw_C), vwCl[k]? = some q → u_Kn s q.1 q.2.1 q.2.2 (D.1 k) (D.2 k) := by
  have h : ∀ k : Nat, ∃ (cC : ClassId) (iS : Nat → Nat), ∀ q : vw_C, vwCl[k]? = some q → u_Kn s q.1 q.2.1 q.2.2 cC iS := by
    intro k
    match k with
    | 0 => obtain ⟨a, b, h⟩ := u_known (C := RX0) (T := TX0) (N := 11) (n := 11) hB wB_0 (hB _ wzi_0); exact ⟨a, b, fun q hq => by cases hq; exact h⟩
    | 1 => obtain ⟨a, b, h⟩ := u_known (C := RX1) (T := TX1) (N := 5) (n := 5) hB wB_1 (hB _ wzi_1); exact ⟨a, b, fun q hq => by cases hq; exact h⟩
    | 2 => obtain ⟨a, b, h⟩ := u_known (C := RX2) (T := TX2) (N := 5) (n := 5) hB wB_2 (hB _ wzi_2); exact ⟨a, b, fun q hq => by cases hq; exact h⟩
    | 3 => obtain ⟨a, b, h⟩ := u_known (C := RX3) (T := TX3) (N := 2) (n := 2) hB wB_3 (hB _ wzi_3); exact ⟨a, b, fun q hq => by cases hq; exact h⟩
    | 4 => obtain ⟨a, b, h⟩ := u_known (C := RX4) (T := TX4) (N := 4) (n := 4) hB wB_4 (hB _ wzi_4); exact ⟨a, b, fun q hq => by cases hq; exact h⟩
    | 5 => obtain ⟨a, b, h⟩ := u_known (C := RX5) (T := TX5) (N := 5) (n := 5) hB wB_5 (hB _ wzi_5); exact ⟨a, b, fun q hq => by cases hq; exact h⟩
    | 6 => obtain ⟨a, b, h⟩ := u_known (C := RX6) (T := TX6) (N := 6) (n := 6) hB wB_6 (hB _ wzi_6); exact ⟨a, b, fun q hq => by cases hq; exact h⟩
    | 7 => obtain ⟨a, b, h⟩ := u_known (C := RX7) (T := TX7) (N := 12) (n := 12) hB wB_7 (hB _ wzi_7); exact ⟨a, b, fun q hq => by cases hq; exact h⟩
    | 8 => obtain ⟨a, b, h⟩ := u_known (C := RX8) (T := TX8) (N := 37) (n := 37) hB wB_8 (hB _ wzi_8); exact ⟨a, b, fun q hq => by cases hq; exact h⟩
    | k + 9 =>
      obtain ⟨a, b, -⟩ := u_known (C := RX0) (T := TX0) (N := 11) (n := 11) hB wB_0 (hB _ wzi_0)
      refine ⟨a, b, fun q hq => ?_⟩
      rw [List.getElem?_eq_none (by show 9 ≤ k + 9; omega)] at hq
      cases hq
  exact ⟨(fun k => Classical.choose (h k), fun k => Classical.choose (Classical.choose_spec (h k))), fun k q hq => Classical.choose_spec (Classical.choose_spec (h k)) q hq⟩
theorem ls_arr {s : State} {args : Array Value} {ty : FieldType} (hw : (Cond.arrayClass ty).before args s = true) (ht : ∀ cA, s.vm.findClass ("[" ++ ty.toString) = some cA → va_RA s cA ty) : ∃ cA, ArrOfT s cA ty ∧ va_RA s cA ty := by
  obtain ⟨cA, kA, comp, h1, h2, h3⟩ := Cond.arrayClass_spec hw
  exact ⟨cA, fun n z => ⟨fun k h => (by cases h), kA, h2, comp, h3⟩, ht cA h1⟩
/-- all that stays, at the law's entry -/
theorem ls_env {s : State} {b : Nat} (hts : ∀ w ∈ lw_tbl, w.before #[Value.ref b] s = true) (hgv : (Jvm.Cond.and given_1 narrow_1).before #[Value.ref b] s = true) : ∃ r : fkR, ∀ (a : Nat → Nat) (D : va_G) (cc : ClassId × ClassId × ClassId), fk_env (a, D, cc, r) (fun q => s.heap.size ≤ q) s := by
  have hg : ∀ w ∈ lw_fl, w.before #[Value.ref b] s = true := flat_of_before _ hgv
  have hA : ∀ a : Nat, a < s.heap.size → ¬ (fun q => s.heap.size ≤ q) a := fun a h => Nat.not_le_of_lt h
  obtain ⟨ka, k1, k2⟩ := va_Tof (f := fun j => .int (fk_ka j)) (by decide) (hg _ ls_ka1) (va_eqt (hg _ ls_ka2)) (fun j hj => va_eqt (hg _ (ls_ka3 j hj))) hA
  obtain ⟨bo, b1, b2⟩ := va_Tof (f := fun j => .int (fk_bo j)) (by decide) (hg _ ls_bo1) (va_eqt (hg _ ls_bo2)) (fun j hj => va_eqt (hg _ (ls_bo3 j hj))) hA
  obtain ⟨adK, adV, hS, hR⟩ := vk_Sof (N := 7) (tm := ls_tm) (len := fk_len) (byt := fk_byt) ls_t0 (fun i hi => hg _ (ls_t1 i hi)) (fun i hi => hg _ (ls_t2 i hi)) (fun i hi => hg _ (ls_t3 i hi)) (fun i hi => hg _ (ls_t4 i hi)) (fun i hi j hj => hg _ (ls_t5 i hi j hj))
    (fun i j hi hj hn => (ls_t6 i hi j hj hn).imp (fun h => hg _ h) (fun h => hg _ h)) hA
  refine ⟨((ka, bo), (adK, adV)), fun a D cc => ⟨fun w hw => va_Nw.of (ls_ne2 w hw) (hts _ (ls_ne1 w hw)), va_Zof (hts _ ls_ka4) (hts _ (List.mem_filter.mp wi_7).1) k1 hA, k2, va_Zof (hts _ ls_bo4) (hts _ (List.mem_filter.mp wi_1).1) b1 hA, b2, hS, fun q hq => ?_, va_Zof (hts _ ls_cs2) (hts _ ls_cs3) (va_eqi (hg _ ls_cs1)) hA, va_Zqof (hts _ ls_sf2) (hts _ ls_sf3) (hg _ ls_sf1) hA⟩⟩
  obtain ⟨q7, h⟩ := ls_t7 q hq
  refine vk_R.of (hts _ (ls_t8 q hq)) ?_
  rcases h with h | h
  · rw [h]
    exact hR _ q7
  · exact va_eqR (hg _ h) (hR _ q7)
