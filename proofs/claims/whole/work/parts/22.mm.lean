theorem dX8_years_0 : decode cX8_years 0 = .ok (.aload_n 0, 1) := by decide +kernel
theorem dX8_years_1 : decode cX8_years 1 = .ok (.getfield 85, 3) := by decide +kernel
theorem dX8_years_4 : decode cX8_years 4 = .ok (.ifCond .ne 10, 3) := by decide +kernel
theorem dX8_years_7 : decode cX8_years 7 = .ok (.aload_n 0, 1) := by decide +kernel
theorem dX8_years_8 : decode cX8_years 8 = .ok (.bipush (-5), 2) := by decide +kernel
theorem dX8_years_10 : decode cX8_years 10 = .ok (.invokevirtual 81, 3) := by decide +kernel
theorem dX8_years_13 : decode cX8_years 13 = .ok (.ireturn, 1) := by decide +kernel
theorem dX8_years_14 : decode cX8_years 14 = .ok (.iload_n 1, 1) := by decide +kernel
theorem dX8_years_15 : decode cX8_years 15 = .ok (.iconst 1, 1) := by decide +kernel
theorem dX8_years_16 : decode cX8_years 16 = .ok (.bipush 60, 2) := by decide +kernel
theorem dX8_years_18 : decode cX8_years 18 = .ok (.invokestatic 88, 3) := by decide +kernel
theorem dX8_years_21 : decode cX8_years 21 = .ok (.ifCond .ne 10, 3) := by decide +kernel
theorem dX8_years_24 : decode cX8_years 24 = .ok (.aload_n 0, 1) := by decide +kernel
theorem dX8_years_25 : decode cX8_years 25 = .ok (.bipush (-6), 2) := by decide +kernel
theorem dX8_years_27 : decode cX8_years 27 = .ok (.invokevirtual 81, 3) := by decide +kernel
theorem dX8_years_30 : decode cX8_years 30 = .ok (.ireturn, 1) := by decide +kernel
theorem dX8_years_31 : decode cX8_years 31 = .ok (.iconst 0, 1) := by decide +kernel
theorem dX8_years_32 : decode cX8_years 32 = .ok (.istore_n 2, 1) := by decide +kernel
theorem dX8_years_33 : decode cX8_years 33 = .ok (.iload_n 2, 1) := by decide +kernel
theorem dX8_years_34 : decode cX8_years 34 = .ok (.iload_n 1, 1) := by decide +kernel
theorem dX8_years_35 : decode cX8_years 35 = .ok (.if_icmp .ge 68, 3) := by decide +kernel
theorem dX8_years_38 : decode cX8_years 38 = .ok (.aload_n 0, 1) := by decide +kernel
theorem dX8_years_39 : decode cX8_years 39 = .ok (.aload_n 0, 1) := by decide +kernel
theorem dX8_years_40 : decode cX8_years 40 = .ok (.getfield 85, 3) := by decide +kernel
theorem dX8_years_43 : decode cX8_years 43 = .ok (.invokevirtual 286, 3) := by decide +kernel
theorem dX8_years_46 : decode cX8_years 46 = .ok (.istore_n 3, 1) := by decide +kernel
theorem dX8_years_47 : decode cX8_years 47 = .ok (.aload_n 0, 1) := by decide +kernel
theorem dX8_years_48 : decode cX8_years 48 = .ok (.getfield 19, 3) := by decide +kernel
theorem dX8_years_51 : decode cX8_years 51 = .ok (.iconst 0, 1) := by decide +kernel
theorem dX8_years_52 : decode cX8_years 52 = .ok (.aload_n 0, 1) := by decide +kernel
theorem dX8_years_53 : decode cX8_years 53 = .ok (.bipush 10, 2) := by decide +kernel
theorem dX8_years_55 : decode cX8_years 55 = .ok (.invokevirtual 286, 3) := by decide +kernel
theorem dX8_years_58 : decode cX8_years 58 = .ok (.iastore, 1) := by decide +kernel
theorem dX8_years_59 : decode cX8_years 59 = .ok (.aload_n 0, 1) := by decide +kernel
theorem dX8_years_60 : decode cX8_years 60 = .ok (.iconst 3, 1) := by decide +kernel
theorem dX8_years_61 : decode cX8_years 61 = .ok (.putfield 112, 3) := by decide +kernel
theorem dX8_years_64 : decode cX8_years 64 = .ok (.iconst 0, 1) := by decide +kernel
theorem dX8_years_65 : decode cX8_years 65 = .ok (.istore 4, 2) := by decide +kernel
theorem dX8_years_67 : decode cX8_years 67 = .ok (.iload 4, 2) := by decide +kernel
theorem dX8_years_69 : decode cX8_years 69 = .ok (.iconst 3, 1) := by decide +kernel
theorem dX8_years_70 : decode cX8_years 70 = .ok (.if_icmp .ge 22, 3) := by decide +kernel
theorem dX8_years_73 : decode cX8_years 73 = .ok (.aload_n 0, 1) := by decide +kernel
theorem dX8_years_74 : decode cX8_years 74 = .ok (.getfield 50, 3) := by decide +kernel
theorem dX8_years_77 : decode cX8_years 77 = .ok (.iload 4, 2) := by decide +kernel
theorem dX8_years_79 : decode cX8_years 79 = .ok (.aload_n 0, 1) := by decide +kernel
theorem dX8_years_80 : decode cX8_years 80 = .ok (.bipush 10, 2) := by decide +kernel
theorem dX8_years_82 : decode cX8_years 82 = .ok (.invokevirtual 286, 3) := by decide +kernel
theorem dX8_years_85 : decode cX8_years 85 = .ok (.iastore, 1) := by decide +kernel
theorem dX8_years_86 : decode cX8_years 86 = .ok (.iinc 4 1, 3) := by decide +kernel
theorem dX8_years_89 : decode cX8_years 89 = .ok (.goto (-22), 3) := by decide +kernel
theorem dX8_years_92 : decode cX8_years 92 = .ok (.aload_n 0, 1) := by decide +kernel
theorem dX8_years_93 : decode cX8_years 93 = .ok (.iload_n 3, 1) := by decide +kernel
theorem dX8_years_94 : decode cX8_years 94 = .ok (.invokevirtual 283, 3) := by decide +kernel
theorem dX8_years_97 : decode cX8_years 97 = .ok (.iinc 2 1, 3) := by decide +kernel
theorem dX8_years_100 : decode cX8_years 100 = .ok (.goto (-67), 3) := by decide +kernel
theorem dX8_years_103 : decode cX8_years 103 = .ok (.aload_n 0, 1) := by decide +kernel
theorem dX8_years_104 : decode cX8_years 104 = .ok (.getfield 280, 3) := by decide +kernel
theorem dX8_years_107 : decode cX8_years 107 = .ok (.ireturn, 1) := by decide +kernel
def B8_years_67 (k33 : Int32 → Int32 → fkS → Option (Int32 × fkS)) (k67 : Int32 → Int32 → Int32 → Int32 → fkS → Option (Int32 × fkS)) (v1 : Int32) (v2 : Int32) (v3 : Int32) (v4 : Int32) (st : fkS) : Option (Int32 × fkS) :=
 if (3 : Int32) ≤ v4 then
 (fk_bind (F8_bakes v3 st) <| fun _ st16 =>
 k33 v1 (v2 + (1 : Int32)) st16)
 else
 (fk_bind (F8_draw (10 : Int32) st) <| fun x17 st18 =>
 fk_chk (fk_in v4 8) <| fk_let (sA st18 14 v4.toNatClampNeg x17) <| fun st19 =>
 k67 v1 v2 v3 (v4 + (1 : Int32)) st19)
set_option maxHeartbeats 1000000 in
set_option maxRecDepth 20000 in
theorem T8_years_67 {g : fkG} {k : fkK} (hk : fk_ok wM g k RX8 cX8_years 5 (some (.int)) 6 167) (k33 : Int32 → Int32 → fkS → Option (Int32 × fkS)) (H33 : ∀ (v1 : Int32) (v2 : Int32) (st : fkS), fk_J wM g fk_eI k 33 [(0, fk_r g 0), (1, .int v1), (2, .int v2)] [] st (k33 v1 v2 st)) (k67 : Int32 → Int32 → Int32 → Int32 → fkS → Option (Int32 × fkS)) (H67 : ∀ (v1 : Int32) (v2 : Int32) (v3 : Int32) (v4 : Int32) (st : fkS), fk_J wM g fk_eI k 67 [(0, fk_r g 0), (1, .int v1), (2, .int v2), (3, .int v3), (4, .int v4)] [] st (k67 v1 v2 v3 v4 st)) : ∀ (v1 : Int32) (v2 : Int32) (v3 : Int32) (v4 : Int32) (st : fkS), fk_J wM g fk_eI k 67 [(0, fk_r g 0), (1, .int v1), (2, .int v2), (3, .int v3), (4, .int v4)] [] st (B8_years_67 k33 k67 v1 v2 v3 v4 st) := by
  intro v1 v2 v3 v4 st
  unfold B8_years_67
  refine j_iload (pc := 67) hk 4 rfl dX8_years_67 ?_
  refine j_iconst (pc := 69) hk dX8_years_69 (v := 3) (by decide) ?_
  refine j_icmp_ge (tgt := 92) (pc := 70) hk (by decide) dX8_years_70 (fun _ => ?_) (fun _ => ?_)
  · refine j_aload_n (pc := 92) hk 0 rfl ⟨_, rfl⟩ dX8_years_92 ?_
    refine j_iload_n (pc := 93) hk 3 rfl dX8_years_93 ?_
    refine j_callVv (pc := 94) hk [.int v3] [] rfl (fun l o hq9 => C8_bakes v3 st l o hq9) (rcv_8 (rfl)) yv_X8_bakes ml_8_283 rfl (Nat.le_of_ble_eq_true rfl) (Nat.le_of_ble_eq_true rfl) (Nat.le_of_ble_eq_true rfl) dX8_years_94 (fun _ st16 => ?_)
    refine j_iinc (dd := (1 : Int32)) (lv' := ((2, .int (v2 + (1 : Int32))) :: [(0, fk_r g 0), (1, .int v1), (3, .int v3), (4, .int v4)])) (pc := 97) hk 2 rfl (by decide) (by decide) rfl dX8_years_97 ?_
    refine j_sub hk (lv' := [(0, fk_r g 0), (1, .int v1), (2, .int (v2 + (1 : Int32))), (3, .int v3), (4, .int v4)]) [1, 2, 0, 3, 4] rfl ?_
    refine j_goto (tgt := 33) (pc := 100) hk (by decide) dX8_years_100 ?_
    exact j_sub hk [0, 1, 2] rfl (H33 v1 (v2 + (1 : Int32)) st16)
  · refine j_aload_n (pc := 73) hk 0 rfl ⟨_, rfl⟩ dX8_years_73 ?_
    refine f_8_50 (pc := 74) hk (rfl) dX8_years_74 ?_
    refine j_iload (pc := 77) hk 4 rfl dX8_years_77 ?_
    refine j_aload_n (pc := 79) hk 0 rfl ⟨_, rfl⟩ dX8_years_79 ?_
    refine j_bipush (pc := 80) hk dX8_years_80 (v := 10) (by decide) ?_
    refine j_callVi (pc := 82) hk [.int (10 : Int32)] [.int v4, fk_r g 14] rfl (fun l o hq9 => C8_draw (10 : Int32) st l o hq9) (rcv_8 (rfl)) yv_X8_draw ml_8_286 rfl (Nat.le_of_ble_eq_true rfl) (Nat.le_of_ble_eq_true rfl) (Nat.le_of_ble_eq_true rfl) dX8_years_82 (fun x17 st18 => ?_)
    refine a_istore (pc := 85) hk (isI_8_23) dX8_years_85 (fun st19 => ?_)
    refine j_iinc (dd := (1 : Int32)) (lv' := ((4, .int (v4 + (1 : Int32))) :: [(0, fk_r g 0), (1, .int v1), (2, .int v2), (3, .int v3)])) (pc := 86) hk 4 rfl (by decide) (by decide) rfl dX8_years_86 ?_
    refine j_sub hk (lv' := [(0, fk_r g 0), (1, .int v1), (2, .int v2), (3, .int v3), (4, .int (v4 + (1 : Int32)))]) [1, 2, 3, 4, 0] rfl ?_
    refine j_goto (tgt := 67) (pc := 89) hk (by decide) dX8_years_89 ?_
    exact j_sub hk [0, 1, 2, 3, 4] rfl (H67 v1 v2 v3 (v4 + (1 : Int32)) st19)
set_option maxHeartbeats 1000000 in
set_option maxRecDepth 20000 in
theorem L8_years_67 {g : fkG} {k : fkK} (hk : fk_ok wM g k RX8 cX8_years 5 (some (.int)) 6 167) (k33 : Int32 → Int32 → fkS → Option (Int32 × fkS)) (H33 : ∀ (v1 : Int32) (v2 : Int32) (st : fkS), fk_J wM g fk_eI k 33 [(0, fk_r g 0), (1, .int v1), (2, .int v2)] [] st (k33 v1 v2 st)) (fu : Nat) : ∀ (v1 : Int32) (v2 : Int32) (v3 : Int32) (v4 : Int32) (st : fkS), fk_J wM g fk_eI k 67 [(0, fk_r g 0), (1, .int v1), (2, .int v2), (3, .int v3), (4, .int v4)] [] st (fk_lp4 (B8_years_67 k33) fu v1 v2 v3 v4 st) := by
  induction fu with
  | zero =>
    intro v1 v2 v3 v4 st
    exact j_none hk
  | succ fu ih =>
    exact T8_years_67 hk k33 H33 _ ih
def B8_years_33 (k33 : Int32 → Int32 → fkS → Option (Int32 × fkS)) (v1 : Int32) (v2 : Int32) (st : fkS) : Option (Int32 × fkS) :=
 if v1 ≤ v2 then
 (fk_let (gI st 7 0) <| fun x8 =>
 some (x8, st))
 else
 (fk_let (gI st 0 0) <| fun x9 =>
 fk_bind (F8_draw x9 st) <| fun x10 st11 =>
 fk_bind (F8_draw (10 : Int32) st11) <| fun x12 st13 =>
 fk_chk (fk_in (0 : Int32) 3) <| fk_let (sA st13 4 (0 : Int32).toNatClampNeg x12) <| fun st14 =>
 fk_let (sI st14 22 0 (3 : Int32)) <| fun st15 =>
 fk_lp4 (B8_years_67 k33) fk_fuel v1 v2 x10 (0 : Int32) st15)
set_option maxHeartbeats 1000000 in
set_option maxRecDepth 20000 in
theorem T8_years_33 {g : fkG} {k : fkK} (hk : fk_ok wM g k RX8 cX8_years 5 (some (.int)) 6 167) (k33 : Int32 → Int32 → fkS → Option (Int32 × fkS)) (H33 : ∀ (v1 : Int32) (v2 : Int32) (st : fkS), fk_J wM g fk_eI k 33 [(0, fk_r g 0), (1, .int v1), (2, .int v2)] [] st (k33 v1 v2 st)) : ∀ (v1 : Int32) (v2 : Int32) (st : fkS), fk_J wM g fk_eI k 33 [(0, fk_r g 0), (1, .int v1), (2, .int v2)] [] st (B8_years_33 k33 v1 v2 st) := by
  intro v1 v2 st
  unfold B8_years_33
  refine j_iload_n (pc := 33) hk 2 rfl dX8_years_33 ?_
  refine j_iload_n (pc := 34) hk 1 rfl dX8_years_34 ?_
  refine j_icmp_ge (tgt := 103) (pc := 35) hk (by decide) dX8_years_35 (fun _ => ?_) (fun _ => ?_)
  · refine j_aload_n (pc := 103) hk 0 rfl ⟨_, rfl⟩ dX8_years_103 ?_
    refine f_8_280 (pc := 104) hk (rfl) dX8_years_104 (fun x8 => ?_)
    exact j_iret (pc := 107) hk dX8_years_107
  · refine j_aload_n (pc := 38) hk 0 rfl ⟨_, rfl⟩ dX8_years_38 ?_
    refine j_aload_n (pc := 39) hk 0 rfl ⟨_, rfl⟩ dX8_years_39 ?_
    refine f_8_85 (pc := 40) hk (rfl) dX8_years_40 (fun x9 => ?_)
    refine j_callVi (pc := 43) hk [.int x9] [] rfl (fun l o hq9 => C8_draw x9 st l o hq9) (rcv_8 (rfl)) yv_X8_draw ml_8_286 rfl (Nat.le_of_ble_eq_true rfl) (Nat.le_of_ble_eq_true rfl) (Nat.le_of_ble_eq_true rfl) dX8_years_43 (fun x10 st11 => ?_)
    refine j_istore_n (lv' := ((3, .int x10) :: [(0, fk_r g 0), (1, .int v1), (2, .int v2)])) (pc := 46) hk rfl (by decide) rfl dX8_years_46 ?_
    refine j_sub hk (lv' := [(0, fk_r g 0), (1, .int v1), (2, .int v2), (3, .int x10)]) [1, 2, 3, 0] rfl ?_
    refine j_aload_n (pc := 47) hk 0 rfl ⟨_, rfl⟩ dX8_years_47 ?_
    refine f_8_19 (pc := 48) hk (rfl) dX8_years_48 ?_
    refine j_iconst (pc := 51) hk dX8_years_51 (v := 0) (by decide) ?_
    refine j_aload_n (pc := 52) hk 0 rfl ⟨_, rfl⟩ dX8_years_52 ?_
    refine j_bipush (pc := 53) hk dX8_years_53 (v := 10) (by decide) ?_
    refine j_callVi (pc := 55) hk [.int (10 : Int32)] [.int (0 : Int32), fk_r g 4] rfl (fun l o hq9 => C8_draw (10 : Int32) st11 l o hq9) (rcv_8 (rfl)) yv_X8_draw ml_8_286 rfl (Nat.le_of_ble_eq_true rfl) (Nat.le_of_ble_eq_true rfl) (Nat.le_of_ble_eq_true rfl) dX8_years_55 (fun x12 st13 => ?_)
    refine a_istore (pc := 58) hk (isI_8_4) dX8_years_58 (fun st14 => ?_)
    refine j_aload_n (pc := 59) hk 0 rfl ⟨_, rfl⟩ dX8_years_59 ?_
    refine j_iconst (pc := 60) hk dX8_years_60 (v := 3) (by decide) ?_
    refine p_8_112 (pc := 61) hk (rfl) dX8_years_61 (fun st15 => ?_)
    refine j_iconst (pc := 64) hk dX8_years_64 (v := 0) (by decide) ?_
    refine j_istore (lv' := ((4, .int (0 : Int32)) :: [(0, fk_r g 0), (1, .int v1), (2, .int v2), (3, .int x10)])) (pc := 65) hk (by decide) rfl dX8_years_65 ?_
    refine j_sub hk (lv' := [(0, fk_r g 0), (1, .int v1), (2, .int v2), (3, .int x10), (4, .int (0 : Int32))]) [1, 2, 3, 4, 0] rfl ?_
    exact j_sub hk [0, 1, 2, 3, 4] rfl (L8_years_67 hk k33 H33 fk_fuel v1 v2 x10 (0 : Int32) st15)
set_option maxHeartbeats 1000000 in
set_option maxRecDepth 20000 in
theorem L8_years_33 {g : fkG} {k : fkK} (hk : fk_ok wM g k RX8 cX8_years 5 (some (.int)) 6 167) (fu : Nat) : ∀ (v1 : Int32) (v2 : Int32) (st : fkS), fk_J wM g fk_eI k 33 [(0, fk_r g 0), (1, .int v1), (2, .int v2)] [] st (fk_lp2 (B8_years_33) fu v1 v2 st) := by
  induction fu with
  | zero =>
    intro v1 v2 st
    exact j_none hk
  | succ fu ih =>
    exact T8_years_33 hk _ ih
def F8_years (p1 : Int32) (st : fkS) : Option (Int32 × fkS) :=
 fk_let (gI st 0 0) <| fun x1 =>
 if x1 = 0 then
 (fk_bind (F8_no (-5 : Int32) st) <| fun x2 st3 =>
 some (x2, st3))
 else
 (fk_bind (F8_within p1 (1 : Int32) (60 : Int32) st) <| fun x4 st5 =>
 if x4 = 0 then
 (fk_bind (F8_no (-6 : Int32) st5) <| fun x6 st7 =>
 some (x6, st7))
 else
 (fk_lp2 (B8_years_33) fk_fuel p1 (0 : Int32) st5))
set_option maxHeartbeats 1000000 in
set_option maxRecDepth 20000 in
theorem C8_years (p1 : Int32) (st : fkS) {g : fkG} (l : Launch) (o : Int32 × fkS) (hF : F8_years p1 st = some o) : fk_C wM yX8_years cX8_years 5 (some (.int)) 6 167 l g [fk_r g 0, .int p1] st (fk_eI o.1) o.2 := by
  refine fk_begin rfl (Nat.le_of_ble_eq_true rfl) (fun k hk => ?_) o hF
  have hk : fk_ok wM g k RX8 cX8_years 5 (some (.int)) 6 167 := hk
  show fk_J wM g fk_eI k 0 [(0, fk_r g 0), (1, .int p1)] [] st (F8_years p1 st)
  unfold F8_years
  refine j_aload_n (pc := 0) hk 0 rfl ⟨_, rfl⟩ dX8_years_0 ?_
  refine f_8_85 (pc := 1) hk (rfl) dX8_years_1 (fun x1 => ?_)
  refine j_if_ne (tgt := 14) (pc := 4) hk (by decide) dX8_years_4 (fun _ => ?_) (fun _ => ?_)
  · refine j_aload_n (pc := 7) hk 0 rfl ⟨_, rfl⟩ dX8_years_7 ?_
    refine j_bipush (pc := 8) hk dX8_years_8 (v := -5) (by decide) ?_
    refine j_callVi (pc := 10) hk [.int (-5 : Int32)] [] rfl (fun l o hq9 => C8_no (-5 : Int32) st l o hq9) (rcv_8 (rfl)) yv_X8_no ml_8_81 rfl (Nat.le_of_ble_eq_true rfl) (Nat.le_of_ble_eq_true rfl) (Nat.le_of_ble_eq_true rfl) dX8_years_10 (fun x2 st3 => ?_)
    exact j_iret (pc := 13) hk dX8_years_13
  · refine j_iload_n (pc := 14) hk 1 rfl dX8_years_14 ?_
    refine j_iconst (pc := 15) hk dX8_years_15 (v := 1) (by decide) ?_
    refine j_bipush (pc := 16) hk dX8_years_16 (v := 60) (by decide) ?_
    refine j_callSi (pc := 18) hk [.int p1, .int (1 : Int32), .int (60 : Int32)] [] rfl (fun l o hq9 => C8_within p1 (1 : Int32) (60 : Int32) st l o hq9) yv_X8_within ml_8_88 rfl (Nat.le_of_ble_eq_true rfl) (Nat.le_of_ble_eq_true rfl) (Nat.le_of_ble_eq_true rfl) dX8_years_18 (fun x4 st5 => ?_)
    refine j_if_ne (tgt := 31) (pc := 21) hk (by decide) dX8_years_21 (fun _ => ?_) (fun _ => ?_)
    · refine j_aload_n (pc := 24) hk 0 rfl ⟨_, rfl⟩ dX8_years_24 ?_
      refine j_bipush (pc := 25) hk dX8_years_25 (v := -6) (by decide) ?_
      refine j_callVi (pc := 27) hk [.int (-6 : Int32)] [] rfl (fun l o hq9 => C8_no (-6 : Int32) st5 l o hq9) (rcv_8 (rfl)) yv_X8_no ml_8_81 rfl (Nat.le_of_ble_eq_true rfl) (Nat.le_of_ble_eq_true rfl) (Nat.le_of_ble_eq_true rfl) dX8_years_27 (fun x6 st7 => ?_)
      exact j_iret (pc := 30) hk dX8_years_30
    · refine j_iconst (pc := 31) hk dX8_years_31 (v := 0) (by decide) ?_
      refine j_istore_n (lv' := ((2, .int (0 : Int32)) :: [(0, fk_r g 0), (1, .int p1)])) (pc := 32) hk rfl (by decide) rfl dX8_years_32 ?_
      refine j_sub hk (lv' := [(0, fk_r g 0), (1, .int p1), (2, .int (0 : Int32))]) [1, 2, 0] rfl ?_
      exact j_sub hk [0, 1, 2] rfl (L8_years_33 hk fk_fuel p1 (0 : Int32) st5)
theorem dX8_seed_0 : decode cX8_seed 0 = .ok (.aload_n 0, 1) := by decide +kernel
theorem dX8_seed_1 : decode cX8_seed 1 = .ok (.getfield 74, 3) := by decide +kernel
theorem dX8_seed_4 : decode cX8_seed 4 = .ok (.istore_n 2, 1) := by decide +kernel
theorem dX8_seed_5 : decode cX8_seed 5 = .ok (.aload_n 0, 1) := by decide +kernel
theorem dX8_seed_6 : decode cX8_seed 6 = .ok (.iload_n 1, 1) := by decide +kernel
theorem dX8_seed_7 : decode cX8_seed 7 = .ok (.putfield 74, 3) := by decide +kernel
theorem dX8_seed_10 : decode cX8_seed 10 = .ok (.iload_n 2, 1) := by decide +kernel
theorem dX8_seed_11 : decode cX8_seed 11 = .ok (.ireturn, 1) := by decide +kernel
def F8_seed (p1 : Int32) (st : fkS) : Option (Int32 × fkS) :=
 fk_let (gI st 8 0) <| fun x1 =>
 fk_let (sI st 8 0 p1) <| fun st2 =>
 some (x1, st2)
set_option maxHeartbeats 1000000 in
set_option maxRecDepth 20000 in
theorem C8_seed (p1 : Int32) (st : fkS) {g : fkG} (l : Launch) (o : Int32 × fkS) (hF : F8_seed p1 st = some o) : fk_C wM yX8_seed cX8_seed 3 (some (.int)) 0 0 l g [fk_r g 0, .int p1] st (fk_eI o.1) o.2 := by
  refine fk_begin rfl (Nat.le_of_ble_eq_true rfl) (fun k hk => ?_) o hF
  have hk : fk_ok wM g k RX8 cX8_seed 3 (some (.int)) 0 0 := hk
  show fk_J wM g fk_eI k 0 [(0, fk_r g 0), (1, .int p1)] [] st (F8_seed p1 st)
  unfold F8_seed
  refine j_aload_n (pc := 0) hk 0 rfl ⟨_, rfl⟩ dX8_seed_0 ?_
  refine f_8_74 (pc := 1) hk (rfl) dX8_seed_1 (fun x1 => ?_)
  refine j_istore_n (lv' := ((2, .int x1) :: [(0, fk_r g 0), (1, .int p1)])) (pc := 4) hk rfl (by decide) rfl dX8_seed_4 ?_
  refine j_sub hk (lv' := [(0, fk_r g 0), (1, .int p1), (2, .int x1)]) [1, 2, 0] rfl ?_
  refine j_aload_n (pc := 5) hk 0 rfl ⟨_, rfl⟩ dX8_seed_5 ?_
  refine j_iload_n (pc := 6) hk 1 rfl dX8_seed_6 ?_
  refine p_8_74 (pc := 7) hk (rfl) dX8_seed_7 (fun st2 => ?_)
  refine j_iload_n (pc := 10) hk 2 rfl dX8_seed_10 ?_
  exact j_iret (pc := 11) hk dX8_seed_11
theorem dX8_ran_0 : decode cX8_ran 0 = .ok (.aload_n 0, 1) := by decide +kernel
theorem dX8_ran_1 : decode cX8_ran 1 = .ok (.getfield 289, 3) := by decide +kernel
theorem dX8_ran_4 : decode cX8_ran 4 = .ok (.bipush 20, 2) := by decide +kernel
theorem dX8_ran_6 : decode cX8_ran 6 = .ok (.if_icmp .ge 13, 3) := by decide +kernel
theorem dX8_ran_9 : decode cX8_ran 9 = .ok (.aload_n 0, 1) := by decide +kernel
theorem dX8_ran_10 : decode cX8_ran 10 = .ok (.getfield 41, 3) := by decide +kernel
theorem dX8_ran_13 : decode cX8_ran 13 = .ok (.aload_n 0, 1) := by decide +kernel
theorem dX8_ran_14 : decode cX8_ran 14 = .ok (.getfield 289, 3) := by decide +kernel
theorem dX8_ran_17 : decode cX8_ran 17 = .ok (.iload_n 1, 1) := by decide +kernel
theorem dX8_ran_18 : decode cX8_ran 18 = .ok (.iastore, 1) := by decide +kernel
theorem dX8_ran_19 : decode cX8_ran 19 = .ok (.aload_n 0, 1) := by decide +kernel
theorem dX8_ran_20 : decode cX8_ran 20 = .ok (.dup, 1) := by decide +kernel
theorem dX8_ran_21 : decode cX8_ran 21 = .ok (.getfield 289, 3) := by decide +kernel
theorem dX8_ran_24 : decode cX8_ran 24 = .ok (.iconst 1, 1) := by decide +kernel
theorem dX8_ran_25 : decode cX8_ran 25 = .ok (.iadd, 1) := by decide +kernel
theorem dX8_ran_26 : decode cX8_ran 26 = .ok (.putfield 289, 3) := by decide +kernel
theorem dX8_ran_29 : decode cX8_ran 29 = .ok (.return_, 1) := by decide +kernel
def B8_ran_19 (st : fkS) : Option (Unit × fkS) :=
 fk_let (gI st 17 0) <| fun x4 =>
 fk_let (sI st 17 0 (x4 + (1 : Int32))) <| fun st5 =>
 some ((), st5)
set_option maxHeartbeats 1000000 in
set_option maxRecDepth 20000 in
theorem T8_ran_19 {g : fkG} {k : fkK} (hk : fk_ok wM g k RX8 cX8_ran 2 none 0 0) : ∀ (st : fkS), fk_J wM g fk_eU k 19 [(0, fk_r g 0)] [] st (B8_ran_19 st) := by
  intro st
  unfold B8_ran_19
  refine j_aload_n (pc := 19) hk 0 rfl ⟨_, rfl⟩ dX8_ran_19 ?_
  refine j_dup (pc := 20) hk rfl dX8_ran_20 ?_
  refine f_8_289 (pc := 21) hk (rfl) dX8_ran_21 (fun x4 => ?_)
  refine j_iconst (pc := 24) hk dX8_ran_24 (v := 1) (by decide) ?_
  refine j_iadd (pc := 25) hk dX8_ran_25 ?_
  refine p_8_289 (pc := 26) hk (rfl) dX8_ran_26 (fun st5 => ?_)
  exact j_vret (pc := 29) hk dX8_ran_29
def F8_ran (p1 : Int32) (st : fkS) : Option (Unit × fkS) :=
 fk_let (gI st 17 0) <| fun x1 =>
 if (20 : Int32) ≤ x1 then
 (B8_ran_19 st)
 else
 (fk_let (gI st 17 0) <| fun x2 =>
 fk_chk (fk_in x2 20) <| fk_let (sA st 11 x2.toNatClampNeg p1) <| fun st3 =>
 B8_ran_19 st3)
set_option maxHeartbeats 1000000 in
set_option maxRecDepth 20000 in
theorem C8_ran (p1 : Int32) (st : fkS) {g : fkG} (l : Launch) (o : Unit × fkS) (hF : F8_ran p1 st = some o) : fk_C wM yX8_ran cX8_ran 2 none 0 0 l g [fk_r g 0, .int p1] st (fk_eU o.1) o.2 := by
  refine fk_begin rfl (Nat.le_of_ble_eq_true rfl) (fun k hk => ?_) o hF
  have hk : fk_ok wM g k RX8 cX8_ran 2 none 0 0 := hk
  show fk_J wM g fk_eU k 0 [(0, fk_r g 0), (1, .int p1)] [] st (F8_ran p1 st)
  unfold F8_ran
  refine j_aload_n (pc := 0) hk 0 rfl ⟨_, rfl⟩ dX8_ran_0 ?_
  refine f_8_289 (pc := 1) hk (rfl) dX8_ran_1 (fun x1 => ?_)
  refine j_bipush (pc := 4) hk dX8_ran_4 (v := 20) (by decide) ?_
  refine j_icmp_ge (tgt := 19) (pc := 6) hk (by decide) dX8_ran_6 (fun _ => ?_) (fun _ => ?_)
  · exact j_sub hk [0] rfl (T8_ran_19 hk st)
  · refine j_aload_n (pc := 9) hk 0 rfl ⟨_, rfl⟩ dX8_ran_9 ?_
    refine f_8_41 (pc := 10) hk (rfl) dX8_ran_10 ?_
    refine j_aload_n (pc := 13) hk 0 rfl ⟨_, rfl⟩ dX8_ran_13 ?_
    refine f_8_289 (pc := 14) hk (rfl) dX8_ran_14 (fun x2 => ?_)
    refine j_iload_n (pc := 17) hk 1 rfl dX8_ran_17 ?_
    refine a_istore (pc := 18) hk (isI_8_18) dX8_ran_18 (fun st3 => ?_)
    exact j_sub hk [0] rfl (T8_ran_19 hk st3)
theorem dX8_singsBy_0 : decode cX8_singsBy 0 = .ok (.iload_n 2, 1) := by decide +kernel
theorem dX8_singsBy_1 : decode cX8_singsBy 1 = .ok (.tableswitch 122 0 6 #[43, 53, 122, 74, 90, 122, 106], 43) := by decide +kernel
theorem dX8_singsBy_44 : decode cX8_singsBy 44 = .ok (.aload_n 0, 1) := by decide +kernel
theorem dX8_singsBy_45 : decode cX8_singsBy 45 = .ok (.bipush 10, 2) := by decide +kernel
theorem dX8_singsBy_47 : decode cX8_singsBy 47 = .ok (.invokevirtual 292, 3) := by decide +kernel
theorem dX8_singsBy_50 : decode cX8_singsBy 50 = .ok (.iload_n 3, 1) := by decide +kernel
theorem dX8_singsBy_51 : decode cX8_singsBy 51 = .ok (.iload_n 1, 1) := by decide +kernel
theorem dX8_singsBy_52 : decode cX8_singsBy 52 = .ok (.iadd, 1) := by decide +kernel
theorem dX8_singsBy_53 : decode cX8_singsBy 53 = .ok (.ireturn, 1) := by decide +kernel
theorem dX8_singsBy_54 : decode cX8_singsBy 54 = .ok (.aload_n 0, 1) := by decide +kernel
theorem dX8_singsBy_55 : decode cX8_singsBy 55 = .ok (.bipush 20, 2) := by decide +kernel
theorem dX8_singsBy_57 : decode cX8_singsBy 57 = .ok (.invokevirtual 292, 3) := by decide +kernel
theorem dX8_singsBy_60 : decode cX8_singsBy 60 = .ok (.aload_n 0, 1) := by decide +kernel
theorem dX8_singsBy_61 : decode cX8_singsBy 61 = .ok (.iload_n 1, 1) := by decide +kernel
theorem dX8_singsBy_62 : decode cX8_singsBy 62 = .ok (.iconst 0, 1) := by decide +kernel
theorem dX8_singsBy_63 : decode cX8_singsBy 63 = .ok (.iload_n 3, 1) := by decide +kernel
theorem dX8_singsBy_64 : decode cX8_singsBy 64 = .ok (.invokevirtual 295, 3) := by decide +kernel
theorem dX8_singsBy_67 : decode cX8_singsBy 67 = .ok (.aload_n 0, 1) := by decide +kernel
theorem dX8_singsBy_68 : decode cX8_singsBy 68 = .ok (.getfield 13, 3) := by decide +kernel
theorem dX8_singsBy_71 : decode cX8_singsBy 71 = .ok (.iload_n 1, 1) := by decide +kernel
theorem dX8_singsBy_72 : decode cX8_singsBy 72 = .ok (.iaload, 1) := by decide +kernel
theorem dX8_singsBy_73 : decode cX8_singsBy 73 = .ok (.iadd, 1) := by decide +kernel
theorem dX8_singsBy_74 : decode cX8_singsBy 74 = .ok (.ireturn, 1) := by decide +kernel
theorem dX8_singsBy_75 : decode cX8_singsBy 75 = .ok (.aload_n 0, 1) := by decide +kernel
theorem dX8_singsBy_76 : decode cX8_singsBy 76 = .ok (.bipush 40, 2) := by decide +kernel
theorem dX8_singsBy_78 : decode cX8_singsBy 78 = .ok (.invokevirtual 292, 3) := by decide +kernel
theorem dX8_singsBy_81 : decode cX8_singsBy 81 = .ok (.aload_n 0, 1) := by decide +kernel
theorem dX8_singsBy_82 : decode cX8_singsBy 82 = .ok (.iload_n 1, 1) := by decide +kernel
theorem dX8_singsBy_83 : decode cX8_singsBy 83 = .ok (.iconst 1, 1) := by decide +kernel
theorem dX8_singsBy_84 : decode cX8_singsBy 84 = .ok (.iload_n 3, 1) := by decide +kernel
theorem dX8_singsBy_85 : decode cX8_singsBy 85 = .ok (.iconst 1, 1) := by decide +kernel
theorem dX8_singsBy_86 : decode cX8_singsBy 86 = .ok (.iadd, 1) := by decide +kernel
theorem dX8_singsBy_87 : decode cX8_singsBy 87 = .ok (.invokevirtual 295, 3) := by decide +kernel
theorem dX8_singsBy_90 : decode cX8_singsBy 90 = .ok (.ireturn, 1) := by decide +kernel
theorem dX8_singsBy_91 : decode cX8_singsBy 91 = .ok (.aload_n 0, 1) := by decide +kernel
theorem dX8_singsBy_92 : decode cX8_singsBy 92 = .ok (.bipush 51, 2) := by decide +kernel
theorem dX8_singsBy_94 : decode cX8_singsBy 94 = .ok (.invokevirtual 292, 3) := by decide +kernel
theorem dX8_singsBy_97 : decode cX8_singsBy 97 = .ok (.aload_n 0, 1) := by decide +kernel
theorem dX8_singsBy_98 : decode cX8_singsBy 98 = .ok (.iload_n 1, 1) := by decide +kernel
theorem dX8_singsBy_99 : decode cX8_singsBy 99 = .ok (.iconst 0, 1) := by decide +kernel
theorem dX8_singsBy_100 : decode cX8_singsBy 100 = .ok (.iload_n 3, 1) := by decide +kernel
theorem dX8_singsBy_101 : decode cX8_singsBy 101 = .ok (.invokevirtual 295, 3) := by decide +kernel
theorem dX8_singsBy_104 : decode cX8_singsBy 104 = .ok (.iload_n 1, 1) := by decide +kernel
theorem dX8_singsBy_105 : decode cX8_singsBy 105 = .ok (.isub, 1) := by decide +kernel
theorem dX8_singsBy_106 : decode cX8_singsBy 106 = .ok (.ireturn, 1) := by decide +kernel
theorem dX8_singsBy_107 : decode cX8_singsBy 107 = .ok (.aload_n 0, 1) := by decide +kernel
theorem dX8_singsBy_108 : decode cX8_singsBy 108 = .ok (.bipush 70, 2) := by decide +kernel
theorem dX8_singsBy_110 : decode cX8_singsBy 110 = .ok (.invokevirtual 292, 3) := by decide +kernel
theorem dX8_singsBy_113 : decode cX8_singsBy 113 = .ok (.aload_n 0, 1) := by decide +kernel
theorem dX8_singsBy_114 : decode cX8_singsBy 114 = .ok (.iload_n 1, 1) := by decide +kernel
theorem dX8_singsBy_115 : decode cX8_singsBy 115 = .ok (.iconst 3, 1) := by decide +kernel
theorem dX8_singsBy_116 : decode cX8_singsBy 116 = .ok (.iload_n 3, 1) := by decide +kernel
theorem dX8_singsBy_117 : decode cX8_singsBy 117 = .ok (.invokevirtual 295, 3) := by decide +kernel
theorem dX8_singsBy_120 : decode cX8_singsBy 120 = .ok (.iconst 2, 1) := by decide +kernel
theorem dX8_singsBy_121 : decode cX8_singsBy 121 = .ok (.imul, 1) := by decide +kernel
theorem dX8_singsBy_122 : decode cX8_singsBy 122 = .ok (.ireturn, 1) := by decide +kernel
theorem dX8_singsBy_123 : decode cX8_singsBy 123 = .ok (.aload_n 0, 1) := by decide +kernel
theorem dX8_singsBy_124 : decode cX8_singsBy 124 = .ok (.iload_n 1, 1) := by decide +kernel
theorem dX8_singsBy_125 : decode cX8_singsBy 125 = .ok (.iload_n 2, 1) := by decide +kernel
theorem dX8_singsBy_126 : decode cX8_singsBy 126 = .ok (.invokestatic 102, 3) := by decide +kernel
theorem dX8_singsBy_129 : decode cX8_singsBy 129 = .ok (.iload_n 3, 1) := by decide +kernel
theorem dX8_singsBy_130 : decode cX8_singsBy 130 = .ok (.invokevirtual 295, 3) := by decide +kernel
theorem dX8_singsBy_133 : decode cX8_singsBy 133 = .ok (.ireturn, 1) := by decide +kernel
def G8_singsBy (rec : Int32 → Int32 → Int32 → fkS → Option (Int32 × fkS)) (p1 : Int32) (p2 : Int32) (p3 : Int32) (st : fkS) : Option (Int32 × fkS) :=
 if p2 = (0 : Int32) then
 (fk_bind (F8_ran (10 : Int32) st) <| fun _ st2 =>
 some ((p3 + p1), st2))
 else
 (if p2 = (1 : Int32) then
 (fk_bind (F8_ran (20 : Int32) st) <| fun _ st4 =>
 fk_bind (rec p1 (0 : Int32) p3 st4) <| fun x5 st6 =>
 fk_chk (fk_in p1 7) <| fk_let (gA st6 2 p1.toNatClampNeg) <| fun x7 =>
 some ((x5 + x7), st6))
 else
 (if p2 = (2 : Int32) then
 (fk_bind (F8_above p2 st) <| fun x9 st10 =>
 fk_bind (rec p1 x9 p3 st10) <| fun x11 st12 =>
 some (x11, st12))
 else
 (if p2 = (3 : Int32) then
 (fk_bind (F8_ran (40 : Int32) st) <| fun _ st14 =>
 fk_bind (rec p1 (1 : Int32) (p3 + (1 : Int32)) st14) <| fun x15 st16 =>
 some (x15, st16))
 else
 (if p2 = (4 : Int32) then
 (fk_bind (F8_ran (51 : Int32) st) <| fun _ st18 =>
 fk_bind (rec p1 (0 : Int32) p3 st18) <| fun x19 st20 =>
 some ((x19 - p1), st20))
 else
 (if p2 = (5 : Int32) then
 (fk_bind (F8_above p2 st) <| fun x22 st23 =>
 fk_bind (rec p1 x22 p3 st23) <| fun x24 st25 =>
 some (x24, st25))
 else
 (if p2 = (6 : Int32) then
 (fk_bind (F8_ran (70 : Int32) st) <| fun _ st27 =>
 fk_bind (rec p1 (3 : Int32) p3 st27) <| fun x28 st29 =>
 some ((x28 * (2 : Int32)), st29))
 else
 (fk_bind (F8_above p2 st) <| fun x30 st31 =>
 fk_bind (rec p1 x30 p3 st31) <| fun x32 st33 =>
 some (x32, st33))))))))
set_option maxHeartbeats 1000000 in
set_option maxRecDepth 20000 in
theorem CG8_singsBy (rec : Int32 → Int32 → Int32 → fkS → Option (Int32 × fkS)) {g : fkG} {n : Nat} (hrec : ∀ (p1 : Int32) (p2 : Int32) (p3 : Int32) (st : fkS) (l : Launch) (o : Int32 × fkS), rec p1 p2 p3 st = some o → fk_C wM yX8_singsBy cX8_singsBy 4 (some .int) (n + 1) (n * 23 + 21) l g [fk_r g 0, .int p1, .int p2, .int p3] st (fk_eI o.1) o.2) (p1 : Int32) (p2 : Int32) (p3 : Int32) (st : fkS) (l : Launch) (o : Int32 × fkS) (hF : G8_singsBy rec p1 p2 p3 st = some o) : fk_C wM yX8_singsBy cX8_singsBy 4 (some (.int)) (n + 1 + 1) ((n + 1) * 23 + 21) l g [fk_r g 0, .int p1, .int p2, .int p3] st (fk_eI o.1) o.2 := by
  refine fk_begin rfl (Nat.le_of_ble_eq_true rfl) (fun k hk => ?_) o hF
  have hk : fk_ok wM g k RX8 cX8_singsBy 4 (some (.int)) (n + 1 + 1) ((n + 1) * 23 + 21) := hk
  show fk_J wM g fk_eI k 0 [(0, fk_r g 0), (1, .int p1), (2, .int p2), (3, .int p3)] [] st (G8_singsBy rec p1 p2 p3 st)
  unfold G8_singsBy
  refine j_iload_n (pc := 0) hk 2 rfl dX8_singsBy_0 ?_
  refine j_case (pc := 1) hk (fun n1 => ?_) (fun n1 => ?_)
  · refine j_tswIn (off := 43) (tgt := 44) (pc := 1) hk (by rw [n1]; decide) (by rw [n1]; decide) (by rw [n1]; decide) (by decide) dX8_singsBy_1 ?_
    refine j_aload_n (pc := 44) hk 0 rfl ⟨_, rfl⟩ dX8_singsBy_44 ?_
    refine j_bipush (pc := 45) hk dX8_singsBy_45 (v := 10) (by decide) ?_
    refine j_callVv (pc := 47) hk [.int (10 : Int32)] [] rfl (fun l o hq9 => C8_ran (10 : Int32) st l o hq9) (rcv_8 (rfl)) yv_X8_ran ml_8_292 rfl (Nat.le_of_ble_eq_true rfl) (by omega) (by omega) dX8_singsBy_47 (fun _ st2 => ?_)
    refine j_iload_n (pc := 50) hk 3 rfl dX8_singsBy_50 ?_
    refine j_iload_n (pc := 51) hk 1 rfl dX8_singsBy_51 ?_
    refine j_iadd (pc := 52) hk dX8_singsBy_52 ?_
    exact j_iret (pc := 53) hk dX8_singsBy_53
  · refine j_case (pc := 1) hk (fun n3 => ?_) (fun n3 => ?_)
    · refine j_tswIn (off := 53) (tgt := 54) (pc := 1) hk (by rw [n3]; decide) (by rw [n3]; decide) (by rw [n3]; decide) (by decide) dX8_singsBy_1 ?_
      refine j_aload_n (pc := 54) hk 0 rfl ⟨_, rfl⟩ dX8_singsBy_54 ?_
      refine j_bipush (pc := 55) hk dX8_singsBy_55 (v := 20) (by decide) ?_
      refine j_callVv (pc := 57) hk [.int (20 : Int32)] [] rfl (fun l o hq9 => C8_ran (20 : Int32) st l o hq9) (rcv_8 (rfl)) yv_X8_ran ml_8_292 rfl (Nat.le_of_ble_eq_true rfl) (by omega) (by omega) dX8_singsBy_57 (fun _ st4 => ?_)
      refine j_aload_n (pc := 60) hk 0 rfl ⟨_, rfl⟩ dX8_singsBy_60 ?_
      refine j_iload_n (pc := 61) hk 1 rfl dX8_singsBy_61 ?_
      refine j_iconst (pc := 62) hk dX8_singsBy_62 (v := 0) (by decide) ?_
      refine j_iload_n (pc := 63) hk 3 rfl dX8_singsBy_63 ?_
      refine j_callVi (pc := 64) hk [.int p1, .int (0 : Int32), .int p3] [] rfl (fun l o hq9 => hrec p1 (0 : Int32) p3 st4 l o hq9) (rcv_8 (rfl)) yv_X8_singsBy ml_8_295 rfl (Nat.le_of_ble_eq_true rfl) (by omega) (by omega) dX8_singsBy_64 (fun x5 st6 => ?_)
      refine j_aload_n (pc := 67) hk 0 rfl ⟨_, rfl⟩ dX8_singsBy_67 ?_
      refine f_8_13 (pc := 68) hk (rfl) dX8_singsBy_68 ?_
      refine j_iload_n (pc := 71) hk 1 rfl dX8_singsBy_71 ?_
      refine a_iload (pc := 72) hk (isI_8_2) dX8_singsBy_72 (fun x7 => ?_)
      refine j_iadd (pc := 73) hk dX8_singsBy_73 ?_
      exact j_iret (pc := 74) hk dX8_singsBy_74
    · refine j_case (pc := 1) hk (fun n8 => ?_) (fun n8 => ?_)
      · refine j_tswIn (off := 122) (tgt := 123) (pc := 1) hk (by rw [n8]; decide) (by rw [n8]; decide) (by rw [n8]; decide) (by decide) dX8_singsBy_1 ?_
        refine j_aload_n (pc := 123) hk 0 rfl ⟨_, rfl⟩ dX8_singsBy_123 ?_
        refine j_iload_n (pc := 124) hk 1 rfl dX8_singsBy_124 ?_
        refine j_iload_n (pc := 125) hk 2 rfl dX8_singsBy_125 ?_
        refine j_callSi (pc := 126) hk [.int p2] [.int p1, fk_r g 0] rfl (fun l o hq9 => C8_above p2 st l o hq9) yv_X8_above ml_8_102 rfl (Nat.le_of_ble_eq_true rfl) (by omega) (by omega) dX8_singsBy_126 (fun x9 st10 => ?_)
        refine j_iload_n (pc := 129) hk 3 rfl dX8_singsBy_129 ?_
        refine j_callVi (pc := 130) hk [.int p1, .int x9, .int p3] [] rfl (fun l o hq9 => hrec p1 x9 p3 st10 l o hq9) (rcv_8 (rfl)) yv_X8_singsBy ml_8_295 rfl (Nat.le_of_ble_eq_true rfl) (by omega) (by omega) dX8_singsBy_130 (fun x11 st12 => ?_)
        exact j_iret (pc := 133) hk dX8_singsBy_133
      · refine j_case (pc := 1) hk (fun n13 => ?_) (fun n13 => ?_)
        · refine j_tswIn (off := 74) (tgt := 75) (pc := 1) hk (by rw [n13]; decide) (by rw [n13]; decide) (by rw [n13]; decide) (by decide) dX8_singsBy_1 ?_
          refine j_aload_n (pc := 75) hk 0 rfl ⟨_, rfl⟩ dX8_singsBy_75 ?_
          refine j_bipush (pc := 76) hk dX8_singsBy_76 (v := 40) (by decide) ?_
          refine j_callVv (pc := 78) hk [.int (40 : Int32)] [] rfl (fun l o hq9 => C8_ran (40 : Int32) st l o hq9) (rcv_8 (rfl)) yv_X8_ran ml_8_292 rfl (Nat.le_of_ble_eq_true rfl) (by omega) (by omega) dX8_singsBy_78 (fun _ st14 => ?_)
          refine j_aload_n (pc := 81) hk 0 rfl ⟨_, rfl⟩ dX8_singsBy_81 ?_
          refine j_iload_n (pc := 82) hk 1 rfl dX8_singsBy_82 ?_
          refine j_iconst (pc := 83) hk dX8_singsBy_83 (v := 1) (by decide) ?_
          refine j_iload_n (pc := 84) hk 3 rfl dX8_singsBy_84 ?_
          refine j_iconst (pc := 85) hk dX8_singsBy_85 (v := 1) (by decide) ?_
          refine j_iadd (pc := 86) hk dX8_singsBy_86 ?_
          refine j_callVi (pc := 87) hk [.int p1, .int (1 : Int32), .int (p3 + (1 : Int32))] [] rfl (fun l o hq9 => hrec p1 (1 : Int32) (p3 + (1 : Int32)) st14 l o hq9) (rcv_8 (rfl)) yv_X8_singsBy ml_8_295 rfl (Nat.le_of_ble_eq_true rfl) (by omega) (by omega) dX8_singsBy_87 (fun x15 st16 => ?_)
          exact j_iret (pc := 90) hk dX8_singsBy_90
        · refine j_case (pc := 1) hk (fun n17 => ?_) (fun n17 => ?_)
          · refine j_tswIn (off := 90) (tgt := 91) (pc := 1) hk (by rw [n17]; decide) (by rw [n17]; decide) (by rw [n17]; decide) (by decide) dX8_singsBy_1 ?_
            refine j_aload_n (pc := 91) hk 0 rfl ⟨_, rfl⟩ dX8_singsBy_91 ?_
            refine j_bipush (pc := 92) hk dX8_singsBy_92 (v := 51) (by decide) ?_
            refine j_callVv (pc := 94) hk [.int (51 : Int32)] [] rfl (fun l o hq9 => C8_ran (51 : Int32) st l o hq9) (rcv_8 (rfl)) yv_X8_ran ml_8_292 rfl (Nat.le_of_ble_eq_true rfl) (by omega) (by omega) dX8_singsBy_94 (fun _ st18 => ?_)
            refine j_aload_n (pc := 97) hk 0 rfl ⟨_, rfl⟩ dX8_singsBy_97 ?_
            refine j_iload_n (pc := 98) hk 1 rfl dX8_singsBy_98 ?_
            refine j_iconst (pc := 99) hk dX8_singsBy_99 (v := 0) (by decide) ?_
            refine j_iload_n (pc := 100) hk 3 rfl dX8_singsBy_100 ?_
            refine j_callVi (pc := 101) hk [.int p1, .int (0 : Int32), .int p3] [] rfl (fun l o hq9 => hrec p1 (0 : Int32) p3 st18 l o hq9) (rcv_8 (rfl)) yv_X8_singsBy ml_8_295 rfl (Nat.le_of_ble_eq_true rfl) (by omega) (by omega) dX8_singsBy_101 (fun x19 st20 => ?_)
            refine j_iload_n (pc := 104) hk 1 rfl dX8_singsBy_104 ?_
            refine j_isub (pc := 105) hk dX8_singsBy_105 ?_
            exact j_iret (pc := 106) hk dX8_singsBy_106
          · refine j_case (pc := 1) hk (fun n21 => ?_) (fun n21 => ?_)
            · refine j_tswIn (off := 122) (tgt := 123) (pc := 1) hk (by rw [n21]; decide) (by rw [n21]; decide) (by rw [n21]; decide) (by decide) dX8_singsBy_1 ?_
              refine j_aload_n (pc := 123) hk 0 rfl ⟨_, rfl⟩ dX8_singsBy_123 ?_
              refine j_iload_n (pc := 124) hk 1 rfl dX8_singsBy_124 ?_
              refine j_iload_n (pc := 125) hk 2 rfl dX8_singsBy_125 ?_
              refine j_callSi (pc := 126) hk [.int p2] [.int p1, fk_r g 0] rfl (fun l o hq9 => C8_above p2 st l o hq9) yv_X8_above ml_8_102 rfl (Nat.le_of_ble_eq_true rfl) (by omega) (by omega) dX8_singsBy_126 (fun x22 st23 => ?_)
              refine j_iload_n (pc := 129) hk 3 rfl dX8_singsBy_129 ?_
              refine j_callVi (pc := 130) hk [.int p1, .int x22, .int p3] [] rfl (fun l o hq9 => hrec p1 x22 p3 st23 l o hq9) (rcv_8 (rfl)) yv_X8_singsBy ml_8_295 rfl (Nat.le_of_ble_eq_true rfl) (by omega) (by omega) dX8_singsBy_130 (fun x24 st25 => ?_)
              exact j_iret (pc := 133) hk dX8_singsBy_133
            · refine j_case (pc := 1) hk (fun n26 => ?_) (fun n26 => ?_)
              · refine j_tswIn (off := 106) (tgt := 107) (pc := 1) hk (by rw [n26]; decide) (by rw [n26]; decide) (by rw [n26]; decide) (by decide) dX8_singsBy_1 ?_
                refine j_aload_n (pc := 107) hk 0 rfl ⟨_, rfl⟩ dX8_singsBy_107 ?_
                refine j_bipush (pc := 108) hk dX8_singsBy_108 (v := 70) (by decide) ?_
                refine j_callVv (pc := 110) hk [.int (70 : Int32)] [] rfl (fun l o hq9 => C8_ran (70 : Int32) st l o hq9) (rcv_8 (rfl)) yv_X8_ran ml_8_292 rfl (Nat.le_of_ble_eq_true rfl) (by omega) (by omega) dX8_singsBy_110 (fun _ st27 => ?_)
                refine j_aload_n (pc := 113) hk 0 rfl ⟨_, rfl⟩ dX8_singsBy_113 ?_
                refine j_iload_n (pc := 114) hk 1 rfl dX8_singsBy_114 ?_
                refine j_iconst (pc := 115) hk dX8_singsBy_115 (v := 3) (by decide) ?_
                refine j_iload_n (pc := 116) hk 3 rfl dX8_singsBy_116 ?_
                refine j_callVi (pc := 117) hk [.int p1, .int (3 : Int32), .int p3] [] rfl (fun l o hq9 => hrec p1 (3 : Int32) p3 st27 l o hq9) (rcv_8 (rfl)) yv_X8_singsBy ml_8_295 rfl (Nat.le_of_ble_eq_true rfl) (by omega) (by omega) dX8_singsBy_117 (fun x28 st29 => ?_)
                refine j_iconst (pc := 120) hk dX8_singsBy_120 (v := 2) (by decide) ?_
                refine j_imul (pc := 121) hk dX8_singsBy_121 ?_
                exact j_iret (pc := 122) hk dX8_singsBy_122
              · have mn1 := lv_neT (a := 0) n1 (by decide)
                have mn3 := lv_neT (a := 1) n3 (by decide)
                have mn8 := lv_neT (a := 2) n8 (by decide)
                have mn13 := lv_neT (a := 3) n13 (by decide)
                have mn17 := lv_neT (a := 4) n17 (by decide)
                have mn21 := lv_neT (a := 5) n21 (by decide)
                have mn26 := lv_neT (a := 6) n26 (by decide)
                refine j_tswOut (tgt := 123) (pc := 1) hk (by omega) (by decide) dX8_singsBy_1 ?_
                refine j_aload_n (pc := 123) hk 0 rfl ⟨_, rfl⟩ dX8_singsBy_123 ?_
                refine j_iload_n (pc := 124) hk 1 rfl dX8_singsBy_124 ?_
                refine j_iload_n (pc := 125) hk 2 rfl dX8_singsBy_125 ?_
                refine j_callSi (pc := 126) hk [.int p2] [.int p1, fk_r g 0] rfl (fun l o hq9 => C8_above p2 st l o hq9) yv_X8_above ml_8_102 rfl (Nat.le_of_ble_eq_true rfl) (by omega) (by omega) dX8_singsBy_126 (fun x30 st31 => ?_)
                refine j_iload_n (pc := 129) hk 3 rfl dX8_singsBy_129 ?_
                refine j_callVi (pc := 130) hk [.int p1, .int x30, .int p3] [] rfl (fun l o hq9 => hrec p1 x30 p3 st31 l o hq9) (rcv_8 (rfl)) yv_X8_singsBy ml_8_295 rfl (Nat.le_of_ble_eq_true rfl) (by omega) (by omega) dX8_singsBy_130 (fun x32 st33 => ?_)
                exact j_iret (pc := 133) hk dX8_singsBy_133
def F8_singsBy (p1 : Int32) (p2 : Int32) (p3 : Int32) (st : fkS) : Option (Int32 × fkS) := fk_lp3 G8_singsBy 12 p1 p2 p3 st
theorem CN8_singsBy {g : fkG} (n : Nat) : ∀ (p1 : Int32) (p2 : Int32) (p3 : Int32) (st : fkS) (l : Launch) (o : Int32 × fkS), fk_lp3 G8_singsBy n p1 p2 p3 st = some o → fk_C wM yX8_singsBy cX8_singsBy 4 (some (.int)) (n + 1) (n * 23 + 21) l g [fk_r g 0, .int p1, .int p2, .int p3] st (fk_eI o.1) o.2 := by
  induction n with
  | zero =>
    intro p1 p2 p3 st l o h
    exact absurd h (by simp [fk_lp3])
  | succ n ih =>
    intro p1 p2 p3 st l o h
    exact CG8_singsBy (fk_lp3 G8_singsBy n) ih p1 p2 p3 st l o h
theorem C8_singsBy (p1 : Int32) (p2 : Int32) (p3 : Int32) (st : fkS) {g : fkG} (l : Launch) (o : Int32 × fkS) (h : F8_singsBy p1 p2 p3 st = some o) : fk_C wM yX8_singsBy cX8_singsBy 4 (some (.int)) 13 297 l g [fk_r g 0, .int p1, .int p2, .int p3] st (fk_eI o.1) o.2 := CN8_singsBy 12 p1 p2 p3 st l o h
theorem dX8_steamsBy_0 : decode cX8_steamsBy 0 = .ok (.iload_n 2, 1) := by decide +kernel
theorem dX8_steamsBy_1 : decode cX8_steamsBy 1 = .ok (.lookupswitch 93 #[(0, 35), (2, 56), (6, 72)], 35) := by decide +kernel
theorem dX8_steamsBy_36 : decode cX8_steamsBy 36 = .ok (.aload_n 0, 1) := by decide +kernel
theorem dX8_steamsBy_37 : decode cX8_steamsBy 37 = .ok (.bipush 11, 2) := by decide +kernel
theorem dX8_steamsBy_39 : decode cX8_steamsBy 39 = .ok (.invokevirtual 292, 3) := by decide +kernel
theorem dX8_steamsBy_42 : decode cX8_steamsBy 42 = .ok (.aload_n 0, 1) := by decide +kernel
theorem dX8_steamsBy_43 : decode cX8_steamsBy 43 = .ok (.iload_n 1, 1) := by decide +kernel
theorem dX8_steamsBy_44 : decode cX8_steamsBy 44 = .ok (.aload_n 0, 1) := by decide +kernel
theorem dX8_steamsBy_45 : decode cX8_steamsBy 45 = .ok (.getfield 7, 3) := by decide +kernel
theorem dX8_steamsBy_48 : decode cX8_steamsBy 48 = .ok (.iload_n 1, 1) := by decide +kernel
theorem dX8_steamsBy_49 : decode cX8_steamsBy 49 = .ok (.iaload, 1) := by decide +kernel
theorem dX8_steamsBy_50 : decode cX8_steamsBy 50 = .ok (.iload_n 3, 1) := by decide +kernel
theorem dX8_steamsBy_51 : decode cX8_steamsBy 51 = .ok (.invokevirtual 295, 3) := by decide +kernel
theorem dX8_steamsBy_54 : decode cX8_steamsBy 54 = .ok (.iconst 2, 1) := by decide +kernel
theorem dX8_steamsBy_55 : decode cX8_steamsBy 55 = .ok (.imul, 1) := by decide +kernel
theorem dX8_steamsBy_56 : decode cX8_steamsBy 56 = .ok (.ireturn, 1) := by decide +kernel
theorem dX8_steamsBy_57 : decode cX8_steamsBy 57 = .ok (.aload_n 0, 1) := by decide +kernel
theorem dX8_steamsBy_58 : decode cX8_steamsBy 58 = .ok (.bipush 30, 2) := by decide +kernel
theorem dX8_steamsBy_60 : decode cX8_steamsBy 60 = .ok (.invokevirtual 292, 3) := by decide +kernel
theorem dX8_steamsBy_63 : decode cX8_steamsBy 63 = .ok (.aload_n 0, 1) := by decide +kernel
theorem dX8_steamsBy_64 : decode cX8_steamsBy 64 = .ok (.iload_n 1, 1) := by decide +kernel
theorem dX8_steamsBy_65 : decode cX8_steamsBy 65 = .ok (.iconst 0, 1) := by decide +kernel
theorem dX8_steamsBy_66 : decode cX8_steamsBy 66 = .ok (.iload_n 3, 1) := by decide +kernel
theorem dX8_steamsBy_67 : decode cX8_steamsBy 67 = .ok (.invokevirtual 298, 3) := by decide +kernel
theorem dX8_steamsBy_70 : decode cX8_steamsBy 70 = .ok (.iconst 3, 1) := by decide +kernel
theorem dX8_steamsBy_71 : decode cX8_steamsBy 71 = .ok (.imul, 1) := by decide +kernel
theorem dX8_steamsBy_72 : decode cX8_steamsBy 72 = .ok (.ireturn, 1) := by decide +kernel
theorem dX8_steamsBy_73 : decode cX8_steamsBy 73 = .ok (.aload_n 0, 1) := by decide +kernel
theorem dX8_steamsBy_74 : decode cX8_steamsBy 74 = .ok (.bipush 71, 2) := by decide +kernel
theorem dX8_steamsBy_76 : decode cX8_steamsBy 76 = .ok (.invokevirtual 292, 3) := by decide +kernel
theorem dX8_steamsBy_79 : decode cX8_steamsBy 79 = .ok (.aload_n 0, 1) := by decide +kernel
theorem dX8_steamsBy_80 : decode cX8_steamsBy 80 = .ok (.iload_n 1, 1) := by decide +kernel
theorem dX8_steamsBy_81 : decode cX8_steamsBy 81 = .ok (.iconst 3, 1) := by decide +kernel
theorem dX8_steamsBy_82 : decode cX8_steamsBy 82 = .ok (.iload_n 3, 1) := by decide +kernel
theorem dX8_steamsBy_83 : decode cX8_steamsBy 83 = .ok (.aload_n 0, 1) := by decide +kernel
theorem dX8_steamsBy_84 : decode cX8_steamsBy 84 = .ok (.getfield 13, 3) := by decide +kernel
theorem dX8_steamsBy_87 : decode cX8_steamsBy 87 = .ok (.iload_n 1, 1) := by decide +kernel
theorem dX8_steamsBy_88 : decode cX8_steamsBy 88 = .ok (.iaload, 1) := by decide +kernel
theorem dX8_steamsBy_89 : decode cX8_steamsBy 89 = .ok (.isub, 1) := by decide +kernel
theorem dX8_steamsBy_90 : decode cX8_steamsBy 90 = .ok (.invokevirtual 298, 3) := by decide +kernel
theorem dX8_steamsBy_93 : decode cX8_steamsBy 93 = .ok (.ireturn, 1) := by decide +kernel
theorem dX8_steamsBy_94 : decode cX8_steamsBy 94 = .ok (.aload_n 0, 1) := by decide +kernel
theorem dX8_steamsBy_95 : decode cX8_steamsBy 95 = .ok (.iload_n 1, 1) := by decide +kernel
theorem dX8_steamsBy_96 : decode cX8_steamsBy 96 = .ok (.iload_n 2, 1) := by decide +kernel
theorem dX8_steamsBy_97 : decode cX8_steamsBy 97 = .ok (.invokestatic 102, 3) := by decide +kernel
theorem dX8_steamsBy_100 : decode cX8_steamsBy 100 = .ok (.iload_n 3, 1) := by decide +kernel
theorem dX8_steamsBy_101 : decode cX8_steamsBy 101 = .ok (.invokevirtual 298, 3) := by decide +kernel
theorem dX8_steamsBy_104 : decode cX8_steamsBy 104 = .ok (.ireturn, 1) := by decide +kernel
def G8_steamsBy (rec : Int32 → Int32 → Int32 → fkS → Option (Int32 × fkS)) (p1 : Int32) (p2 : Int32) (p3 : Int32) (st : fkS) : Option (Int32 × fkS) :=
 if p2 = (0 : Int32) then
 (fk_bind (F8_ran (11 : Int32) st) <| fun _ st2 =>
 fk_chk (fk_in p1 7) <| fk_let (gA st2 1 p1.toNatClampNeg) <| fun x3 =>
 fk_bind (F8_singsBy p1 x3 p3 st2) <| fun x4 st5 =>
 some ((x4 * (2 : Int32)), st5))
 else
 (if p2 = (2 : Int32) then
 (fk_bind (F8_ran (30 : Int32) st) <| fun _ st7 =>
 fk_bind (rec p1 (0 : Int32) p3 st7) <| fun x8 st9 =>
 some ((x8 * (3 : Int32)), st9))
 else
 (if p2 = (6 : Int32) then
 (fk_bind (F8_ran (71 : Int32) st) <| fun _ st11 =>
 fk_chk (fk_in p1 7) <| fk_let (gA st11 2 p1.toNatClampNeg) <| fun x12 =>
 fk_bind (rec p1 (3 : Int32) (p3 - x12) st11) <| fun x13 st14 =>
 some (x13, st14))
 else
 (fk_bind (F8_above p2 st) <| fun x15 st16 =>
 fk_bind (rec p1 x15 p3 st16) <| fun x17 st18 =>
 some (x17, st18))))
set_option maxHeartbeats 1000000 in
set_option maxRecDepth 20000 in
theorem CG8_steamsBy (rec : Int32 → Int32 → Int32 → fkS → Option (Int32 × fkS)) {g : fkG} {n : Nat} (hrec : ∀ (p1 : Int32) (p2 : Int32) (p3 : Int32) (st : fkS) (l : Launch) (o : Int32 × fkS), rec p1 p2 p3 st = some o → fk_C wM yX8_steamsBy cX8_steamsBy 4 (some .int) (n + 14) (n * 23 + 320) l g [fk_r g 0, .int p1, .int p2, .int p3] st (fk_eI o.1) o.2) (p1 : Int32) (p2 : Int32) (p3 : Int32) (st : fkS) (l : Launch) (o : Int32 × fkS) (hF : G8_steamsBy rec p1 p2 p3 st = some o) : fk_C wM yX8_steamsBy cX8_steamsBy 4 (some (.int)) (n + 1 + 14) ((n + 1) * 23 + 320) l g [fk_r g 0, .int p1, .int p2, .int p3] st (fk_eI o.1) o.2 := by
  refine fk_begin rfl (Nat.le_of_ble_eq_true rfl) (fun k hk => ?_) o hF
  have hk : fk_ok wM g k RX8 cX8_steamsBy 4 (some (.int)) (n + 1 + 14) ((n + 1) * 23 + 320) := hk
  show fk_J wM g fk_eI k 0 [(0, fk_r g 0), (1, .int p1), (2, .int p2), (3, .int p3)] [] st (G8_steamsBy rec p1 p2 p3 st)
  unfold G8_steamsBy
  refine j_iload_n (pc := 0) hk 2 rfl dX8_steamsBy_0 ?_
  refine j_case (pc := 1) hk (fun n1 => ?_) (fun n1 => ?_)
  · refine j_lsw (off := 35) (tgt := 36) (pc := 1) hk (by decide) (by rw [n1]; decide) (by decide) dX8_steamsBy_1 ?_
    refine j_aload_n (pc := 36) hk 0 rfl ⟨_, rfl⟩ dX8_steamsBy_36 ?_
    refine j_bipush (pc := 37) hk dX8_steamsBy_37 (v := 11) (by decide) ?_
    refine j_callVv (pc := 39) hk [.int (11 : Int32)] [] rfl (fun l o hq9 => C8_ran (11 : Int32) st l o hq9) (rcv_8 (rfl)) yv_X8_ran ml_8_292 rfl (Nat.le_of_ble_eq_true rfl) (by omega) (by omega) dX8_steamsBy_39 (fun _ st2 => ?_)
    refine j_aload_n (pc := 42) hk 0 rfl ⟨_, rfl⟩ dX8_steamsBy_42 ?_
    refine j_iload_n (pc := 43) hk 1 rfl dX8_steamsBy_43 ?_
    refine j_aload_n (pc := 44) hk 0 rfl ⟨_, rfl⟩ dX8_steamsBy_44 ?_
    refine f_8_7 (pc := 45) hk (rfl) dX8_steamsBy_45 ?_
    refine j_iload_n (pc := 48) hk 1 rfl dX8_steamsBy_48 ?_
    refine a_iload (pc := 49) hk (isI_8_1) dX8_steamsBy_49 (fun x3 => ?_)
    refine j_iload_n (pc := 50) hk 3 rfl dX8_steamsBy_50 ?_
    refine j_callVi (pc := 51) hk [.int p1, .int x3, .int p3] [] rfl (fun l o hq9 => C8_singsBy p1 x3 p3 st2 l o hq9) (rcv_8 (rfl)) yv_X8_singsBy ml_8_295 rfl (Nat.le_of_ble_eq_true rfl) (by omega) (by omega) dX8_steamsBy_51 (fun x4 st5 => ?_)
    refine j_iconst (pc := 54) hk dX8_steamsBy_54 (v := 2) (by decide) ?_
    refine j_imul (pc := 55) hk dX8_steamsBy_55 ?_
    exact j_iret (pc := 56) hk dX8_steamsBy_56
  · refine j_case (pc := 1) hk (fun n6 => ?_) (fun n6 => ?_)
    · refine j_lsw (off := 56) (tgt := 57) (pc := 1) hk (by decide) (by rw [n6]; decide) (by decide) dX8_steamsBy_1 ?_
      refine j_aload_n (pc := 57) hk 0 rfl ⟨_, rfl⟩ dX8_steamsBy_57 ?_
      refine j_bipush (pc := 58) hk dX8_steamsBy_58 (v := 30) (by decide) ?_
      refine j_callVv (pc := 60) hk [.int (30 : Int32)] [] rfl (fun l o hq9 => C8_ran (30 : Int32) st l o hq9) (rcv_8 (rfl)) yv_X8_ran ml_8_292 rfl (Nat.le_of_ble_eq_true rfl) (by omega) (by omega) dX8_steamsBy_60 (fun _ st7 => ?_)
      refine j_aload_n (pc := 63) hk 0 rfl ⟨_, rfl⟩ dX8_steamsBy_63 ?_
      refine j_iload_n (pc := 64) hk 1 rfl dX8_steamsBy_64 ?_
      refine j_iconst (pc := 65) hk dX8_steamsBy_65 (v := 0) (by decide) ?_
      refine j_iload_n (pc := 66) hk 3 rfl dX8_steamsBy_66 ?_
      refine j_callVi (pc := 67) hk [.int p1, .int (0 : Int32), .int p3] [] rfl (fun l o hq9 => hrec p1 (0 : Int32) p3 st7 l o hq9) (rcv_8 (rfl)) yv_X8_steamsBy ml_8_298 rfl (Nat.le_of_ble_eq_true rfl) (by omega) (by omega) dX8_steamsBy_67 (fun x8 st9 => ?_)
      refine j_iconst (pc := 70) hk dX8_steamsBy_70 (v := 3) (by decide) ?_
      refine j_imul (pc := 71) hk dX8_steamsBy_71 ?_
      exact j_iret (pc := 72) hk dX8_steamsBy_72
    · refine j_case (pc := 1) hk (fun n10 => ?_) (fun n10 => ?_)
      · refine j_lsw (off := 72) (tgt := 73) (pc := 1) hk (by decide) (by rw [n10]; decide) (by decide) dX8_steamsBy_1 ?_
        refine j_aload_n (pc := 73) hk 0 rfl ⟨_, rfl⟩ dX8_steamsBy_73 ?_
        refine j_bipush (pc := 74) hk dX8_steamsBy_74 (v := 71) (by decide) ?_
        refine j_callVv (pc := 76) hk [.int (71 : Int32)] [] rfl (fun l o hq9 => C8_ran (71 : Int32) st l o hq9) (rcv_8 (rfl)) yv_X8_ran ml_8_292 rfl (Nat.le_of_ble_eq_true rfl) (by omega) (by omega) dX8_steamsBy_76 (fun _ st11 => ?_)
        refine j_aload_n (pc := 79) hk 0 rfl ⟨_, rfl⟩ dX8_steamsBy_79 ?_
        refine j_iload_n (pc := 80) hk 1 rfl dX8_steamsBy_80 ?_
        refine j_iconst (pc := 81) hk dX8_steamsBy_81 (v := 3) (by decide) ?_
        refine j_iload_n (pc := 82) hk 3 rfl dX8_steamsBy_82 ?_
        refine j_aload_n (pc := 83) hk 0 rfl ⟨_, rfl⟩ dX8_steamsBy_83 ?_
        refine f_8_13 (pc := 84) hk (rfl) dX8_steamsBy_84 ?_
        refine j_iload_n (pc := 87) hk 1 rfl dX8_steamsBy_87 ?_
        refine a_iload (pc := 88) hk (isI_8_2) dX8_steamsBy_88 (fun x12 => ?_)
        refine j_isub (pc := 89) hk dX8_steamsBy_89 ?_
        refine j_callVi (pc := 90) hk [.int p1, .int (3 : Int32), .int (p3 - x12)] [] rfl (fun l o hq9 => hrec p1 (3 : Int32) (p3 - x12) st11 l o hq9) (rcv_8 (rfl)) yv_X8_steamsBy ml_8_298 rfl (Nat.le_of_ble_eq_true rfl) (by omega) (by omega) dX8_steamsBy_90 (fun x13 st14 => ?_)
        exact j_iret (pc := 93) hk dX8_steamsBy_93
      · have mn1 := lv_neT (a := 0) n1 (by decide)
        have mn6 := lv_neT (a := 2) n6 (by decide)
        have mn10 := lv_neT (a := 6) n10 (by decide)
        refine j_lsw (off := 93) (tgt := 94) (pc := 1) hk (by decide) (fk_lsw (by intro q hq; simp only [List.mem_cons, List.not_mem_nil, or_false] at hq; rcases hq with rfl | rfl | rfl <;> simpa using by assumption)) (by decide) dX8_steamsBy_1 ?_
        refine j_aload_n (pc := 94) hk 0 rfl ⟨_, rfl⟩ dX8_steamsBy_94 ?_
        refine j_iload_n (pc := 95) hk 1 rfl dX8_steamsBy_95 ?_
        refine j_iload_n (pc := 96) hk 2 rfl dX8_steamsBy_96 ?_
        refine j_callSi (pc := 97) hk [.int p2] [.int p1, fk_r g 0] rfl (fun l o hq9 => C8_above p2 st l o hq9) yv_X8_above ml_8_102 rfl (Nat.le_of_ble_eq_true rfl) (by omega) (by omega) dX8_steamsBy_97 (fun x15 st16 => ?_)
        refine j_iload_n (pc := 100) hk 3 rfl dX8_steamsBy_100 ?_
        refine j_callVi (pc := 101) hk [.int p1, .int x15, .int p3] [] rfl (fun l o hq9 => hrec p1 x15 p3 st16 l o hq9) (rcv_8 (rfl)) yv_X8_steamsBy ml_8_298 rfl (Nat.le_of_ble_eq_true rfl) (by omega) (by omega) dX8_steamsBy_101 (fun x17 st18 => ?_)
        exact j_iret (pc := 104) hk dX8_steamsBy_104
def F8_steamsBy (p1 : Int32) (p2 : Int32) (p3 : Int32) (st : fkS) : Option (Int32 × fkS) := fk_lp3 G8_steamsBy 12 p1 p2 p3 st
theorem CN8_steamsBy {g : fkG} (n : Nat) : ∀ (p1 : Int32) (p2 : Int32) (p3 : Int32) (st : fkS) (l : Launch) (o : Int32 × fkS), fk_lp3 G8_steamsBy n p1 p2 p3 st = some o → fk_C wM yX8_steamsBy cX8_steamsBy 4 (some (.int)) (n + 14) (n * 23 + 320) l g [fk_r g 0, .int p1, .int p2, .int p3] st (fk_eI o.1) o.2 := by
  induction n with
  | zero =>
    intro p1 p2 p3 st l o h
    exact absurd h (by simp [fk_lp3])
  | succ n ih =>
    intro p1 p2 p3 st l o h
    exact CG8_steamsBy (fk_lp3 G8_steamsBy n) ih p1 p2 p3 st l o h
theorem C8_steamsBy (p1 : Int32) (p2 : Int32) (p3 : Int32) (st : fkS) {g : fkG} (l : Launch) (o : Int32 × fkS) (h : F8_steamsBy p1 p2 p3 st = some o) : fk_C wM yX8_steamsBy cX8_steamsBy 4 (some (.int)) 26 596 l g [fk_r g 0, .int p1, .int p2, .int p3] st (fk_eI o.1) o.2 := CN8_steamsBy 12 p1 p2 p3 st l o h
theorem dX8_fallsBy_0 : decode cX8_fallsBy 0 = .ok (.iload_n 2, 1) := by decide +kernel
theorem dX8_fallsBy_1 : decode cX8_fallsBy 1 = .ok (.lookupswitch 109 #[(0, 35), (4, 78), (5, 93)], 35) := by decide +kernel
theorem dX8_fallsBy_36 : decode cX8_fallsBy 36 = .ok (.aload_n 0, 1) := by decide +kernel
theorem dX8_fallsBy_37 : decode cX8_fallsBy 37 = .ok (.bipush 12, 2) := by decide +kernel
theorem dX8_fallsBy_39 : decode cX8_fallsBy 39 = .ok (.invokevirtual 292, 3) := by decide +kernel
theorem dX8_fallsBy_42 : decode cX8_fallsBy 42 = .ok (.aload_n 0, 1) := by decide +kernel
theorem dX8_fallsBy_43 : decode cX8_fallsBy 43 = .ok (.iload_n 1, 1) := by decide +kernel
theorem dX8_fallsBy_44 : decode cX8_fallsBy 44 = .ok (.aload_n 0, 1) := by decide +kernel
theorem dX8_fallsBy_45 : decode cX8_fallsBy 45 = .ok (.getfield 7, 3) := by decide +kernel
theorem dX8_fallsBy_48 : decode cX8_fallsBy 48 = .ok (.iload_n 1, 1) := by decide +kernel
theorem dX8_fallsBy_49 : decode cX8_fallsBy 49 = .ok (.iaload, 1) := by decide +kernel
theorem dX8_fallsBy_50 : decode cX8_fallsBy 50 = .ok (.iload_n 3, 1) := by decide +kernel
theorem dX8_fallsBy_51 : decode cX8_fallsBy 51 = .ok (.invokevirtual 298, 3) := by decide +kernel
theorem dX8_fallsBy_54 : decode cX8_fallsBy 54 = .ok (.istore 4, 2) := by decide +kernel
theorem dX8_fallsBy_56 : decode cX8_fallsBy 56 = .ok (.iload 4, 2) := by decide +kernel
theorem dX8_fallsBy_58 : decode cX8_fallsBy 58 = .ok (.aload_n 0, 1) := by decide +kernel
theorem dX8_fallsBy_59 : decode cX8_fallsBy 59 = .ok (.iload_n 1, 1) := by decide +kernel
theorem dX8_fallsBy_60 : decode cX8_fallsBy 60 = .ok (.aload_n 0, 1) := by decide +kernel
theorem dX8_fallsBy_61 : decode cX8_fallsBy 61 = .ok (.getfield 7, 3) := by decide +kernel
theorem dX8_fallsBy_64 : decode cX8_fallsBy 64 = .ok (.iload_n 1, 1) := by decide +kernel
theorem dX8_fallsBy_65 : decode cX8_fallsBy 65 = .ok (.iaload, 1) := by decide +kernel
theorem dX8_fallsBy_66 : decode cX8_fallsBy 66 = .ok (.iload_n 3, 1) := by decide +kernel
theorem dX8_fallsBy_67 : decode cX8_fallsBy 67 = .ok (.aload_n 0, 1) := by decide +kernel
theorem dX8_fallsBy_68 : decode cX8_fallsBy 68 = .ok (.getfield 13, 3) := by decide +kernel
theorem dX8_fallsBy_71 : decode cX8_fallsBy 71 = .ok (.iload_n 1, 1) := by decide +kernel
theorem dX8_fallsBy_72 : decode cX8_fallsBy 72 = .ok (.iaload, 1) := by decide +kernel
theorem dX8_fallsBy_73 : decode cX8_fallsBy 73 = .ok (.isub, 1) := by decide +kernel
theorem dX8_fallsBy_74 : decode cX8_fallsBy 74 = .ok (.invokevirtual 295, 3) := by decide +kernel
theorem dX8_fallsBy_77 : decode cX8_fallsBy 77 = .ok (.ixor, 1) := by decide +kernel
theorem dX8_fallsBy_78 : decode cX8_fallsBy 78 = .ok (.ireturn, 1) := by decide +kernel
theorem dX8_fallsBy_79 : decode cX8_fallsBy 79 = .ok (.aload_n 0, 1) := by decide +kernel
theorem dX8_fallsBy_80 : decode cX8_fallsBy 80 = .ok (.bipush 50, 2) := by decide +kernel
theorem dX8_fallsBy_82 : decode cX8_fallsBy 82 = .ok (.invokevirtual 292, 3) := by decide +kernel
theorem dX8_fallsBy_85 : decode cX8_fallsBy 85 = .ok (.aload_n 0, 1) := by decide +kernel
theorem dX8_fallsBy_86 : decode cX8_fallsBy 86 = .ok (.iload_n 1, 1) := by decide +kernel
theorem dX8_fallsBy_87 : decode cX8_fallsBy 87 = .ok (.iconst 0, 1) := by decide +kernel
theorem dX8_fallsBy_88 : decode cX8_fallsBy 88 = .ok (.iload_n 3, 1) := by decide +kernel
theorem dX8_fallsBy_89 : decode cX8_fallsBy 89 = .ok (.invokevirtual 301, 3) := by decide +kernel
theorem dX8_fallsBy_92 : decode cX8_fallsBy 92 = .ok (.ineg, 1) := by decide +kernel
theorem dX8_fallsBy_93 : decode cX8_fallsBy 93 = .ok (.ireturn, 1) := by decide +kernel
theorem dX8_fallsBy_94 : decode cX8_fallsBy 94 = .ok (.aload_n 0, 1) := by decide +kernel
theorem dX8_fallsBy_95 : decode cX8_fallsBy 95 = .ok (.bipush 60, 2) := by decide +kernel
theorem dX8_fallsBy_97 : decode cX8_fallsBy 97 = .ok (.invokevirtual 292, 3) := by decide +kernel
theorem dX8_fallsBy_100 : decode cX8_fallsBy 100 = .ok (.aload_n 0, 1) := by decide +kernel
theorem dX8_fallsBy_101 : decode cX8_fallsBy 101 = .ok (.iload_n 1, 1) := by decide +kernel
theorem dX8_fallsBy_102 : decode cX8_fallsBy 102 = .ok (.iconst 2, 1) := by decide +kernel
theorem dX8_fallsBy_103 : decode cX8_fallsBy 103 = .ok (.iload_n 3, 1) := by decide +kernel
theorem dX8_fallsBy_104 : decode cX8_fallsBy 104 = .ok (.invokevirtual 301, 3) := by decide +kernel
theorem dX8_fallsBy_107 : decode cX8_fallsBy 107 = .ok (.iconst 5, 1) := by decide +kernel
theorem dX8_fallsBy_108 : decode cX8_fallsBy 108 = .ok (.ixor, 1) := by decide +kernel
theorem dX8_fallsBy_109 : decode cX8_fallsBy 109 = .ok (.ireturn, 1) := by decide +kernel
theorem dX8_fallsBy_110 : decode cX8_fallsBy 110 = .ok (.aload_n 0, 1) := by decide +kernel
theorem dX8_fallsBy_111 : decode cX8_fallsBy 111 = .ok (.iload_n 1, 1) := by decide +kernel
theorem dX8_fallsBy_112 : decode cX8_fallsBy 112 = .ok (.iload_n 2, 1) := by decide +kernel
theorem dX8_fallsBy_113 : decode cX8_fallsBy 113 = .ok (.invokestatic 102, 3) := by decide +kernel
theorem dX8_fallsBy_116 : decode cX8_fallsBy 116 = .ok (.iload_n 3, 1) := by decide +kernel
theorem dX8_fallsBy_117 : decode cX8_fallsBy 117 = .ok (.invokevirtual 301, 3) := by decide +kernel
theorem dX8_fallsBy_120 : decode cX8_fallsBy 120 = .ok (.ireturn, 1) := by decide +kernel
def G8_fallsBy (rec : Int32 → Int32 → Int32 → fkS → Option (Int32 × fkS)) (p1 : Int32) (p2 : Int32) (p3 : Int32) (st : fkS) : Option (Int32 × fkS) :=
 if p2 = (0 : Int32) then
 (fk_bind (F8_ran (12 : Int32) st) <| fun _ st2 =>
 fk_chk (fk_in p1 7) <| fk_let (gA st2 1 p1.toNatClampNeg) <| fun x3 =>
 fk_bind (F8_steamsBy p1 x3 p3 st2) <| fun x4 st5 =>
 fk_chk (fk_in p1 7) <| fk_let (gA st5 1 p1.toNatClampNeg) <| fun x6 =>
 fk_chk (fk_in p1 7) <| fk_let (gA st5 2 p1.toNatClampNeg) <| fun x7 =>
 fk_bind (F8_singsBy p1 x6 (p3 - x7) st5) <| fun x8 st9 =>
 some ((x4 ^^^ x8), st9))
 else
 (if p2 = (4 : Int32) then
 (fk_bind (F8_ran (50 : Int32) st) <| fun _ st11 =>
 fk_bind (rec p1 (0 : Int32) p3 st11) <| fun x12 st13 =>
 some ((-x12), st13))
 else
 (if p2 = (5 : Int32) then
 (fk_bind (F8_ran (60 : Int32) st) <| fun _ st15 =>
 fk_bind (rec p1 (2 : Int32) p3 st15) <| fun x16 st17 =>
 some ((x16 ^^^ (5 : Int32)), st17))
 else
 (fk_bind (F8_above p2 st) <| fun x18 st19 =>
 fk_bind (rec p1 x18 p3 st19) <| fun x20 st21 =>
 some (x20, st21))))
set_option maxHeartbeats 1000000 in
set_option maxRecDepth 20000 in
theorem CG8_fallsBy (rec : Int32 → Int32 → Int32 → fkS → Option (Int32 × fkS)) {g : fkG} {n : Nat} (hrec : ∀ (p1 : Int32) (p2 : Int32) (p3 : Int32) (st : fkS) (l : Launch) (o : Int32 × fkS), rec p1 p2 p3 st = some o → fk_C wM yX8_fallsBy cX8_fallsBy 5 (some .int) (n + 27) (n * 24 + 619) l g [fk_r g 0, .int p1, .int p2, .int p3] st (fk_eI o.1) o.2) (p1 : Int32) (p2 : Int32) (p3 : Int32) (st : fkS) (l : Launch) (o : Int32 × fkS) (hF : G8_fallsBy rec p1 p2 p3 st = some o) : fk_C wM yX8_fallsBy cX8_fallsBy 5 (some (.int)) (n + 1 + 27) ((n + 1) * 24 + 619) l g [fk_r g 0, .int p1, .int p2, .int p3] st (fk_eI o.1) o.2 := by
  refine fk_begin rfl (Nat.le_of_ble_eq_true rfl) (fun k hk => ?_) o hF
  have hk : fk_ok wM g k RX8 cX8_fallsBy 5 (some (.int)) (n + 1 + 27) ((n + 1) * 24 + 619) := hk
  show fk_J wM g fk_eI k 0 [(0, fk_r g 0), (1, .int p1), (2, .int p2), (3, .int p3)] [] st (G8_fallsBy rec p1 p2 p3 st)
  unfold G8_fallsBy
  refine j_iload_n (pc := 0) hk 2 rfl dX8_fallsBy_0 ?_
  refine j_case (pc := 1) hk (fun n1 => ?_) (fun n1 => ?_)
  · refine j_lsw (off := 35) (tgt := 36) (pc := 1) hk (by decide) (by rw [n1]; decide) (by decide) dX8_fallsBy_1 ?_
    refine j_aload_n (pc := 36) hk 0 rfl ⟨_, rfl⟩ dX8_fallsBy_36 ?_
    refine j_bipush (pc := 37) hk dX8_fallsBy_37 (v := 12) (by decide) ?_
    refine j_callVv (pc := 39) hk [.int (12 : Int32)] [] rfl (fun l o hq9 => C8_ran (12 : Int32) st l o hq9) (rcv_8 (rfl)) yv_X8_ran ml_8_292 rfl (Nat.le_of_ble_eq_true rfl) (by omega) (by omega) dX8_fallsBy_39 (fun _ st2 => ?_)
    refine j_aload_n (pc := 42) hk 0 rfl ⟨_, rfl⟩ dX8_fallsBy_42 ?_
    refine j_iload_n (pc := 43) hk 1 rfl dX8_fallsBy_43 ?_
    refine j_aload_n (pc := 44) hk 0 rfl ⟨_, rfl⟩ dX8_fallsBy_44 ?_
    refine f_8_7 (pc := 45) hk (rfl) dX8_fallsBy_45 ?_
    refine j_iload_n (pc := 48) hk 1 rfl dX8_fallsBy_48 ?_
    refine a_iload (pc := 49) hk (isI_8_1) dX8_fallsBy_49 (fun x3 => ?_)
    refine j_iload_n (pc := 50) hk 3 rfl dX8_fallsBy_50 ?_
    refine j_callVi (pc := 51) hk [.int p1, .int x3, .int p3] [] rfl (fun l o hq9 => C8_steamsBy p1 x3 p3 st2 l o hq9) (rcv_8 (rfl)) yv_X8_steamsBy ml_8_298 rfl (Nat.le_of_ble_eq_true rfl) (by omega) (by omega) dX8_fallsBy_51 (fun x4 st5 => ?_)
    refine j_istore (lv' := ((4, .int x4) :: [(0, fk_r g 0), (1, .int p1), (2, .int p2), (3, .int p3)])) (pc := 54) hk (by decide) rfl dX8_fallsBy_54 ?_
    refine j_sub hk (lv' := [(0, fk_r g 0), (1, .int p1), (2, .int p2), (3, .int p3), (4, .int x4)]) [1, 2, 3, 4, 0] rfl ?_
    refine j_iload (pc := 56) hk 4 rfl dX8_fallsBy_56 ?_
    refine j_aload_n (pc := 58) hk 0 rfl ⟨_, rfl⟩ dX8_fallsBy_58 ?_
    refine j_iload_n (pc := 59) hk 1 rfl dX8_fallsBy_59 ?_
    refine j_aload_n (pc := 60) hk 0 rfl ⟨_, rfl⟩ dX8_fallsBy_60 ?_
    refine f_8_7 (pc := 61) hk (rfl) dX8_fallsBy_61 ?_
    refine j_iload_n (pc := 64) hk 1 rfl dX8_fallsBy_64 ?_
    refine a_iload (pc := 65) hk (isI_8_1) dX8_fallsBy_65 (fun x6 => ?_)
    refine j_iload_n (pc := 66) hk 3 rfl dX8_fallsBy_66 ?_
    refine j_aload_n (pc := 67) hk 0 rfl ⟨_, rfl⟩ dX8_fallsBy_67 ?_
    refine f_8_13 (pc := 68) hk (rfl) dX8_fallsBy_68 ?_
    refine j_iload_n (pc := 71) hk 1 rfl dX8_fallsBy_71 ?_
    refine a_iload (pc := 72) hk (isI_8_2) dX8_fallsBy_72 (fun x7 => ?_)
    refine j_isub (pc := 73) hk dX8_fallsBy_73 ?_
    refine j_callVi (pc := 74) hk [.int p1, .int x6, .int (p3 - x7)] [.int x4] rfl (fun l o hq9 => C8_singsBy p1 x6 (p3 - x7) st5 l o hq9) (rcv_8 (rfl)) yv_X8_singsBy ml_8_295 rfl (Nat.le_of_ble_eq_true rfl) (by omega) (by omega) dX8_fallsBy_74 (fun x8 st9 => ?_)
    refine j_ixor (pc := 77) hk dX8_fallsBy_77 ?_
    exact j_iret (pc := 78) hk dX8_fallsBy_78
  · refine j_case (pc := 1) hk (fun n10 => ?_) (fun n10 => ?_)
    · refine j_lsw (off := 78) (tgt := 79) (pc := 1) hk (by decide) (by rw [n10]; decide) (by decide) dX8_fallsBy_1 ?_
      refine j_aload_n (pc := 79) hk 0 rfl ⟨_, rfl⟩ dX8_fallsBy_79 ?_
      refine j_bipush (pc := 80) hk dX8_fallsBy_80 (v := 50) (by decide) ?_
      refine j_callVv (pc := 82) hk [.int (50 : Int32)] [] rfl (fun l o hq9 => C8_ran (50 : Int32) st l o hq9) (rcv_8 (rfl)) yv_X8_ran ml_8_292 rfl (Nat.le_of_ble_eq_true rfl) (by omega) (by omega) dX8_fallsBy_82 (fun _ st11 => ?_)
      refine j_aload_n (pc := 85) hk 0 rfl ⟨_, rfl⟩ dX8_fallsBy_85 ?_
      refine j_iload_n (pc := 86) hk 1 rfl dX8_fallsBy_86 ?_
      refine j_iconst (pc := 87) hk dX8_fallsBy_87 (v := 0) (by decide) ?_
      refine j_iload_n (pc := 88) hk 3 rfl dX8_fallsBy_88 ?_
      refine j_callVi (pc := 89) hk [.int p1, .int (0 : Int32), .int p3] [] rfl (fun l o hq9 => hrec p1 (0 : Int32) p3 st11 l o hq9) (rcv_8 (rfl)) yv_X8_fallsBy ml_8_301 rfl (Nat.le_of_ble_eq_true rfl) (by omega) (by omega) dX8_fallsBy_89 (fun x12 st13 => ?_)
      refine j_ineg (pc := 92) hk dX8_fallsBy_92 ?_
      exact j_iret (pc := 93) hk dX8_fallsBy_93
    · refine j_case (pc := 1) hk (fun n14 => ?_) (fun n14 => ?_)
      · refine j_lsw (off := 93) (tgt := 94) (pc := 1) hk (by decide) (by rw [n14]; decide) (by decide) dX8_fallsBy_1 ?_
        refine j_aload_n (pc := 94) hk 0 rfl ⟨_, rfl⟩ dX8_fallsBy_94 ?_
        refine j_bipush (pc := 95) hk dX8_fallsBy_95 (v := 60) (by decide) ?_
        refine j_callVv (pc := 97) hk [.int (60 : Int32)] [] rfl (fun l o hq9 => C8_ran (60 : Int32) st l o hq9) (rcv_8 (rfl)) yv_X8_ran ml_8_292 rfl (Nat.le_of_ble_eq_true rfl) (by omega) (by omega) dX8_fallsBy_97 (fun _ st15 => ?_)
        refine j_aload_n (pc := 100) hk 0 rfl ⟨_, rfl⟩ dX8_fallsBy_100 ?_
        refine j_iload_n (pc := 101) hk 1 rfl dX8_fallsBy_101 ?_
        refine j_iconst (pc := 102) hk dX8_fallsBy_102 (v := 2) (by decide) ?_
        refine j_iload_n (pc := 103) hk 3 rfl dX8_fallsBy_103 ?_
        refine j_callVi (pc := 104) hk [.int p1, .int (2 : Int32), .int p3] [] rfl (fun l o hq9 => hrec p1 (2 : Int32) p3 st15 l o hq9) (rcv_8 (rfl)) yv_X8_fallsBy ml_8_301 rfl (Nat.le_of_ble_eq_true rfl) (by omega) (by omega) dX8_fallsBy_104 (fun x16 st17 => ?_)
        refine j_iconst (pc := 107) hk dX8_fallsBy_107 (v := 5) (by decide) ?_
        refine j_ixor (pc := 108) hk dX8_fallsBy_108 ?_
        exact j_iret (pc := 109) hk dX8_fallsBy_109
      · have mn1 := lv_neT (a := 0) n1 (by decide)
        have mn10 := lv_neT (a := 4) n10 (by decide)
        have mn14 := lv_neT (a := 5) n14 (by decide)
        refine j_lsw (off := 109) (tgt := 110) (pc := 1) hk (by decide) (fk_lsw (by intro q hq; simp only [List.mem_cons, List.not_mem_nil, or_false] at hq; rcases hq with rfl | rfl | rfl <;> simpa using by assumption)) (by decide) dX8_fallsBy_1 ?_
        refine j_aload_n (pc := 110) hk 0 rfl ⟨_, rfl⟩ dX8_fallsBy_110 ?_
        refine j_iload_n (pc := 111) hk 1 rfl dX8_fallsBy_111 ?_
        refine j_iload_n (pc := 112) hk 2 rfl dX8_fallsBy_112 ?_
        refine j_callSi (pc := 113) hk [.int p2] [.int p1, fk_r g 0] rfl (fun l o hq9 => C8_above p2 st l o hq9) yv_X8_above ml_8_102 rfl (Nat.le_of_ble_eq_true rfl) (by omega) (by omega) dX8_fallsBy_113 (fun x18 st19 => ?_)
        refine j_iload_n (pc := 116) hk 3 rfl dX8_fallsBy_116 ?_
        refine j_callVi (pc := 117) hk [.int p1, .int x18, .int p3] [] rfl (fun l o hq9 => hrec p1 x18 p3 st19 l o hq9) (rcv_8 (rfl)) yv_X8_fallsBy ml_8_301 rfl (Nat.le_of_ble_eq_true rfl) (by omega) (by omega) dX8_fallsBy_117 (fun x20 st21 => ?_)
        exact j_iret (pc := 120) hk dX8_fallsBy_120
def F8_fallsBy (p1 : Int32) (p2 : Int32) (p3 : Int32) (st : fkS) : Option (Int32 × fkS) := fk_lp3 G8_fallsBy 12 p1 p2 p3 st
theorem CN8_fallsBy {g : fkG} (n : Nat) : ∀ (p1 : Int32) (p2 : Int32) (p3 : Int32) (st : fkS) (l : Launch) (o : Int32 × fkS), fk_lp3 G8_fallsBy n p1 p2 p3 st = some o → fk_C wM yX8_fallsBy cX8_fallsBy 5 (some (.int)) (n + 27) (n * 24 + 619) l g [fk_r g 0, .int p1, .int p2, .int p3] st (fk_eI o.1) o.2 := by
  induction n with
  | zero =>
    intro p1 p2 p3 st l o h
    exact absurd h (by simp [fk_lp3])
  | succ n ih =>
    intro p1 p2 p3 st l o h
    exact CG8_fallsBy (fk_lp3 G8_fallsBy n) ih p1 p2 p3 st l o h
theorem C8_fallsBy (p1 : Int32) (p2 : Int32) (p3 : Int32) (st : fkS) {g : fkG} (l : Launch) (o : Int32 × fkS) (h : F8_fallsBy p1 p2 p3 st = some o) : fk_C wM yX8_fallsBy cX8_fallsBy 5 (some (.int)) 39 907 l g [fk_r g 0, .int p1, .int p2, .int p3] st (fk_eI o.1) o.2 := CN8_fallsBy 12 p1 p2 p3 st l o h
theorem dX8_act_0 : decode cX8_act 0 = .ok (.aload_n 0, 1) := by decide +kernel
theorem dX8_act_1 : decode cX8_act 1 = .ok (.iconst 0, 1) := by decide +kernel
theorem dX8_act_2 : decode cX8_act 2 = .ok (.putfield 289, 3) := by decide +kernel
theorem dX8_act_5 : decode cX8_act 5 = .ok (.aload_n 0, 1) := by decide +kernel
theorem dX8_act_6 : decode cX8_act 6 = .ok (.iload_n 1, 1) := by decide +kernel
theorem dX8_act_7 : decode cX8_act 7 = .ok (.invokevirtual 99, 3) := by decide +kernel
theorem dX8_act_10 : decode cX8_act 10 = .ok (.ifCond .eq 12, 3) := by decide +kernel
theorem dX8_act_13 : decode cX8_act 13 = .ok (.iload_n 2, 1) := by decide +kernel
theorem dX8_act_14 : decode cX8_act 14 = .ok (.iconst 0, 1) := by decide +kernel
theorem dX8_act_15 : decode cX8_act 15 = .ok (.iconst 2, 1) := by decide +kernel
theorem dX8_act_16 : decode cX8_act 16 = .ok (.invokestatic 88, 3) := by decide +kernel
theorem dX8_act_19 : decode cX8_act 19 = .ok (.ifCond .ne 5, 3) := by decide +kernel
theorem dX8_act_22 : decode cX8_act 22 = .ok (.iconst 0, 1) := by decide +kernel
theorem dX8_act_23 : decode cX8_act 23 = .ok (.ireturn, 1) := by decide +kernel
theorem dX8_act_24 : decode cX8_act 24 = .ok (.aload_n 0, 1) := by decide +kernel
theorem dX8_act_25 : decode cX8_act 25 = .ok (.getfield 7, 3) := by decide +kernel
theorem dX8_act_28 : decode cX8_act 28 = .ok (.iload_n 1, 1) := by decide +kernel
theorem dX8_act_29 : decode cX8_act 29 = .ok (.iaload, 1) := by decide +kernel
theorem dX8_act_30 : decode cX8_act 30 = .ok (.istore 4, 2) := by decide +kernel
theorem dX8_act_32 : decode cX8_act 32 = .ok (.iload_n 2, 1) := by decide +kernel
theorem dX8_act_33 : decode cX8_act 33 = .ok (.ifCond .ne 14, 3) := by decide +kernel
theorem dX8_act_36 : decode cX8_act 36 = .ok (.aload_n 0, 1) := by decide +kernel
theorem dX8_act_37 : decode cX8_act 37 = .ok (.iload_n 1, 1) := by decide +kernel
theorem dX8_act_38 : decode cX8_act 38 = .ok (.iload 4, 2) := by decide +kernel
theorem dX8_act_40 : decode cX8_act 40 = .ok (.iload_n 3, 1) := by decide +kernel
theorem dX8_act_41 : decode cX8_act 41 = .ok (.invokevirtual 295, 3) := by decide +kernel
theorem dX8_act_44 : decode cX8_act 44 = .ok (.goto 27, 3) := by decide +kernel
theorem dX8_act_47 : decode cX8_act 47 = .ok (.iload_n 2, 1) := by decide +kernel
theorem dX8_act_48 : decode cX8_act 48 = .ok (.iconst 1, 1) := by decide +kernel
theorem dX8_act_49 : decode cX8_act 49 = .ok (.if_icmp .ne 14, 3) := by decide +kernel
theorem dX8_act_52 : decode cX8_act 52 = .ok (.aload_n 0, 1) := by decide +kernel
theorem dX8_act_53 : decode cX8_act 53 = .ok (.iload_n 1, 1) := by decide +kernel
theorem dX8_act_54 : decode cX8_act 54 = .ok (.iload 4, 2) := by decide +kernel
theorem dX8_act_56 : decode cX8_act 56 = .ok (.iload_n 3, 1) := by decide +kernel
theorem dX8_act_57 : decode cX8_act 57 = .ok (.invokevirtual 298, 3) := by decide +kernel
theorem dX8_act_60 : decode cX8_act 60 = .ok (.goto 11, 3) := by decide +kernel
theorem dX8_act_63 : decode cX8_act 63 = .ok (.aload_n 0, 1) := by decide +kernel
theorem dX8_act_64 : decode cX8_act 64 = .ok (.iload_n 1, 1) := by decide +kernel
theorem dX8_act_65 : decode cX8_act 65 = .ok (.iload 4, 2) := by decide +kernel
theorem dX8_act_67 : decode cX8_act 67 = .ok (.iload_n 3, 1) := by decide +kernel
theorem dX8_act_68 : decode cX8_act 68 = .ok (.invokevirtual 301, 3) := by decide +kernel
theorem dX8_act_71 : decode cX8_act 71 = .ok (.ireturn, 1) := by decide +kernel
def F8_act (p1 : Int32) (p2 : Int32) (p3 : Int32) (st : fkS) : Option (Int32 × fkS) :=
 fk_let (sI st 17 0 (0 : Int32)) <| fun st1 =>
 fk_bind (F8_isBird p1 st1) <| fun x2 st3 =>
 if x2 = 0 then
 (some ((0 : Int32), st3))
 else
 (fk_bind (F8_within p2 (0 : Int32) (2 : Int32) st3) <| fun x4 st5 =>
 if x4 = 0 then
 (some ((0 : Int32), st5))
 else
 (fk_chk (fk_in p1 7) <| fk_let (gA st5 1 p1.toNatClampNeg) <| fun x6 =>
 if p2 = 0 then
 (fk_bind (F8_singsBy p1 x6 p3 st5) <| fun x7 st8 =>
 some (x7, st8))
 else
 (if p2 = (1 : Int32) then
 (fk_bind (F8_steamsBy p1 x6 p3 st5) <| fun x9 st10 =>
 some (x9, st10))
 else
 (fk_bind (F8_fallsBy p1 x6 p3 st5) <| fun x11 st12 =>
 some (x11, st12)))))
set_option maxHeartbeats 1000000 in
set_option maxRecDepth 20000 in
theorem C8_act (p1 : Int32) (p2 : Int32) (p3 : Int32) (st : fkS) {g : fkG} (l : Launch) (o : Int32 × fkS) (hF : F8_act p1 p2 p3 st = some o) : fk_C wM yX8_act cX8_act 5 (some (.int)) 40 931 l g [fk_r g 0, .int p1, .int p2, .int p3] st (fk_eI o.1) o.2 := by
  refine fk_begin rfl (Nat.le_of_ble_eq_true rfl) (fun k hk => ?_) o hF
  have hk : fk_ok wM g k RX8 cX8_act 5 (some (.int)) 40 931 := hk
  show fk_J wM g fk_eI k 0 [(0, fk_r g 0), (1, .int p1), (2, .int p2), (3, .int p3)] [] st (F8_act p1 p2 p3 st)
  unfold F8_act
  refine j_aload_n (pc := 0) hk 0 rfl ⟨_, rfl⟩ dX8_act_0 ?_
  refine j_iconst (pc := 1) hk dX8_act_1 (v := 0) (by decide) ?_
  refine p_8_289 (pc := 2) hk (rfl) dX8_act_2 (fun st1 => ?_)
  refine j_aload_n (pc := 5) hk 0 rfl ⟨_, rfl⟩ dX8_act_5 ?_
  refine j_iload_n (pc := 6) hk 1 rfl dX8_act_6 ?_
  refine j_callVi (pc := 7) hk [.int p1] [] rfl (fun l o hq9 => C8_isBird p1 st1 l o hq9) (rcv_8 (rfl)) yv_X8_isBird ml_8_99 rfl (Nat.le_of_ble_eq_true rfl) (Nat.le_of_ble_eq_true rfl) (Nat.le_of_ble_eq_true rfl) dX8_act_7 (fun x2 st3 => ?_)
  refine j_if_eq (tgt := 22) (pc := 10) hk (by decide) dX8_act_10 (fun _ => ?_) (fun _ => ?_)
  · refine j_iconst (pc := 22) hk dX8_act_22 (v := 0) (by decide) ?_
    exact j_iret (pc := 23) hk dX8_act_23
  · refine j_iload_n (pc := 13) hk 2 rfl dX8_act_13 ?_
    refine j_iconst (pc := 14) hk dX8_act_14 (v := 0) (by decide) ?_
    refine j_iconst (pc := 15) hk dX8_act_15 (v := 2) (by decide) ?_
    refine j_callSi (pc := 16) hk [.int p2, .int (0 : Int32), .int (2 : Int32)] [] rfl (fun l o hq9 => C8_within p2 (0 : Int32) (2 : Int32) st3 l o hq9) yv_X8_within ml_8_88 rfl (Nat.le_of_ble_eq_true rfl) (Nat.le_of_ble_eq_true rfl) (Nat.le_of_ble_eq_true rfl) dX8_act_16 (fun x4 st5 => ?_)
    refine j_if_ne (tgt := 24) (pc := 19) hk (by decide) dX8_act_19 (fun _ => ?_) (fun _ => ?_)
    · refine j_iconst (pc := 22) hk dX8_act_22 (v := 0) (by decide) ?_
      exact j_iret (pc := 23) hk dX8_act_23
    · refine j_aload_n (pc := 24) hk 0 rfl ⟨_, rfl⟩ dX8_act_24 ?_
      refine f_8_7 (pc := 25) hk (rfl) dX8_act_25 ?_
      refine j_iload_n (pc := 28) hk 1 rfl dX8_act_28 ?_
      refine a_iload (pc := 29) hk (isI_8_1) dX8_act_29 (fun x6 => ?_)
      refine j_istore (lv' := ((4, .int x6) :: [(0, fk_r g 0), (1, .int p1), (2, .int p2), (3, .int p3)])) (pc := 30) hk (by decide) rfl dX8_act_30 ?_
      refine j_sub hk (lv' := [(0, fk_r g 0), (1, .int p1), (2, .int p2), (3, .int p3), (4, .int x6)]) [1, 2, 3, 4, 0] rfl ?_
      refine j_iload_n (pc := 32) hk 2 rfl dX8_act_32 ?_
      refine j_if_ne (tgt := 47) (pc := 33) hk (by decide) dX8_act_33 (fun _ => ?_) (fun _ => ?_)
      · refine j_aload_n (pc := 36) hk 0 rfl ⟨_, rfl⟩ dX8_act_36 ?_
        refine j_iload_n (pc := 37) hk 1 rfl dX8_act_37 ?_
        refine j_iload (pc := 38) hk 4 rfl dX8_act_38 ?_
        refine j_iload_n (pc := 40) hk 3 rfl dX8_act_40 ?_
        refine j_callVi (pc := 41) hk [.int p1, .int x6, .int p3] [] rfl (fun l o hq9 => C8_singsBy p1 x6 p3 st5 l o hq9) (rcv_8 (rfl)) yv_X8_singsBy ml_8_295 rfl (Nat.le_of_ble_eq_true rfl) (Nat.le_of_ble_eq_true rfl) (Nat.le_of_ble_eq_true rfl) dX8_act_41 (fun x7 st8 => ?_)
        refine j_goto (tgt := 71) (pc := 44) hk (by decide) dX8_act_44 ?_
        exact j_iret (pc := 71) hk dX8_act_71
      · refine j_iload_n (pc := 47) hk 2 rfl dX8_act_47 ?_
        refine j_iconst (pc := 48) hk dX8_act_48 (v := 1) (by decide) ?_
        refine j_icmp_ne (tgt := 63) (pc := 49) hk (by decide) dX8_act_49 (fun _ => ?_) (fun _ => ?_)
        · refine j_aload_n (pc := 52) hk 0 rfl ⟨_, rfl⟩ dX8_act_52 ?_
          refine j_iload_n (pc := 53) hk 1 rfl dX8_act_53 ?_
          refine j_iload (pc := 54) hk 4 rfl dX8_act_54 ?_
          refine j_iload_n (pc := 56) hk 3 rfl dX8_act_56 ?_
          refine j_callVi (pc := 57) hk [.int p1, .int x6, .int p3] [] rfl (fun l o hq9 => C8_steamsBy p1 x6 p3 st5 l o hq9) (rcv_8 (rfl)) yv_X8_steamsBy ml_8_298 rfl (Nat.le_of_ble_eq_true rfl) (Nat.le_of_ble_eq_true rfl) (Nat.le_of_ble_eq_true rfl) dX8_act_57 (fun x9 st10 => ?_)
          refine j_goto (tgt := 71) (pc := 60) hk (by decide) dX8_act_60 ?_
          exact j_iret (pc := 71) hk dX8_act_71
        · refine j_aload_n (pc := 63) hk 0 rfl ⟨_, rfl⟩ dX8_act_63 ?_
          refine j_iload_n (pc := 64) hk 1 rfl dX8_act_64 ?_
          refine j_iload (pc := 65) hk 4 rfl dX8_act_65 ?_
          refine j_iload_n (pc := 67) hk 3 rfl dX8_act_67 ?_
          refine j_callVi (pc := 68) hk [.int p1, .int x6, .int p3] [] rfl (fun l o hq9 => C8_fallsBy p1 x6 p3 st5 l o hq9) (rcv_8 (rfl)) yv_X8_fallsBy ml_8_301 rfl (Nat.le_of_ble_eq_true rfl) (Nat.le_of_ble_eq_true rfl) (Nat.le_of_ble_eq_true rfl) dX8_act_68 (fun x11 st12 => ?_)
          exact j_iret (pc := 71) hk dX8_act_71
theorem dX8_trace_0 : decode cX8_trace 0 = .ok (.iload_n 1, 1) := by decide +kernel
theorem dX8_trace_1 : decode cX8_trace 1 = .ok (.ifCond .lt 26, 3) := by decide +kernel
theorem dX8_trace_4 : decode cX8_trace 4 = .ok (.iload_n 1, 1) := by decide +kernel
theorem dX8_trace_5 : decode cX8_trace 5 = .ok (.aload_n 0, 1) := by decide +kernel
theorem dX8_trace_6 : decode cX8_trace 6 = .ok (.getfield 289, 3) := by decide +kernel
theorem dX8_trace_9 : decode cX8_trace 9 = .ok (.if_icmp .ge 18, 3) := by decide +kernel
theorem dX8_trace_12 : decode cX8_trace 12 = .ok (.iload_n 1, 1) := by decide +kernel
theorem dX8_trace_13 : decode cX8_trace 13 = .ok (.bipush 20, 2) := by decide +kernel
theorem dX8_trace_15 : decode cX8_trace 15 = .ok (.if_icmp .ge 12, 3) := by decide +kernel
theorem dX8_trace_18 : decode cX8_trace 18 = .ok (.aload_n 0, 1) := by decide +kernel
theorem dX8_trace_19 : decode cX8_trace 19 = .ok (.getfield 41, 3) := by decide +kernel
theorem dX8_trace_22 : decode cX8_trace 22 = .ok (.iload_n 1, 1) := by decide +kernel
theorem dX8_trace_23 : decode cX8_trace 23 = .ok (.iaload, 1) := by decide +kernel
theorem dX8_trace_24 : decode cX8_trace 24 = .ok (.goto 4, 3) := by decide +kernel
theorem dX8_trace_27 : decode cX8_trace 27 = .ok (.iconst (-1), 1) := by decide +kernel
theorem dX8_trace_28 : decode cX8_trace 28 = .ok (.ireturn, 1) := by decide +kernel
def F8_trace (p1 : Int32) (st : fkS) : Option (Int32 × fkS) :=
 if p1 < 0 then
 (some ((-1 : Int32), st))
 else
 (fk_let (gI st 17 0) <| fun x1 =>
 if x1 ≤ p1 then
 (some ((-1 : Int32), st))
 else
 (if (20 : Int32) ≤ p1 then
 (some ((-1 : Int32), st))
 else
 (fk_chk (fk_in p1 20) <| fk_let (gA st 11 p1.toNatClampNeg) <| fun x2 =>
 some (x2, st))))
set_option maxHeartbeats 1000000 in
set_option maxRecDepth 20000 in
theorem C8_trace (p1 : Int32) (st : fkS) {g : fkG} (l : Launch) (o : Int32 × fkS) (hF : F8_trace p1 st = some o) : fk_C wM yX8_trace cX8_trace 2 (some (.int)) 0 0 l g [fk_r g 0, .int p1] st (fk_eI o.1) o.2 := by
  refine fk_begin rfl (Nat.le_of_ble_eq_true rfl) (fun k hk => ?_) o hF
  have hk : fk_ok wM g k RX8 cX8_trace 2 (some (.int)) 0 0 := hk
  show fk_J wM g fk_eI k 0 [(0, fk_r g 0), (1, .int p1)] [] st (F8_trace p1 st)
  unfold F8_trace
  refine j_iload_n (pc := 0) hk 1 rfl dX8_trace_0 ?_
  refine j_if_lt (tgt := 27) (pc := 1) hk (by decide) dX8_trace_1 (fun _ => ?_) (fun _ => ?_)
  · refine j_iconst (pc := 27) hk dX8_trace_27 (v := -1) (by decide) ?_
    exact j_iret (pc := 28) hk dX8_trace_28
  · refine j_iload_n (pc := 4) hk 1 rfl dX8_trace_4 ?_
    refine j_aload_n (pc := 5) hk 0 rfl ⟨_, rfl⟩ dX8_trace_5 ?_
    refine f_8_289 (pc := 6) hk (rfl) dX8_trace_6 (fun x1 => ?_)
    refine j_icmp_ge (tgt := 27) (pc := 9) hk (by decide) dX8_trace_9 (fun _ => ?_) (fun _ => ?_)
    · refine j_iconst (pc := 27) hk dX8_trace_27 (v := -1) (by decide) ?_
      exact j_iret (pc := 28) hk dX8_trace_28
    · refine j_iload_n (pc := 12) hk 1 rfl dX8_trace_12 ?_
      refine j_bipush (pc := 13) hk dX8_trace_13 (v := 20) (by decide) ?_
      refine j_icmp_ge (tgt := 27) (pc := 15) hk (by decide) dX8_trace_15 (fun _ => ?_) (fun _ => ?_)
      · refine j_iconst (pc := 27) hk dX8_trace_27 (v := -1) (by decide) ?_
        exact j_iret (pc := 28) hk dX8_trace_28
      · refine j_aload_n (pc := 18) hk 0 rfl ⟨_, rfl⟩ dX8_trace_18 ?_
        refine f_8_41 (pc := 19) hk (rfl) dX8_trace_19 ?_
        refine j_iload_n (pc := 22) hk 1 rfl dX8_trace_22 ?_
        refine a_iload (pc := 23) hk (isI_8_18) dX8_trace_23 (fun x2 => ?_)
        refine j_goto (tgt := 28) (pc := 24) hk (by decide) dX8_trace_24 ?_
        exact j_iret (pc := 28) hk dX8_trace_28
theorem dX8_image_0 : decode cX8_image 0 = .ok (.aload_n 0, 1) := by decide +kernel
theorem dX8_image_1 : decode cX8_image 1 = .ok (.iconst 1, 1) := by decide +kernel
theorem dX8_image_2 : decode cX8_image 2 = .ok (.putfield 304, 3) := by decide +kernel
theorem dX8_image_5 : decode cX8_image 5 = .ok (.aload_n 0, 1) := by decide +kernel
theorem dX8_image_6 : decode cX8_image 6 = .ok (.aload_n 0, 1) := by decide +kernel
theorem dX8_image_7 : decode cX8_image 7 = .ok (.getfield 47, 3) := by decide +kernel
theorem dX8_image_10 : decode cX8_image 10 = .ok (.invokevirtual 177, 3) := by decide +kernel
theorem dX8_image_13 : decode cX8_image 13 = .ok (.aload_n 0, 1) := by decide +kernel
theorem dX8_image_14 : decode cX8_image 14 = .ok (.aload_n 0, 1) := by decide +kernel
theorem dX8_image_15 : decode cX8_image 15 = .ok (.getfield 74, 3) := by decide +kernel
theorem dX8_image_18 : decode cX8_image 18 = .ok (.putfield 308, 3) := by decide +kernel
theorem dX8_image_21 : decode cX8_image 21 = .ok (.aload_n 0, 1) := by decide +kernel
theorem dX8_image_22 : decode cX8_image 22 = .ok (.getfield 85, 3) := by decide +kernel
theorem dX8_image_25 : decode cX8_image 25 = .ok (.ireturn, 1) := by decide +kernel
def F8_image (st : fkS) : Option (Int32 × fkS) :=
 fk_let (sI st 20 0 (1 : Int32)) <| fun st1 =>
 fk_bind (F8_keep 13 st1) <| fun _ st2 =>
 fk_let (gI st2 8 0) <| fun x3 =>
 fk_let (sI st2 36 0 x3) <| fun st4 =>
 fk_let (gI st4 0 0) <| fun x5 =>
 some (x5, st4)
set_option maxHeartbeats 1000000 in
set_option maxRecDepth 20000 in
theorem C8_image (st : fkS) {g : fkG} (l : Launch) (o : Int32 × fkS) (hF : F8_image st = some o) : fk_C wM yX8_image cX8_image 1 (some (.int)) 1 22 l g [fk_r g 0] st (fk_eI o.1) o.2 := by
  refine fk_begin rfl (Nat.le_of_ble_eq_true rfl) (fun k hk => ?_) o hF
  have hk : fk_ok wM g k RX8 cX8_image 1 (some (.int)) 1 22 := hk
  show fk_J wM g fk_eI k 0 [(0, fk_r g 0)] [] st (F8_image st)
  unfold F8_image
  refine j_aload_n (pc := 0) hk 0 rfl ⟨_, rfl⟩ dX8_image_0 ?_
  refine j_iconst (pc := 1) hk dX8_image_1 (v := 1) (by decide) ?_
  refine p_8_304 (pc := 2) hk (rfl) rfl rfl dX8_image_2 (fun st1 => ?_)
  refine j_aload_n (pc := 5) hk 0 rfl ⟨_, rfl⟩ dX8_image_5 ?_
  refine j_aload_n (pc := 6) hk 0 rfl ⟨_, rfl⟩ dX8_image_6 ?_
  refine f_8_47 (pc := 7) hk (rfl) dX8_image_7 ?_
  refine j_callVv (pc := 10) hk [fk_r g 13] [] rfl (fun l o hq9 => C8_keep 13 (fun g => isI_8_21) st1 l o hq9) (rcv_8 (rfl)) yv_X8_keep ml_8_177 rfl (Nat.le_of_ble_eq_true rfl) (Nat.le_of_ble_eq_true rfl) (Nat.le_of_ble_eq_true rfl) dX8_image_10 (fun _ st2 => ?_)
  refine j_aload_n (pc := 13) hk 0 rfl ⟨_, rfl⟩ dX8_image_13 ?_
  refine j_aload_n (pc := 14) hk 0 rfl ⟨_, rfl⟩ dX8_image_14 ?_
  refine f_8_74 (pc := 15) hk (rfl) dX8_image_15 (fun x3 => ?_)
  refine p_8_308 (pc := 18) hk (rfl) dX8_image_18 (fun st4 => ?_)
  refine j_aload_n (pc := 21) hk 0 rfl ⟨_, rfl⟩ dX8_image_21 ?_
  refine f_8_85 (pc := 22) hk (rfl) dX8_image_22 (fun x5 => ?_)
  exact j_iret (pc := 25) hk dX8_image_25
theorem dX8_restore_0 : decode cX8_restore 0 = .ok (.aload_n 0, 1) := by decide +kernel
theorem dX8_restore_1 : decode cX8_restore 1 = .ok (.getfield 304, 3) := by decide +kernel
theorem dX8_restore_4 : decode cX8_restore 4 = .ok (.ifCond .ne 10, 3) := by decide +kernel
theorem dX8_restore_7 : decode cX8_restore 7 = .ok (.aload_n 0, 1) := by decide +kernel
theorem dX8_restore_8 : decode cX8_restore 8 = .ok (.bipush (-6), 2) := by decide +kernel
theorem dX8_restore_10 : decode cX8_restore 10 = .ok (.invokevirtual 81, 3) := by decide +kernel
theorem dX8_restore_13 : decode cX8_restore 13 = .ok (.ireturn, 1) := by decide +kernel
theorem dX8_restore_14 : decode cX8_restore 14 = .ok (.aload_n 0, 1) := by decide +kernel
theorem dX8_restore_15 : decode cX8_restore 15 = .ok (.aload_n 0, 1) := by decide +kernel
theorem dX8_restore_16 : decode cX8_restore 16 = .ok (.getfield 47, 3) := by decide +kernel
theorem dX8_restore_19 : decode cX8_restore 19 = .ok (.invokevirtual 185, 3) := by decide +kernel
theorem dX8_restore_22 : decode cX8_restore 22 = .ok (.aload_n 0, 1) := by decide +kernel
theorem dX8_restore_23 : decode cX8_restore 23 = .ok (.aload_n 0, 1) := by decide +kernel
theorem dX8_restore_24 : decode cX8_restore 24 = .ok (.getfield 308, 3) := by decide +kernel
theorem dX8_restore_27 : decode cX8_restore 27 = .ok (.putfield 74, 3) := by decide +kernel
theorem dX8_restore_30 : decode cX8_restore 30 = .ok (.iconst 0, 1) := by decide +kernel
theorem dX8_restore_31 : decode cX8_restore 31 = .ok (.istore_n 1, 1) := by decide +kernel
theorem dX8_restore_32 : decode cX8_restore 32 = .ok (.iload_n 1, 1) := by decide +kernel
theorem dX8_restore_33 : decode cX8_restore 33 = .ok (.bipush 8, 2) := by decide +kernel
theorem dX8_restore_35 : decode cX8_restore 35 = .ok (.if_icmp .ge 37, 3) := by decide +kernel
theorem dX8_restore_38 : decode cX8_restore 38 = .ok (.aload_n 0, 1) := by decide +kernel
theorem dX8_restore_39 : decode cX8_restore 39 = .ok (.iload_n 1, 1) := by decide +kernel
theorem dX8_restore_40 : decode cX8_restore 40 = .ok (.invokevirtual 92, 3) := by decide +kernel
theorem dX8_restore_43 : decode cX8_restore 43 = .ok (.ifCond .ne 23, 3) := by decide +kernel
theorem dX8_restore_46 : decode cX8_restore 46 = .ok (.aload_n 0, 1) := by decide +kernel
theorem dX8_restore_47 : decode cX8_restore 47 = .ok (.getfield 25, 3) := by decide +kernel
theorem dX8_restore_50 : decode cX8_restore 50 = .ok (.iload_n 1, 1) := by decide +kernel
theorem dX8_restore_51 : decode cX8_restore 51 = .ok (.iaload, 1) := by decide +kernel
theorem dX8_restore_52 : decode cX8_restore 52 = .ok (.aload_n 0, 1) := by decide +kernel
theorem dX8_restore_53 : decode cX8_restore 53 = .ok (.getfield 85, 3) := by decide +kernel
theorem dX8_restore_56 : decode cX8_restore 56 = .ok (.if_icmp .lt 10, 3) := by decide +kernel
theorem dX8_restore_59 : decode cX8_restore 59 = .ok (.aload_n 0, 1) := by decide +kernel
theorem dX8_restore_60 : decode cX8_restore 60 = .ok (.getfield 25, 3) := by decide +kernel
theorem dX8_restore_63 : decode cX8_restore 63 = .ok (.iload_n 1, 1) := by decide +kernel
theorem dX8_restore_64 : decode cX8_restore 64 = .ok (.iconst (-1), 1) := by decide +kernel
theorem dX8_restore_65 : decode cX8_restore 65 = .ok (.iastore, 1) := by decide +kernel
theorem dX8_restore_66 : decode cX8_restore 66 = .ok (.iinc 1 1, 3) := by decide +kernel
theorem dX8_restore_69 : decode cX8_restore 69 = .ok (.goto (-37), 3) := by decide +kernel
theorem dX8_restore_72 : decode cX8_restore 72 = .ok (.aload_n 0, 1) := by decide +kernel
theorem dX8_restore_73 : decode cX8_restore 73 = .ok (.getfield 85, 3) := by decide +kernel
theorem dX8_restore_76 : decode cX8_restore 76 = .ok (.ireturn, 1) := by decide +kernel
def B8_restore_66 (k32 : Int32 → fkS → Option (Int32 × fkS)) (v1 : Int32) (st : fkS) : Option (Int32 × fkS) :=
 k32 (v1 + (1 : Int32)) st
set_option maxHeartbeats 1000000 in
set_option maxRecDepth 20000 in
theorem T8_restore_66 {g : fkG} {k : fkK} (hk : fk_ok wM g k RX8 cX8_restore 2 (some (.int)) 1 22) (k32 : Int32 → fkS → Option (Int32 × fkS)) (H32 : ∀ (v1 : Int32) (st : fkS), fk_J wM g fk_eI k 32 [(0, fk_r g 0), (1, .int v1)] [] st (k32 v1 st)) : ∀ (v1 : Int32) (st : fkS), fk_J wM g fk_eI k 66 [(0, fk_r g 0), (1, .int v1)] [] st (B8_restore_66 k32 v1 st) := by
  intro v1 st
  unfold B8_restore_66
  refine j_iinc (dd := (1 : Int32)) (lv' := ((1, .int (v1 + (1 : Int32))) :: [(0, fk_r g 0)])) (pc := 66) hk 1 rfl (by decide) (by decide) rfl dX8_restore_66 ?_
  refine j_sub hk (lv' := [(0, fk_r g 0), (1, .int (v1 + (1 : Int32)))]) [1, 0] rfl ?_
  refine j_goto (tgt := 32) (pc := 69) hk (by decide) dX8_restore_69 ?_
  exact j_sub hk [0, 1] rfl (H32 (v1 + (1 : Int32)) st)
def B8_restore_32 (k32 : Int32 → fkS → Option (Int32 × fkS)) (v1 : Int32) (st : fkS) : Option (Int32 × fkS) :=
 if (8 : Int32) ≤ v1 then
 (fk_let (gI st 0 0) <| fun x7 =>
 some (x7, st))
 else
 (fk_bind (F8_isRow v1 st) <| fun x8 st9 =>
 if x8 = 0 then
 (fk_chk (fk_in v1 8) <| fk_let (gA st9 6 v1.toNatClampNeg) <| fun x10 =>
 fk_let (gI st9 0 0) <| fun x11 =>
 if x10 < x11 then
 (B8_restore_66 k32 v1 st9)
 else
 (fk_chk (fk_in v1 8) <| fk_let (sA st9 6 v1.toNatClampNeg (-1 : Int32)) <| fun st12 =>
 B8_restore_66 k32 v1 st12))
 else
 (B8_restore_66 k32 v1 st9))
set_option maxHeartbeats 1000000 in
set_option maxRecDepth 20000 in
theorem T8_restore_32 {g : fkG} {k : fkK} (hk : fk_ok wM g k RX8 cX8_restore 2 (some (.int)) 1 22) (k32 : Int32 → fkS → Option (Int32 × fkS)) (H32 : ∀ (v1 : Int32) (st : fkS), fk_J wM g fk_eI k 32 [(0, fk_r g 0), (1, .int v1)] [] st (k32 v1 st)) : ∀ (v1 : Int32) (st : fkS), fk_J wM g fk_eI k 32 [(0, fk_r g 0), (1, .int v1)] [] st (B8_restore_32 k32 v1 st) := by
  intro v1 st
  unfold B8_restore_32
  refine j_iload_n (pc := 32) hk 1 rfl dX8_restore_32 ?_
  refine j_bipush (pc := 33) hk dX8_restore_33 (v := 8) (by decide) ?_
  refine j_icmp_ge (tgt := 72) (pc := 35) hk (by decide) dX8_restore_35 (fun _ => ?_) (fun _ => ?_)
  · refine j_aload_n (pc := 72) hk 0 rfl ⟨_, rfl⟩ dX8_restore_72 ?_
    refine f_8_85 (pc := 73) hk (rfl) dX8_restore_73 (fun x7 => ?_)
    exact j_iret (pc := 76) hk dX8_restore_76
  · refine j_aload_n (pc := 38) hk 0 rfl ⟨_, rfl⟩ dX8_restore_38 ?_
    refine j_iload_n (pc := 39) hk 1 rfl dX8_restore_39 ?_
    refine j_callVi (pc := 40) hk [.int v1] [] rfl (fun l o hq9 => C8_isRow v1 st l o hq9) (rcv_8 (rfl)) yv_X8_isRow ml_8_92 rfl (Nat.le_of_ble_eq_true rfl) (Nat.le_of_ble_eq_true rfl) (Nat.le_of_ble_eq_true rfl) dX8_restore_40 (fun x8 st9 => ?_)
    refine j_if_ne (tgt := 66) (pc := 43) hk (by decide) dX8_restore_43 (fun _ => ?_) (fun _ => ?_)
    · refine j_aload_n (pc := 46) hk 0 rfl ⟨_, rfl⟩ dX8_restore_46 ?_
      refine f_8_25 (pc := 47) hk (rfl) dX8_restore_47 ?_
      refine j_iload_n (pc := 50) hk 1 rfl dX8_restore_50 ?_
      refine a_iload (pc := 51) hk (isI_8_9) dX8_restore_51 (fun x10 => ?_)
      refine j_aload_n (pc := 52) hk 0 rfl ⟨_, rfl⟩ dX8_restore_52 ?_
      refine f_8_85 (pc := 53) hk (rfl) dX8_restore_53 (fun x11 => ?_)
      refine j_icmp_lt (tgt := 66) (pc := 56) hk (by decide) dX8_restore_56 (fun _ => ?_) (fun _ => ?_)
      · exact j_sub hk [0, 1] rfl (T8_restore_66 hk k32 H32 v1 st9)
      · refine j_aload_n (pc := 59) hk 0 rfl ⟨_, rfl⟩ dX8_restore_59 ?_
        refine f_8_25 (pc := 60) hk (rfl) dX8_restore_60 ?_
        refine j_iload_n (pc := 63) hk 1 rfl dX8_restore_63 ?_
        refine j_iconst (pc := 64) hk dX8_restore_64 (v := -1) (by decide) ?_
        refine a_istore (pc := 65) hk (isI_8_9) dX8_restore_65 (fun st12 => ?_)
        exact j_sub hk [0, 1] rfl (T8_restore_66 hk k32 H32 v1 st12)
    · exact j_sub hk [0, 1] rfl (T8_restore_66 hk k32 H32 v1 st9)
set_option maxHeartbeats 1000000 in
set_option maxRecDepth 20000 in
theorem L8_restore_32 {g : fkG} {k : fkK} (hk : fk_ok wM g k RX8 cX8_restore 2 (some (.int)) 1 22) (fu : Nat) : ∀ (v1 : Int32) (st : fkS), fk_J wM g fk_eI k 32 [(0, fk_r g 0), (1, .int v1)] [] st (fk_lp1 (B8_restore_32) fu v1 st) := by
  induction fu with
  | zero =>
    intro v1 st
    exact j_none hk
  | succ fu ih =>
    exact T8_restore_32 hk _ ih
def F8_restore (st : fkS) : Option (Int32 × fkS) :=
 fk_let (gI st 20 0) <| fun x1 =>
 if x1 = 0 then
 (fk_bind (F8_no (-6 : Int32) st) <| fun x2 st3 =>
 some (x2, st3))
 else
 (fk_bind (F8_again 13 st) <| fun _ st4 =>
 fk_let (gI st4 36 0) <| fun x5 =>
 fk_let (sI st4 8 0 x5) <| fun st6 =>
 fk_lp1 (B8_restore_32) fk_fuel (0 : Int32) st6)
set_option maxHeartbeats 1000000 in
set_option maxRecDepth 20000 in
theorem C8_restore (st : fkS) {g : fkG} (l : Launch) (o : Int32 × fkS) (hF : F8_restore st = some o) : fk_C wM yX8_restore cX8_restore 2 (some (.int)) 1 22 l g [fk_r g 0] st (fk_eI o.1) o.2 := by
  refine fk_begin rfl (Nat.le_of_ble_eq_true rfl) (fun k hk => ?_) o hF
  have hk : fk_ok wM g k RX8 cX8_restore 2 (some (.int)) 1 22 := hk
  show fk_J wM g fk_eI k 0 [(0, fk_r g 0)] [] st (F8_restore st)
  unfold F8_restore
  refine j_aload_n (pc := 0) hk 0 rfl ⟨_, rfl⟩ dX8_restore_0 ?_
  refine f_8_304 (pc := 1) hk (rfl) dX8_restore_1 (fun x1 => ?_)
  refine j_if_ne (tgt := 14) (pc := 4) hk (by decide) dX8_restore_4 (fun _ => ?_) (fun _ => ?_)
  · refine j_aload_n (pc := 7) hk 0 rfl ⟨_, rfl⟩ dX8_restore_7 ?_
    refine j_bipush (pc := 8) hk dX8_restore_8 (v := -6) (by decide) ?_
    refine j_callVi (pc := 10) hk [.int (-6 : Int32)] [] rfl (fun l o hq9 => C8_no (-6 : Int32) st l o hq9) (rcv_8 (rfl)) yv_X8_no ml_8_81 rfl (Nat.le_of_ble_eq_true rfl) (Nat.le_of_ble_eq_true rfl) (Nat.le_of_ble_eq_true rfl) dX8_restore_10 (fun x2 st3 => ?_)
    exact j_iret (pc := 13) hk dX8_restore_13
  · refine j_aload_n (pc := 14) hk 0 rfl ⟨_, rfl⟩ dX8_restore_14 ?_
    refine j_aload_n (pc := 15) hk 0 rfl ⟨_, rfl⟩ dX8_restore_15 ?_
    refine f_8_47 (pc := 16) hk (rfl) dX8_restore_16 ?_
    refine j_callVv (pc := 19) hk [fk_r g 13] [] rfl (fun l o hq9 => C8_again 13 (fun g => isI_8_21) st l o hq9) (rcv_8 (rfl)) yv_X8_again ml_8_185 rfl (Nat.le_of_ble_eq_true rfl) (Nat.le_of_ble_eq_true rfl) (Nat.le_of_ble_eq_true rfl) dX8_restore_19 (fun _ st4 => ?_)
    refine j_aload_n (pc := 22) hk 0 rfl ⟨_, rfl⟩ dX8_restore_22 ?_
    refine j_aload_n (pc := 23) hk 0 rfl ⟨_, rfl⟩ dX8_restore_23 ?_
    refine f_8_308 (pc := 24) hk (rfl) dX8_restore_24 (fun x5 => ?_)
    refine p_8_74 (pc := 27) hk (rfl) dX8_restore_27 (fun st6 => ?_)
    refine j_iconst (pc := 30) hk dX8_restore_30 (v := 0) (by decide) ?_
    refine j_istore_n (lv' := ((1, .int (0 : Int32)) :: [(0, fk_r g 0)])) (pc := 31) hk rfl (by decide) rfl dX8_restore_31 ?_
    refine j_sub hk (lv' := [(0, fk_r g 0), (1, .int (0 : Int32))]) [1, 0] rfl ?_
    exact j_sub hk [0, 1] rfl (L8_restore_32 hk fk_fuel (0 : Int32) st6)
theorem dX8_status_0 : decode cX8_status 0 = .ok (.iload_n 1, 1) := by decide +kernel
theorem dX8_status_1 : decode cX8_status 1 = .ok (.tableswitch 81 0 7 #[47, 52, 52, 52, 61, 66, 71, 76], 47) := by decide +kernel
theorem dX8_status_48 : decode cX8_status 48 = .ok (.aload_n 0, 1) := by decide +kernel
theorem dX8_status_49 : decode cX8_status 49 = .ok (.getfield 85, 3) := by decide +kernel
theorem dX8_status_52 : decode cX8_status 52 = .ok (.ireturn, 1) := by decide +kernel
theorem dX8_status_53 : decode cX8_status 53 = .ok (.aload_n 0, 1) := by decide +kernel
theorem dX8_status_54 : decode cX8_status 54 = .ok (.getfield 19, 3) := by decide +kernel
theorem dX8_status_57 : decode cX8_status 57 = .ok (.iload_n 1, 1) := by decide +kernel
theorem dX8_status_58 : decode cX8_status 58 = .ok (.iconst 1, 1) := by decide +kernel
theorem dX8_status_59 : decode cX8_status 59 = .ok (.isub, 1) := by decide +kernel
theorem dX8_status_60 : decode cX8_status 60 = .ok (.iaload, 1) := by decide +kernel
theorem dX8_status_61 : decode cX8_status 61 = .ok (.ireturn, 1) := by decide +kernel
theorem dX8_status_62 : decode cX8_status 62 = .ok (.aload_n 0, 1) := by decide +kernel
theorem dX8_status_63 : decode cX8_status 63 = .ok (.getfield 277, 3) := by decide +kernel
theorem dX8_status_66 : decode cX8_status 66 = .ok (.ireturn, 1) := by decide +kernel
theorem dX8_status_67 : decode cX8_status 67 = .ok (.aload_n 0, 1) := by decide +kernel
theorem dX8_status_68 : decode cX8_status 68 = .ok (.getfield 280, 3) := by decide +kernel
theorem dX8_status_71 : decode cX8_status 71 = .ok (.ireturn, 1) := by decide +kernel
theorem dX8_status_72 : decode cX8_status 72 = .ok (.aload_n 0, 1) := by decide +kernel
theorem dX8_status_73 : decode cX8_status 73 = .ok (.getfield 74, 3) := by decide +kernel
theorem dX8_status_76 : decode cX8_status 76 = .ok (.ireturn, 1) := by decide +kernel
theorem dX8_status_77 : decode cX8_status 77 = .ok (.aload_n 0, 1) := by decide +kernel
theorem dX8_status_78 : decode cX8_status 78 = .ok (.getfield 289, 3) := by decide +kernel
theorem dX8_status_81 : decode cX8_status 81 = .ok (.ireturn, 1) := by decide +kernel
theorem dX8_status_82 : decode cX8_status 82 = .ok (.iload_n 1, 1) := by decide +kernel
theorem dX8_status_83 : decode cX8_status 83 = .ok (.bipush 11, 2) := by decide +kernel
theorem dX8_status_85 : decode cX8_status 85 = .ok (.bipush 17, 2) := by decide +kernel
theorem dX8_status_87 : decode cX8_status 87 = .ok (.invokestatic 88, 3) := by decide +kernel
theorem dX8_status_90 : decode cX8_status 90 = .ok (.ifCond .eq 15, 3) := by decide +kernel
theorem dX8_status_93 : decode cX8_status 93 = .ok (.aload_n 0, 1) := by decide +kernel
theorem dX8_status_94 : decode cX8_status 94 = .ok (.getfield 44, 3) := by decide +kernel
theorem dX8_status_97 : decode cX8_status 97 = .ok (.iload_n 1, 1) := by decide +kernel
theorem dX8_status_98 : decode cX8_status 98 = .ok (.bipush 10, 2) := by decide +kernel
theorem dX8_status_100 : decode cX8_status 100 = .ok (.isub, 1) := by decide +kernel
theorem dX8_status_101 : decode cX8_status 101 = .ok (.iaload, 1) := by decide +kernel
theorem dX8_status_102 : decode cX8_status 102 = .ok (.goto 4, 3) := by decide +kernel
theorem dX8_status_105 : decode cX8_status 105 = .ok (.iconst (-1), 1) := by decide +kernel
theorem dX8_status_106 : decode cX8_status 106 = .ok (.ireturn, 1) := by decide +kernel
def F8_status (p1 : Int32) (st : fkS) : Option (Int32 × fkS) :=
 if p1 = (0 : Int32) then
 (fk_let (gI st 0 0) <| fun x2 =>
 some (x2, st))
 else
 (if p1 = (1 : Int32) then
 (fk_chk (fk_in (p1 - (1 : Int32)) 3) <| fk_let (gA st 4 (p1 - (1 : Int32)).toNatClampNeg) <| fun x4 =>
 some (x4, st))
 else
 (if p1 = (2 : Int32) then
 (fk_chk (fk_in (p1 - (1 : Int32)) 3) <| fk_let (gA st 4 (p1 - (1 : Int32)).toNatClampNeg) <| fun x6 =>
 some (x6, st))
 else
 (if p1 = (3 : Int32) then
 (fk_chk (fk_in (p1 - (1 : Int32)) 3) <| fk_let (gA st 4 (p1 - (1 : Int32)).toNatClampNeg) <| fun x8 =>
 some (x8, st))
 else
 (if p1 = (4 : Int32) then
 (fk_let (gI st 6 0) <| fun x10 =>
 some (x10, st))
 else
 (if p1 = (5 : Int32) then
 (fk_let (gI st 7 0) <| fun x12 =>
 some (x12, st))
 else
 (if p1 = (6 : Int32) then
 (fk_let (gI st 8 0) <| fun x14 =>
 some (x14, st))
 else
 (if p1 = (7 : Int32) then
 (fk_let (gI st 17 0) <| fun x16 =>
 some (x16, st))
 else
 (fk_bind (F8_within p1 (11 : Int32) (17 : Int32) st) <| fun x17 st18 =>
 if x17 = 0 then
 (some ((-1 : Int32), st18))
 else
 (fk_chk (fk_in (p1 - (10 : Int32)) 8) <| fk_let (gA st18 12 (p1 - (10 : Int32)).toNatClampNeg) <| fun x19 =>
 some (x19, st18))))))))))
set_option maxHeartbeats 1000000 in
set_option maxRecDepth 20000 in
theorem C8_status (p1 : Int32) (st : fkS) {g : fkG} (l : Launch) (o : Int32 × fkS) (hF : F8_status p1 st = some o) : fk_C wM yX8_status cX8_status 2 (some (.int)) 1 22 l g [fk_r g 0, .int p1] st (fk_eI o.1) o.2 := by
  refine fk_begin rfl (Nat.le_of_ble_eq_true rfl) (fun k hk => ?_) o hF
  have hk : fk_ok wM g k RX8 cX8_status 2 (some (.int)) 1 22 := hk
  show fk_J wM g fk_eI k 0 [(0, fk_r g 0), (1, .int p1)] [] st (F8_status p1 st)
  unfold F8_status
  refine j_iload_n (pc := 0) hk 1 rfl dX8_status_0 ?_
  refine j_case (pc := 1) hk (fun n1 => ?_) (fun n1 => ?_)
  · refine j_tswIn (off := 47) (tgt := 48) (pc := 1) hk (by rw [n1]; decide) (by rw [n1]; decide) (by rw [n1]; decide) (by decide) dX8_status_1 ?_
    refine j_aload_n (pc := 48) hk 0 rfl ⟨_, rfl⟩ dX8_status_48 ?_
    refine f_8_85 (pc := 49) hk (rfl) dX8_status_49 (fun x2 => ?_)
    exact j_iret (pc := 52) hk dX8_status_52
  · refine j_case (pc := 1) hk (fun n3 => ?_) (fun n3 => ?_)
    · refine j_tswIn (off := 52) (tgt := 53) (pc := 1) hk (by rw [n3]; decide) (by rw [n3]; decide) (by rw [n3]; decide) (by decide) dX8_status_1 ?_
      refine j_aload_n (pc := 53) hk 0 rfl ⟨_, rfl⟩ dX8_status_53 ?_
      refine f_8_19 (pc := 54) hk (rfl) dX8_status_54 ?_
      refine j_iload_n (pc := 57) hk 1 rfl dX8_status_57 ?_
      refine j_iconst (pc := 58) hk dX8_status_58 (v := 1) (by decide) ?_
      refine j_isub (pc := 59) hk dX8_status_59 ?_
      refine a_iload (pc := 60) hk (isI_8_4) dX8_status_60 (fun x4 => ?_)
      exact j_iret (pc := 61) hk dX8_status_61
    · refine j_case (pc := 1) hk (fun n5 => ?_) (fun n5 => ?_)
      · refine j_tswIn (off := 52) (tgt := 53) (pc := 1) hk (by rw [n5]; decide) (by rw [n5]; decide) (by rw [n5]; decide) (by decide) dX8_status_1 ?_
        refine j_aload_n (pc := 53) hk 0 rfl ⟨_, rfl⟩ dX8_status_53 ?_
        refine f_8_19 (pc := 54) hk (rfl) dX8_status_54 ?_
        refine j_iload_n (pc := 57) hk 1 rfl dX8_status_57 ?_
        refine j_iconst (pc := 58) hk dX8_status_58 (v := 1) (by decide) ?_
        refine j_isub (pc := 59) hk dX8_status_59 ?_
        refine a_iload (pc := 60) hk (isI_8_4) dX8_status_60 (fun x6 => ?_)
        exact j_iret (pc := 61) hk dX8_status_61
      · refine j_case (pc := 1) hk (fun n7 => ?_) (fun n7 => ?_)
        · refine j_tswIn (off := 52) (tgt := 53) (pc := 1) hk (by rw [n7]; decide) (by rw [n7]; decide) (by rw [n7]; decide) (by decide) dX8_status_1 ?_
          refine j_aload_n (pc := 53) hk 0 rfl ⟨_, rfl⟩ dX8_status_53 ?_
          refine f_8_19 (pc := 54) hk (rfl) dX8_status_54 ?_
          refine j_iload_n (pc := 57) hk 1 rfl dX8_status_57 ?_
          refine j_iconst (pc := 58) hk dX8_status_58 (v := 1) (by decide) ?_
          refine j_isub (pc := 59) hk dX8_status_59 ?_
          refine a_iload (pc := 60) hk (isI_8_4) dX8_status_60 (fun x8 => ?_)
          exact j_iret (pc := 61) hk dX8_status_61
        · refine j_case (pc := 1) hk (fun n9 => ?_) (fun n9 => ?_)
          · refine j_tswIn (off := 61) (tgt := 62) (pc := 1) hk (by rw [n9]; decide) (by rw [n9]; decide) (by rw [n9]; decide) (by decide) dX8_status_1 ?_
            refine j_aload_n (pc := 62) hk 0 rfl ⟨_, rfl⟩ dX8_status_62 ?_
            refine f_8_277 (pc := 63) hk (rfl) dX8_status_63 (fun x10 => ?_)
            exact j_iret (pc := 66) hk dX8_status_66
          · refine j_case (pc := 1) hk (fun n11 => ?_) (fun n11 => ?_)
            · refine j_tswIn (off := 66) (tgt := 67) (pc := 1) hk (by rw [n11]; decide) (by rw [n11]; decide) (by rw [n11]; decide) (by decide) dX8_status_1 ?_
              refine j_aload_n (pc := 67) hk 0 rfl ⟨_, rfl⟩ dX8_status_67 ?_
              refine f_8_280 (pc := 68) hk (rfl) dX8_status_68 (fun x12 => ?_)
              exact j_iret (pc := 71) hk dX8_status_71
            · refine j_case (pc := 1) hk (fun n13 => ?_) (fun n13 => ?_)
              · refine j_tswIn (off := 71) (tgt := 72) (pc := 1) hk (by rw [n13]; decide) (by rw [n13]; decide) (by rw [n13]; decide) (by decide) dX8_status_1 ?_
                refine j_aload_n (pc := 72) hk 0 rfl ⟨_, rfl⟩ dX8_status_72 ?_
                refine f_8_74 (pc := 73) hk (rfl) dX8_status_73 (fun x14 => ?_)
                exact j_iret (pc := 76) hk dX8_status_76
              · refine j_case (pc := 1) hk (fun n15 => ?_) (fun n15 => ?_)
                · refine j_tswIn (off := 76) (tgt := 77) (pc := 1) hk (by rw [n15]; decide) (by rw [n15]; decide) (by rw [n15]; decide) (by decide) dX8_status_1 ?_
                  refine j_aload_n (pc := 77) hk 0 rfl ⟨_, rfl⟩ dX8_status_77 ?_
                  refine f_8_289 (pc := 78) hk (rfl) dX8_status_78 (fun x16 => ?_)
                  exact j_iret (pc := 81) hk dX8_status_81
                · have mn1 := lv_neT (a := 0) n1 (by decide)
                  have mn3 := lv_neT (a := 1) n3 (by decide)
                  have mn5 := lv_neT (a := 2) n5 (by decide)
                  have mn7 := lv_neT (a := 3) n7 (by decide)
                  have mn9 := lv_neT (a := 4) n9 (by decide)
                  have mn11 := lv_neT (a := 5) n11 (by decide)
                  have mn13 := lv_neT (a := 6) n13 (by decide)
                  have mn15 := lv_neT (a := 7) n15 (by decide)
                  refine j_tswOut (tgt := 82) (pc := 1) hk (by omega) (by decide) dX8_status_1 ?_
                  refine j_iload_n (pc := 82) hk 1 rfl dX8_status_82 ?_
                  refine j_bipush (pc := 83) hk dX8_status_83 (v := 11) (by decide) ?_
                  refine j_bipush (pc := 85) hk dX8_status_85 (v := 17) (by decide) ?_
                  refine j_callSi (pc := 87) hk [.int p1, .int (11 : Int32), .int (17 : Int32)] [] rfl (fun l o hq9 => C8_within p1 (11 : Int32) (17 : Int32) st l o hq9) yv_X8_within ml_8_88 rfl (Nat.le_of_ble_eq_true rfl) (Nat.le_of_ble_eq_true rfl) (Nat.le_of_ble_eq_true rfl) dX8_status_87 (fun x17 st18 => ?_)
                  refine j_if_eq (tgt := 105) (pc := 90) hk (by decide) dX8_status_90 (fun _ => ?_) (fun _ => ?_)
                  · refine j_iconst (pc := 105) hk dX8_status_105 (v := -1) (by decide) ?_
                    exact j_iret (pc := 106) hk dX8_status_106
                  · refine j_aload_n (pc := 93) hk 0 rfl ⟨_, rfl⟩ dX8_status_93 ?_
                    refine f_8_44 (pc := 94) hk (rfl) dX8_status_94 ?_
                    refine j_iload_n (pc := 97) hk 1 rfl dX8_status_97 ?_
                    refine j_bipush (pc := 98) hk dX8_status_98 (v := 10) (by decide) ?_
                    refine j_isub (pc := 100) hk dX8_status_100 ?_
                    refine a_iload (pc := 101) hk (isI_8_19) dX8_status_101 (fun x19 => ?_)
                    refine j_goto (tgt := 106) (pc := 102) hk (by decide) dX8_status_102 ?_
                    exact j_iret (pc := 106) hk dX8_status_106
