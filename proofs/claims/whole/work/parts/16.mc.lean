theorem dX7_years_0 : decode cX7_years 0 = .ok (.aload_n 0, 1) := by decide +kernel
theorem dX7_years_1 : decode cX7_years 1 = .ok (.getfield 18, 3) := by decide +kernel
theorem dX7_years_4 : decode cX7_years 4 = .ok (.getfield 171, 3) := by decide +kernel
theorem dX7_years_7 : decode cX7_years 7 = .ok (.ifCond .ne 10, 3) := by decide +kernel
theorem dX7_years_10 : decode cX7_years 10 = .ok (.aload_n 0, 1) := by decide +kernel
theorem dX7_years_11 : decode cX7_years 11 = .ok (.bipush (-5), 2) := by decide +kernel
theorem dX7_years_13 : decode cX7_years 13 = .ok (.invokevirtual 79, 3) := by decide +kernel
theorem dX7_years_16 : decode cX7_years 16 = .ok (.ireturn, 1) := by decide +kernel
theorem dX7_years_17 : decode cX7_years 17 = .ok (.iload_n 1, 1) := by decide +kernel
theorem dX7_years_18 : decode cX7_years 18 = .ok (.iconst 1, 1) := by decide +kernel
theorem dX7_years_19 : decode cX7_years 19 = .ok (.if_icmp .lt 9, 3) := by decide +kernel
theorem dX7_years_22 : decode cX7_years 22 = .ok (.iload_n 1, 1) := by decide +kernel
theorem dX7_years_23 : decode cX7_years 23 = .ok (.bipush 60, 2) := by decide +kernel
theorem dX7_years_25 : decode cX7_years 25 = .ok (.if_icmp .le 10, 3) := by decide +kernel
theorem dX7_years_28 : decode cX7_years 28 = .ok (.aload_n 0, 1) := by decide +kernel
theorem dX7_years_29 : decode cX7_years 29 = .ok (.bipush (-6), 2) := by decide +kernel
theorem dX7_years_31 : decode cX7_years 31 = .ok (.invokevirtual 79, 3) := by decide +kernel
theorem dX7_years_34 : decode cX7_years 34 = .ok (.ireturn, 1) := by decide +kernel
theorem dX7_years_35 : decode cX7_years 35 = .ok (.iconst 0, 1) := by decide +kernel
theorem dX7_years_36 : decode cX7_years 36 = .ok (.istore_n 2, 1) := by decide +kernel
theorem dX7_years_37 : decode cX7_years 37 = .ok (.iload_n 2, 1) := by decide +kernel
theorem dX7_years_38 : decode cX7_years 38 = .ok (.iload_n 1, 1) := by decide +kernel
theorem dX7_years_39 : decode cX7_years 39 = .ok (.if_icmp .ge 93, 3) := by decide +kernel
theorem dX7_years_42 : decode cX7_years 42 = .ok (.aload_n 0, 1) := by decide +kernel
theorem dX7_years_43 : decode cX7_years 43 = .ok (.getfield 18, 3) := by decide +kernel
theorem dX7_years_46 : decode cX7_years 46 = .ok (.aload_n 0, 1) := by decide +kernel
theorem dX7_years_47 : decode cX7_years 47 = .ok (.getfield 18, 3) := by decide +kernel
theorem dX7_years_50 : decode cX7_years 50 = .ok (.getfield 171, 3) := by decide +kernel
theorem dX7_years_53 : decode cX7_years 53 = .ok (.invokevirtual 302, 3) := by decide +kernel
theorem dX7_years_56 : decode cX7_years 56 = .ok (.istore_n 3, 1) := by decide +kernel
theorem dX7_years_57 : decode cX7_years 57 = .ok (.aload_n 0, 1) := by decide +kernel
theorem dX7_years_58 : decode cX7_years 58 = .ok (.getfield 18, 3) := by decide +kernel
theorem dX7_years_61 : decode cX7_years 61 = .ok (.aload_n 0, 1) := by decide +kernel
theorem dX7_years_62 : decode cX7_years 62 = .ok (.getfield 18, 3) := by decide +kernel
theorem dX7_years_65 : decode cX7_years 65 = .ok (.bipush 10, 2) := by decide +kernel
theorem dX7_years_67 : decode cX7_years 67 = .ok (.invokevirtual 302, 3) := by decide +kernel
theorem dX7_years_70 : decode cX7_years 70 = .ok (.putfield 178, 3) := by decide +kernel
theorem dX7_years_73 : decode cX7_years 73 = .ok (.aload_n 0, 1) := by decide +kernel
theorem dX7_years_74 : decode cX7_years 74 = .ok (.getfield 49, 3) := by decide +kernel
theorem dX7_years_77 : decode cX7_years 77 = .ok (.iconst 3, 1) := by decide +kernel
theorem dX7_years_78 : decode cX7_years 78 = .ok (.iconst 0, 1) := by decide +kernel
theorem dX7_years_79 : decode cX7_years 79 = .ok (.invokevirtual 155, 3) := by decide +kernel
theorem dX7_years_82 : decode cX7_years 82 = .ok (.iconst 0, 1) := by decide +kernel
theorem dX7_years_83 : decode cX7_years 83 = .ok (.istore 4, 2) := by decide +kernel
theorem dX7_years_85 : decode cX7_years 85 = .ok (.iload 4, 2) := by decide +kernel
theorem dX7_years_87 : decode cX7_years 87 = .ok (.aload_n 0, 1) := by decide +kernel
theorem dX7_years_88 : decode cX7_years 88 = .ok (.getfield 49, 3) := by decide +kernel
theorem dX7_years_91 : decode cX7_years 91 = .ok (.getfield 228, 3) := by decide +kernel
theorem dX7_years_94 : decode cX7_years 94 = .ok (.if_icmp .ge 27, 3) := by decide +kernel
theorem dX7_years_97 : decode cX7_years 97 = .ok (.aload_n 0, 1) := by decide +kernel
theorem dX7_years_98 : decode cX7_years 98 = .ok (.getfield 49, 3) := by decide +kernel
theorem dX7_years_101 : decode cX7_years 101 = .ok (.iload 4, 2) := by decide +kernel
theorem dX7_years_103 : decode cX7_years 103 = .ok (.aload_n 0, 1) := by decide +kernel
theorem dX7_years_104 : decode cX7_years 104 = .ok (.getfield 18, 3) := by decide +kernel
theorem dX7_years_107 : decode cX7_years 107 = .ok (.bipush 10, 2) := by decide +kernel
theorem dX7_years_109 : decode cX7_years 109 = .ok (.invokevirtual 302, 3) := by decide +kernel
theorem dX7_years_112 : decode cX7_years 112 = .ok (.invokevirtual 305, 3) := by decide +kernel
theorem dX7_years_115 : decode cX7_years 115 = .ok (.iinc 4 1, 3) := by decide +kernel
theorem dX7_years_118 : decode cX7_years 118 = .ok (.goto (-33), 3) := by decide +kernel
theorem dX7_years_121 : decode cX7_years 121 = .ok (.aload_n 0, 1) := by decide +kernel
theorem dX7_years_122 : decode cX7_years 122 = .ok (.iload_n 3, 1) := by decide +kernel
theorem dX7_years_123 : decode cX7_years 123 = .ok (.invokevirtual 299, 3) := by decide +kernel
theorem dX7_years_126 : decode cX7_years 126 = .ok (.iinc 2 1, 3) := by decide +kernel
theorem dX7_years_129 : decode cX7_years 129 = .ok (.goto (-92), 3) := by decide +kernel
theorem dX7_years_132 : decode cX7_years 132 = .ok (.aload_n 0, 1) := by decide +kernel
theorem dX7_years_133 : decode cX7_years 133 = .ok (.getfield 18, 3) := by decide +kernel
theorem dX7_years_136 : decode cX7_years 136 = .ok (.getfield 308, 3) := by decide +kernel
theorem dX7_years_139 : decode cX7_years 139 = .ok (.ireturn, 1) := by decide +kernel
def B7_years_28 (st : fkS) : Option (Int32 × fkS) :=
 fk_bind (F7_refuse (-6 : Int32) st) <| fun x4 st5 =>
 some (x4, st5)
set_option maxHeartbeats 1000000 in
set_option maxRecDepth 20000 in
theorem T7_years_28 {g : fkG} {k : fkK} (hk : fk_ok wC g k RX7 cX7_years 5 (some (.int)) 4 164) : ∀ (st : fkS), fk_J wC g fk_eI k 28 [(0, fk_r g 0)] [] st (B7_years_28 st) := by
  intro st
  unfold B7_years_28
  refine j_aload_n (pc := 28) hk 0 rfl ⟨_, rfl⟩ dX7_years_28 ?_
  refine j_bipush (pc := 29) hk dX7_years_29 (v := -6) (by decide) ?_
  refine j_callVi (pc := 31) hk [.int (-6 : Int32)] [] rfl (fun l o hq9 => C7_refuse (-6 : Int32) st l o hq9) (rcv_7 (rfl)) yv_X7_refuse ml_7_79 rfl (Nat.le_of_ble_eq_true rfl) (Nat.le_of_ble_eq_true rfl) (Nat.le_of_ble_eq_true rfl) dX7_years_31 (fun x4 st5 => ?_)
  exact j_iret (pc := 34) hk dX7_years_34
def B7_years_85 (k37 : Int32 → Int32 → fkS → Option (Int32 × fkS)) (k85 : Int32 → Int32 → Int32 → Int32 → fkS → Option (Int32 × fkS)) (v1 : Int32) (v2 : Int32) (v3 : Int32) (v4 : Int32) (st : fkS) : Option (Int32 × fkS) :=
 fk_let (gI st 61 38) <| fun x14 =>
 if x14 ≤ v4 then
 (fk_bind (F7_bakeInTruth v3 st) <| fun _ st15 =>
 k37 v1 (v2 + (1 : Int32)) st15)
 else
 (fk_bind (F0_draw 19 (10 : Int32) st) <| fun x16 st17 =>
 fk_bind (F3_setLayer v4 x16 st17) <| fun _ st18 =>
 k85 v1 v2 v3 (v4 + (1 : Int32)) st18)
set_option maxHeartbeats 1000000 in
set_option maxRecDepth 20000 in
theorem T7_years_85 {g : fkG} {k : fkK} (hk : fk_ok wC g k RX7 cX7_years 5 (some (.int)) 4 164) (k37 : Int32 → Int32 → fkS → Option (Int32 × fkS)) (H37 : ∀ (v1 : Int32) (v2 : Int32) (st : fkS), fk_J wC g fk_eI k 37 [(0, fk_r g 0), (1, .int v1), (2, .int v2)] [] st (k37 v1 v2 st)) (k85 : Int32 → Int32 → Int32 → Int32 → fkS → Option (Int32 × fkS)) (H85 : ∀ (v1 : Int32) (v2 : Int32) (v3 : Int32) (v4 : Int32) (st : fkS), fk_J wC g fk_eI k 85 [(0, fk_r g 0), (1, .int v1), (2, .int v2), (3, .int v3), (4, .int v4)] [] st (k85 v1 v2 v3 v4 st)) : ∀ (v1 : Int32) (v2 : Int32) (v3 : Int32) (v4 : Int32) (st : fkS), fk_J wC g fk_eI k 85 [(0, fk_r g 0), (1, .int v1), (2, .int v2), (3, .int v3), (4, .int v4)] [] st (B7_years_85 k37 k85 v1 v2 v3 v4 st) := by
  intro v1 v2 v3 v4 st
  unfold B7_years_85
  refine j_iload (pc := 85) hk 4 rfl dX7_years_85 ?_
  refine j_aload_n (pc := 87) hk 0 rfl ⟨_, rfl⟩ dX7_years_87 ?_
  refine f_7_49 (pc := 88) hk (rfl) dX7_years_88 ?_
  refine f_7_228 (pc := 91) hk (rfl) dX7_years_91 (fun x14 => ?_)
  refine j_icmp_ge (tgt := 121) (pc := 94) hk (by decide) dX7_years_94 (fun _ => ?_) (fun _ => ?_)
  · refine j_aload_n (pc := 121) hk 0 rfl ⟨_, rfl⟩ dX7_years_121 ?_
    refine j_iload_n (pc := 122) hk 3 rfl dX7_years_122 ?_
    refine j_callVv (pc := 123) hk [.int v3] [] rfl (fun l o hq9 => C7_bakeInTruth v3 st l o hq9) (rcv_7 (rfl)) yv_X7_bakeInTruth ml_7_299 rfl (Nat.le_of_ble_eq_true rfl) (Nat.le_of_ble_eq_true rfl) (Nat.le_of_ble_eq_true rfl) dX7_years_123 (fun _ st15 => ?_)
    refine j_iinc (dd := (1 : Int32)) (lv' := ((2, .int (v2 + (1 : Int32))) :: [(0, fk_r g 0), (1, .int v1), (3, .int v3), (4, .int v4)])) (pc := 126) hk 2 rfl (by decide) (by decide) rfl dX7_years_126 ?_
    refine j_sub hk (lv' := [(0, fk_r g 0), (1, .int v1), (2, .int (v2 + (1 : Int32))), (3, .int v3), (4, .int v4)]) [1, 2, 0, 3, 4] rfl ?_
    refine j_goto (tgt := 37) (pc := 129) hk (by decide) dX7_years_129 ?_
    exact j_sub hk [0, 1, 2] rfl (H37 v1 (v2 + (1 : Int32)) st15)
  · refine j_aload_n (pc := 97) hk 0 rfl ⟨_, rfl⟩ dX7_years_97 ?_
    refine f_7_49 (pc := 98) hk (rfl) dX7_years_98 ?_
    refine j_iload (pc := 101) hk 4 rfl dX7_years_101 ?_
    refine j_aload_n (pc := 103) hk 0 rfl ⟨_, rfl⟩ dX7_years_103 ?_
    refine f_7_18 (pc := 104) hk (rfl) dX7_years_104 ?_
    refine j_bipush (pc := 107) hk dX7_years_107 (v := 10) (by decide) ?_
    refine j_callVNi (pc := 109) hk [.int (10 : Int32)] [.int v4, fk_r g 38] rfl (fun l o hq9 => C0_draw 19 (rfl) (10 : Int32) st l o hq9) (rcv_0 (rfl)) yv_X0_draw ml_7_302 rfl (Nat.le_of_ble_eq_true rfl) (Nat.le_of_ble_eq_true rfl) (Nat.le_of_ble_eq_true rfl) dX7_years_109 (fun x16 st17 => ?_)
    refine j_callVNv (pc := 112) hk [.int v4, .int x16] [] rfl (fun l o hq9 => C3_setLayer v4 x16 st17 l o hq9) (rcv_3 (rfl)) yv_X3_setLayer ml_7_305 rfl (Nat.le_of_ble_eq_true rfl) (Nat.le_of_ble_eq_true rfl) (Nat.le_of_ble_eq_true rfl) dX7_years_112 (fun _ st18 => ?_)
    refine j_iinc (dd := (1 : Int32)) (lv' := ((4, .int (v4 + (1 : Int32))) :: [(0, fk_r g 0), (1, .int v1), (2, .int v2), (3, .int v3)])) (pc := 115) hk 4 rfl (by decide) (by decide) rfl dX7_years_115 ?_
    refine j_sub hk (lv' := [(0, fk_r g 0), (1, .int v1), (2, .int v2), (3, .int v3), (4, .int (v4 + (1 : Int32)))]) [1, 2, 3, 4, 0] rfl ?_
    refine j_goto (tgt := 85) (pc := 118) hk (by decide) dX7_years_118 ?_
    exact j_sub hk [0, 1, 2, 3, 4] rfl (H85 v1 v2 v3 (v4 + (1 : Int32)) st18)
set_option maxHeartbeats 1000000 in
set_option maxRecDepth 20000 in
theorem L7_years_85 {g : fkG} {k : fkK} (hk : fk_ok wC g k RX7 cX7_years 5 (some (.int)) 4 164) (k37 : Int32 → Int32 → fkS → Option (Int32 × fkS)) (H37 : ∀ (v1 : Int32) (v2 : Int32) (st : fkS), fk_J wC g fk_eI k 37 [(0, fk_r g 0), (1, .int v1), (2, .int v2)] [] st (k37 v1 v2 st)) (fu : Nat) : ∀ (v1 : Int32) (v2 : Int32) (v3 : Int32) (v4 : Int32) (st : fkS), fk_J wC g fk_eI k 85 [(0, fk_r g 0), (1, .int v1), (2, .int v2), (3, .int v3), (4, .int v4)] [] st (fk_lp4 (B7_years_85 k37) fu v1 v2 v3 v4 st) := by
  induction fu with
  | zero =>
    intro v1 v2 v3 v4 st
    exact j_none hk
  | succ fu ih =>
    exact T7_years_85 hk k37 H37 _ ih
def B7_years_37 (k37 : Int32 → Int32 → fkS → Option (Int32 × fkS)) (v1 : Int32) (v2 : Int32) (st : fkS) : Option (Int32 × fkS) :=
 if v1 ≤ v2 then
 (fk_let (gI st 9 19) <| fun x6 =>
 some (x6, st))
 else
 (fk_let (gI st 0 19) <| fun x7 =>
 fk_bind (F0_draw 19 x7 st) <| fun x8 st9 =>
 fk_bind (F0_draw 19 (10 : Int32) st9) <| fun x10 st11 =>
 fk_let (sI st11 5 19 x10) <| fun st12 =>
 fk_bind (F3_setByNumber (3 : Int32) (0 : Int32) st12) <| fun _ st13 =>
 fk_lp4 (B7_years_85 k37) fk_fuel v1 v2 x8 (0 : Int32) st13)
set_option maxHeartbeats 1000000 in
set_option maxRecDepth 20000 in
theorem T7_years_37 {g : fkG} {k : fkK} (hk : fk_ok wC g k RX7 cX7_years 5 (some (.int)) 4 164) (k37 : Int32 → Int32 → fkS → Option (Int32 × fkS)) (H37 : ∀ (v1 : Int32) (v2 : Int32) (st : fkS), fk_J wC g fk_eI k 37 [(0, fk_r g 0), (1, .int v1), (2, .int v2)] [] st (k37 v1 v2 st)) : ∀ (v1 : Int32) (v2 : Int32) (st : fkS), fk_J wC g fk_eI k 37 [(0, fk_r g 0), (1, .int v1), (2, .int v2)] [] st (B7_years_37 k37 v1 v2 st) := by
  intro v1 v2 st
  unfold B7_years_37
  refine j_iload_n (pc := 37) hk 2 rfl dX7_years_37 ?_
  refine j_iload_n (pc := 38) hk 1 rfl dX7_years_38 ?_
  refine j_icmp_ge (tgt := 132) (pc := 39) hk (by decide) dX7_years_39 (fun _ => ?_) (fun _ => ?_)
  · refine j_aload_n (pc := 132) hk 0 rfl ⟨_, rfl⟩ dX7_years_132 ?_
    refine f_7_18 (pc := 133) hk (rfl) dX7_years_133 ?_
    refine f_7_308 (pc := 136) hk (rfl) dX7_years_136 (fun x6 => ?_)
    exact j_iret (pc := 139) hk dX7_years_139
  · refine j_aload_n (pc := 42) hk 0 rfl ⟨_, rfl⟩ dX7_years_42 ?_
    refine f_7_18 (pc := 43) hk (rfl) dX7_years_43 ?_
    refine j_aload_n (pc := 46) hk 0 rfl ⟨_, rfl⟩ dX7_years_46 ?_
    refine f_7_18 (pc := 47) hk (rfl) dX7_years_47 ?_
    refine f_7_171 (pc := 50) hk (rfl) dX7_years_50 (fun x7 => ?_)
    refine j_callVNi (pc := 53) hk [.int x7] [] rfl (fun l o hq9 => C0_draw 19 (rfl) x7 st l o hq9) (rcv_0 (rfl)) yv_X0_draw ml_7_302 rfl (Nat.le_of_ble_eq_true rfl) (Nat.le_of_ble_eq_true rfl) (Nat.le_of_ble_eq_true rfl) dX7_years_53 (fun x8 st9 => ?_)
    refine j_istore_n (lv' := ((3, .int x8) :: [(0, fk_r g 0), (1, .int v1), (2, .int v2)])) (pc := 56) hk rfl (by decide) rfl dX7_years_56 ?_
    refine j_sub hk (lv' := [(0, fk_r g 0), (1, .int v1), (2, .int v2), (3, .int x8)]) [1, 2, 3, 0] rfl ?_
    refine j_aload_n (pc := 57) hk 0 rfl ⟨_, rfl⟩ dX7_years_57 ?_
    refine f_7_18 (pc := 58) hk (rfl) dX7_years_58 ?_
    refine j_aload_n (pc := 61) hk 0 rfl ⟨_, rfl⟩ dX7_years_61 ?_
    refine f_7_18 (pc := 62) hk (rfl) dX7_years_62 ?_
    refine j_bipush (pc := 65) hk dX7_years_65 (v := 10) (by decide) ?_
    refine j_callVNi (pc := 67) hk [.int (10 : Int32)] [fk_r g 19] rfl (fun l o hq9 => C0_draw 19 (rfl) (10 : Int32) st9 l o hq9) (rcv_0 (rfl)) yv_X0_draw ml_7_302 rfl (Nat.le_of_ble_eq_true rfl) (Nat.le_of_ble_eq_true rfl) (Nat.le_of_ble_eq_true rfl) dX7_years_67 (fun x10 st11 => ?_)
    refine p_7_178 (pc := 70) hk (rfl) dX7_years_70 (fun st12 => ?_)
    refine j_aload_n (pc := 73) hk 0 rfl ⟨_, rfl⟩ dX7_years_73 ?_
    refine f_7_49 (pc := 74) hk (rfl) dX7_years_74 ?_
    refine j_iconst (pc := 77) hk dX7_years_77 (v := 3) (by decide) ?_
    refine j_iconst (pc := 78) hk dX7_years_78 (v := 0) (by decide) ?_
    refine j_callVNv (pc := 79) hk [.int (3 : Int32), .int (0 : Int32)] [] rfl (fun l o hq9 => C3_setByNumber (3 : Int32) (0 : Int32) st12 l o hq9) (rcv_3 (rfl)) yv_X3_setByNumber ml_7_155 rfl (Nat.le_of_ble_eq_true rfl) (Nat.le_of_ble_eq_true rfl) (Nat.le_of_ble_eq_true rfl) dX7_years_79 (fun _ st13 => ?_)
    refine j_iconst (pc := 82) hk dX7_years_82 (v := 0) (by decide) ?_
    refine j_istore (lv' := ((4, .int (0 : Int32)) :: [(0, fk_r g 0), (1, .int v1), (2, .int v2), (3, .int x8)])) (pc := 83) hk (by decide) rfl dX7_years_83 ?_
    refine j_sub hk (lv' := [(0, fk_r g 0), (1, .int v1), (2, .int v2), (3, .int x8), (4, .int (0 : Int32))]) [1, 2, 3, 4, 0] rfl ?_
    exact j_sub hk [0, 1, 2, 3, 4] rfl (L7_years_85 hk k37 H37 fk_fuel v1 v2 x8 (0 : Int32) st13)
set_option maxHeartbeats 1000000 in
set_option maxRecDepth 20000 in
theorem L7_years_37 {g : fkG} {k : fkK} (hk : fk_ok wC g k RX7 cX7_years 5 (some (.int)) 4 164) (fu : Nat) : ∀ (v1 : Int32) (v2 : Int32) (st : fkS), fk_J wC g fk_eI k 37 [(0, fk_r g 0), (1, .int v1), (2, .int v2)] [] st (fk_lp2 (B7_years_37) fu v1 v2 st) := by
  induction fu with
  | zero =>
    intro v1 v2 st
    exact j_none hk
  | succ fu ih =>
    exact T7_years_37 hk _ ih
def F7_years (p1 : Int32) (st : fkS) : Option (Int32 × fkS) :=
 fk_let (gI st 0 19) <| fun x1 =>
 if x1 = 0 then
 (fk_bind (F7_refuse (-5 : Int32) st) <| fun x2 st3 =>
 some (x2, st3))
 else
 (if p1 < (1 : Int32) then
 (B7_years_28 st)
 else
 (if p1 ≤ (60 : Int32) then
 (fk_lp2 (B7_years_37) fk_fuel p1 (0 : Int32) st)
 else
 (B7_years_28 st)))
set_option maxHeartbeats 1000000 in
set_option maxRecDepth 20000 in
theorem C7_years (p1 : Int32) (st : fkS) {g : fkG} (l : Launch) (o : Int32 × fkS) (hF : F7_years p1 st = some o) : fk_C wC yX7_years cX7_years 5 (some (.int)) 4 164 l g [fk_r g 0, .int p1] st (fk_eI o.1) o.2 := by
  refine fk_begin rfl (Nat.le_of_ble_eq_true rfl) (fun k hk => ?_) o hF
  have hk : fk_ok wC g k RX7 cX7_years 5 (some (.int)) 4 164 := hk
  show fk_J wC g fk_eI k 0 [(0, fk_r g 0), (1, .int p1)] [] st (F7_years p1 st)
  unfold F7_years
  refine j_aload_n (pc := 0) hk 0 rfl ⟨_, rfl⟩ dX7_years_0 ?_
  refine f_7_18 (pc := 1) hk (rfl) dX7_years_1 ?_
  refine f_7_171 (pc := 4) hk (rfl) dX7_years_4 (fun x1 => ?_)
  refine j_if_ne (tgt := 17) (pc := 7) hk (by decide) dX7_years_7 (fun _ => ?_) (fun _ => ?_)
  · refine j_aload_n (pc := 10) hk 0 rfl ⟨_, rfl⟩ dX7_years_10 ?_
    refine j_bipush (pc := 11) hk dX7_years_11 (v := -5) (by decide) ?_
    refine j_callVi (pc := 13) hk [.int (-5 : Int32)] [] rfl (fun l o hq9 => C7_refuse (-5 : Int32) st l o hq9) (rcv_7 (rfl)) yv_X7_refuse ml_7_79 rfl (Nat.le_of_ble_eq_true rfl) (Nat.le_of_ble_eq_true rfl) (Nat.le_of_ble_eq_true rfl) dX7_years_13 (fun x2 st3 => ?_)
    exact j_iret (pc := 16) hk dX7_years_16
  · refine j_iload_n (pc := 17) hk 1 rfl dX7_years_17 ?_
    refine j_iconst (pc := 18) hk dX7_years_18 (v := 1) (by decide) ?_
    refine j_icmp_lt (tgt := 28) (pc := 19) hk (by decide) dX7_years_19 (fun _ => ?_) (fun _ => ?_)
    · exact j_sub hk [0] rfl (T7_years_28 hk st)
    · refine j_iload_n (pc := 22) hk 1 rfl dX7_years_22 ?_
      refine j_bipush (pc := 23) hk dX7_years_23 (v := 60) (by decide) ?_
      refine j_icmp_le (tgt := 35) (pc := 25) hk (by decide) dX7_years_25 (fun _ => ?_) (fun _ => ?_)
      · refine j_iconst (pc := 35) hk dX7_years_35 (v := 0) (by decide) ?_
        refine j_istore_n (lv' := ((2, .int (0 : Int32)) :: [(0, fk_r g 0), (1, .int p1)])) (pc := 36) hk rfl (by decide) rfl dX7_years_36 ?_
        refine j_sub hk (lv' := [(0, fk_r g 0), (1, .int p1), (2, .int (0 : Int32))]) [1, 2, 0] rfl ?_
        exact j_sub hk [0, 1, 2] rfl (L7_years_37 hk fk_fuel p1 (0 : Int32) st)
      · exact j_sub hk [0] rfl (T7_years_28 hk st)
theorem dX7_seed_0 : decode cX7_seed 0 = .ok (.aload_n 0, 1) := by decide +kernel
theorem dX7_seed_1 : decode cX7_seed 1 = .ok (.getfield 18, 3) := by decide +kernel
theorem dX7_seed_4 : decode cX7_seed 4 = .ok (.getfield 311, 3) := by decide +kernel
theorem dX7_seed_7 : decode cX7_seed 7 = .ok (.istore_n 2, 1) := by decide +kernel
theorem dX7_seed_8 : decode cX7_seed 8 = .ok (.aload_n 0, 1) := by decide +kernel
theorem dX7_seed_9 : decode cX7_seed 9 = .ok (.getfield 18, 3) := by decide +kernel
theorem dX7_seed_12 : decode cX7_seed 12 = .ok (.iload_n 1, 1) := by decide +kernel
theorem dX7_seed_13 : decode cX7_seed 13 = .ok (.putfield 311, 3) := by decide +kernel
theorem dX7_seed_16 : decode cX7_seed 16 = .ok (.iload_n 2, 1) := by decide +kernel
theorem dX7_seed_17 : decode cX7_seed 17 = .ok (.ireturn, 1) := by decide +kernel
def F7_seed (p1 : Int32) (st : fkS) : Option (Int32 × fkS) :=
 fk_let (gI st 10 19) <| fun x1 =>
 fk_let (sI st 10 19 p1) <| fun st2 =>
 some (x1, st2)
set_option maxHeartbeats 1000000 in
set_option maxRecDepth 20000 in
theorem C7_seed (p1 : Int32) (st : fkS) {g : fkG} (l : Launch) (o : Int32 × fkS) (hF : F7_seed p1 st = some o) : fk_C wC yX7_seed cX7_seed 3 (some (.int)) 0 0 l g [fk_r g 0, .int p1] st (fk_eI o.1) o.2 := by
  refine fk_begin rfl (Nat.le_of_ble_eq_true rfl) (fun k hk => ?_) o hF
  have hk : fk_ok wC g k RX7 cX7_seed 3 (some (.int)) 0 0 := hk
  show fk_J wC g fk_eI k 0 [(0, fk_r g 0), (1, .int p1)] [] st (F7_seed p1 st)
  unfold F7_seed
  refine j_aload_n (pc := 0) hk 0 rfl ⟨_, rfl⟩ dX7_seed_0 ?_
  refine f_7_18 (pc := 1) hk (rfl) dX7_seed_1 ?_
  refine f_7_311 (pc := 4) hk (rfl) dX7_seed_4 (fun x1 => ?_)
  refine j_istore_n (lv' := ((2, .int x1) :: [(0, fk_r g 0), (1, .int p1)])) (pc := 7) hk rfl (by decide) rfl dX7_seed_7 ?_
  refine j_sub hk (lv' := [(0, fk_r g 0), (1, .int p1), (2, .int x1)]) [1, 2, 0] rfl ?_
  refine j_aload_n (pc := 8) hk 0 rfl ⟨_, rfl⟩ dX7_seed_8 ?_
  refine f_7_18 (pc := 9) hk (rfl) dX7_seed_9 ?_
  refine j_iload_n (pc := 12) hk 1 rfl dX7_seed_12 ?_
  refine p_7_311 (pc := 13) hk (rfl) dX7_seed_13 (fun st2 => ?_)
  refine j_iload_n (pc := 16) hk 2 rfl dX7_seed_16 ?_
  exact j_iret (pc := 17) hk dX7_seed_17
theorem dX7_act_0 : decode cX7_act 0 = .ok (.aload_n 0, 1) := by decide +kernel
theorem dX7_act_1 : decode cX7_act 1 = .ok (.getfield 42, 3) := by decide +kernel
theorem dX7_act_4 : decode cX7_act 4 = .ok (.invokevirtual 314, 3) := by decide +kernel
theorem dX7_act_7 : decode cX7_act 7 = .ok (.aload_n 0, 1) := by decide +kernel
theorem dX7_act_8 : decode cX7_act 8 = .ok (.getfield 18, 3) := by decide +kernel
theorem dX7_act_11 : decode cX7_act 11 = .ok (.iload_n 1, 1) := by decide +kernel
theorem dX7_act_12 : decode cX7_act 12 = .ok (.invokevirtual 126, 3) := by decide +kernel
theorem dX7_act_15 : decode cX7_act 15 = .ok (.ifCond .ne 12, 3) := by decide +kernel
theorem dX7_act_18 : decode cX7_act 18 = .ok (.iload_n 2, 1) := by decide +kernel
theorem dX7_act_19 : decode cX7_act 19 = .ok (.ifCond .lt 8, 3) := by decide +kernel
theorem dX7_act_22 : decode cX7_act 22 = .ok (.iload_n 2, 1) := by decide +kernel
theorem dX7_act_23 : decode cX7_act 23 = .ok (.iconst 2, 1) := by decide +kernel
theorem dX7_act_24 : decode cX7_act 24 = .ok (.if_icmp .le 5, 3) := by decide +kernel
theorem dX7_act_27 : decode cX7_act 27 = .ok (.iconst 0, 1) := by decide +kernel
theorem dX7_act_28 : decode cX7_act 28 = .ok (.ireturn, 1) := by decide +kernel
theorem dX7_act_29 : decode cX7_act 29 = .ok (.aload_n 0, 1) := by decide +kernel
theorem dX7_act_30 : decode cX7_act 30 = .ok (.getfield 42, 3) := by decide +kernel
theorem dX7_act_33 : decode cX7_act 33 = .ok (.aload_n 0, 1) := by decide +kernel
theorem dX7_act_34 : decode cX7_act 34 = .ok (.getfield 18, 3) := by decide +kernel
theorem dX7_act_37 : decode cX7_act 37 = .ok (.iload_n 1, 1) := by decide +kernel
theorem dX7_act_38 : decode cX7_act 38 = .ok (.invokevirtual 317, 3) := by decide +kernel
theorem dX7_act_41 : decode cX7_act 41 = .ok (.aload_n 0, 1) := by decide +kernel
theorem dX7_act_42 : decode cX7_act 42 = .ok (.getfield 42, 3) := by decide +kernel
theorem dX7_act_45 : decode cX7_act 45 = .ok (.iload_n 2, 1) := by decide +kernel
theorem dX7_act_46 : decode cX7_act 46 = .ok (.aload_n 0, 1) := by decide +kernel
theorem dX7_act_47 : decode cX7_act 47 = .ok (.getfield 42, 3) := by decide +kernel
theorem dX7_act_50 : decode cX7_act 50 = .ok (.getfield 318, 3) := by decide +kernel
theorem dX7_act_53 : decode cX7_act 53 = .ok (.iload_n 3, 1) := by decide +kernel
theorem dX7_act_54 : decode cX7_act 54 = .ok (.iconst 0, 1) := by decide +kernel
theorem dX7_act_55 : decode cX7_act 55 = .ok (.invokestatic 321, 3) := by decide +kernel
theorem dX7_act_58 : decode cX7_act 58 = .ok (.ireturn, 1) := by decide +kernel
def F7_act (p1 : Int32) (p2 : Int32) (p3 : Int32) (st : fkS) : Option (Int32 × fkS) :=
 fk_bind (F1_forget st) <| fun _ st1 =>
 fk_bind (F0_lacks 19 p1 st1) <| fun x2 st3 =>
 if x2 = 0 then
 (if p2 < 0 then
 (some ((0 : Int32), st3))
 else
 (if p2 ≤ (2 : Int32) then
 (fk_bind (F1_take 19 p1 st3) <| fun _ st4 =>
 fk_let (gI st4 22 36) <| fun x5 =>
 fk_bind (F1_run p2 x5 p3 (0 : Int32) st4) <| fun x6 st7 =>
 some (x6, st7))
 else
 (some ((0 : Int32), st3))))
 else
 (some ((0 : Int32), st3))
set_option maxHeartbeats 1000000 in
set_option maxRecDepth 20000 in
theorem C7_act (p1 : Int32) (p2 : Int32) (p3 : Int32) (st : fkS) {g : fkG} (l : Launch) (o : Int32 × fkS) (hF : F7_act p1 p2 p3 st = some o) : fk_C wC yX7_act cX7_act 4 (some (.int)) 14 362 l g [fk_r g 0, .int p1, .int p2, .int p3] st (fk_eI o.1) o.2 := by
  refine fk_begin rfl (Nat.le_of_ble_eq_true rfl) (fun k hk => ?_) o hF
  have hk : fk_ok wC g k RX7 cX7_act 4 (some (.int)) 14 362 := hk
  show fk_J wC g fk_eI k 0 [(0, fk_r g 0), (1, .int p1), (2, .int p2), (3, .int p3)] [] st (F7_act p1 p2 p3 st)
  unfold F7_act
  refine j_aload_n (pc := 0) hk 0 rfl ⟨_, rfl⟩ dX7_act_0 ?_
  refine f_7_42 (pc := 1) hk (rfl) dX7_act_1 ?_
  refine j_callVNv (pc := 4) hk [] [] rfl (fun l o hq9 => C1_forget st l o hq9) (rcv_1 (rfl)) yv_X1_forget ml_7_314 rfl (Nat.le_of_ble_eq_true rfl) (Nat.le_of_ble_eq_true rfl) (Nat.le_of_ble_eq_true rfl) dX7_act_4 (fun _ st1 => ?_)
  refine j_aload_n (pc := 7) hk 0 rfl ⟨_, rfl⟩ dX7_act_7 ?_
  refine f_7_18 (pc := 8) hk (rfl) dX7_act_8 ?_
  refine j_iload_n (pc := 11) hk 1 rfl dX7_act_11 ?_
  refine j_callVNi (pc := 12) hk [.int p1] [] rfl (fun l o hq9 => C0_lacks 19 (rfl) p1 st1 l o hq9) (rcv_0 (rfl)) yv_X0_lacks ml_7_126 rfl (Nat.le_of_ble_eq_true rfl) (Nat.le_of_ble_eq_true rfl) (Nat.le_of_ble_eq_true rfl) dX7_act_12 (fun x2 st3 => ?_)
  refine j_if_ne (tgt := 27) (pc := 15) hk (by decide) dX7_act_15 (fun _ => ?_) (fun _ => ?_)
  · refine j_iload_n (pc := 18) hk 2 rfl dX7_act_18 ?_
    refine j_if_lt (tgt := 27) (pc := 19) hk (by decide) dX7_act_19 (fun _ => ?_) (fun _ => ?_)
    · refine j_iconst (pc := 27) hk dX7_act_27 (v := 0) (by decide) ?_
      exact j_iret (pc := 28) hk dX7_act_28
    · refine j_iload_n (pc := 22) hk 2 rfl dX7_act_22 ?_
      refine j_iconst (pc := 23) hk dX7_act_23 (v := 2) (by decide) ?_
      refine j_icmp_le (tgt := 29) (pc := 24) hk (by decide) dX7_act_24 (fun _ => ?_) (fun _ => ?_)
      · refine j_aload_n (pc := 29) hk 0 rfl ⟨_, rfl⟩ dX7_act_29 ?_
        refine f_7_42 (pc := 30) hk (rfl) dX7_act_30 ?_
        refine j_aload_n (pc := 33) hk 0 rfl ⟨_, rfl⟩ dX7_act_33 ?_
        refine f_7_18 (pc := 34) hk (rfl) dX7_act_34 ?_
        refine j_iload_n (pc := 37) hk 1 rfl dX7_act_37 ?_
        refine j_callVNv (pc := 38) hk [fk_r g 19, .int p1] [] rfl (fun l o hq9 => C1_take 19 (rfl) p1 st3 l o hq9) (rcv_1 (rfl)) yv_X1_take ml_7_317 rfl (Nat.le_of_ble_eq_true rfl) (Nat.le_of_ble_eq_true rfl) (Nat.le_of_ble_eq_true rfl) dX7_act_38 (fun _ st4 => ?_)
        refine j_aload_n (pc := 41) hk 0 rfl ⟨_, rfl⟩ dX7_act_41 ?_
        refine f_7_42 (pc := 42) hk (rfl) dX7_act_42 ?_
        refine j_iload_n (pc := 45) hk 2 rfl dX7_act_45 ?_
        refine j_aload_n (pc := 46) hk 0 rfl ⟨_, rfl⟩ dX7_act_46 ?_
        refine f_7_42 (pc := 47) hk (rfl) dX7_act_47 ?_
        refine f_7_318 (pc := 50) hk (rfl) dX7_act_50 (fun x5 => ?_)
        refine j_iload_n (pc := 53) hk 3 rfl dX7_act_53 ?_
        refine j_iconst (pc := 54) hk dX7_act_54 (v := 0) (by decide) ?_
        refine j_callSNi (pc := 55) hk [fk_r g 36, .int p2, .int x5, .int p3, .int (0 : Int32)] [] rfl (fun l o hq9 => C1_run p2 x5 p3 (0 : Int32) st4 l o hq9) yv_X1_run ml_7_321 rfl (Nat.le_of_ble_eq_true rfl) (Nat.le_of_ble_eq_true rfl) (Nat.le_of_ble_eq_true rfl) dX7_act_55 (fun x6 st7 => ?_)
        exact j_iret (pc := 58) hk dX7_act_58
      · refine j_iconst (pc := 27) hk dX7_act_27 (v := 0) (by decide) ?_
        exact j_iret (pc := 28) hk dX7_act_28
  · refine j_iconst (pc := 27) hk dX7_act_27 (v := 0) (by decide) ?_
    exact j_iret (pc := 28) hk dX7_act_28
theorem dX7_trace_0 : decode cX7_trace 0 = .ok (.iload_n 1, 1) := by decide +kernel
theorem dX7_trace_1 : decode cX7_trace 1 = .ok (.ifCond .lt 14, 3) := by decide +kernel
theorem dX7_trace_4 : decode cX7_trace 4 = .ok (.iload_n 1, 1) := by decide +kernel
theorem dX7_trace_5 : decode cX7_trace 5 = .ok (.aload_n 0, 1) := by decide +kernel
theorem dX7_trace_6 : decode cX7_trace 6 = .ok (.getfield 42, 3) := by decide +kernel
theorem dX7_trace_9 : decode cX7_trace 9 = .ok (.invokevirtual 325, 3) := by decide +kernel
theorem dX7_trace_12 : decode cX7_trace 12 = .ok (.if_icmp .lt 7, 3) := by decide +kernel
theorem dX7_trace_15 : decode cX7_trace 15 = .ok (.iconst (-1), 1) := by decide +kernel
theorem dX7_trace_16 : decode cX7_trace 16 = .ok (.goto 12, 3) := by decide +kernel
theorem dX7_trace_19 : decode cX7_trace 19 = .ok (.aload_n 0, 1) := by decide +kernel
theorem dX7_trace_20 : decode cX7_trace 20 = .ok (.getfield 42, 3) := by decide +kernel
theorem dX7_trace_23 : decode cX7_trace 23 = .ok (.getfield 328, 3) := by decide +kernel
theorem dX7_trace_26 : decode cX7_trace 26 = .ok (.iload_n 1, 1) := by decide +kernel
theorem dX7_trace_27 : decode cX7_trace 27 = .ok (.iaload, 1) := by decide +kernel
theorem dX7_trace_28 : decode cX7_trace 28 = .ok (.ireturn, 1) := by decide +kernel
def F7_trace (p1 : Int32) (st : fkS) : Option (Int32 × fkS) :=
 if p1 < 0 then
 (some ((-1 : Int32), st))
 else
 (fk_bind (F1_traced st) <| fun x1 st2 =>
 if p1 < x1 then
 (fk_chk (fk_in p1 20) <| fk_let (gA st2 37 p1.toNatClampNeg) <| fun x3 =>
 some (x3, st2))
 else
 (some ((-1 : Int32), st2)))
set_option maxHeartbeats 1000000 in
set_option maxRecDepth 20000 in
theorem C7_trace (p1 : Int32) (st : fkS) {g : fkG} (l : Launch) (o : Int32 × fkS) (hF : F7_trace p1 st = some o) : fk_C wC yX7_trace cX7_trace 2 (some (.int)) 2 120 l g [fk_r g 0, .int p1] st (fk_eI o.1) o.2 := by
  refine fk_begin rfl (Nat.le_of_ble_eq_true rfl) (fun k hk => ?_) o hF
  have hk : fk_ok wC g k RX7 cX7_trace 2 (some (.int)) 2 120 := hk
  show fk_J wC g fk_eI k 0 [(0, fk_r g 0), (1, .int p1)] [] st (F7_trace p1 st)
  unfold F7_trace
  refine j_iload_n (pc := 0) hk 1 rfl dX7_trace_0 ?_
  refine j_if_lt (tgt := 15) (pc := 1) hk (by decide) dX7_trace_1 (fun _ => ?_) (fun _ => ?_)
  · refine j_iconst (pc := 15) hk dX7_trace_15 (v := -1) (by decide) ?_
    refine j_goto (tgt := 28) (pc := 16) hk (by decide) dX7_trace_16 ?_
    exact j_iret (pc := 28) hk dX7_trace_28
  · refine j_iload_n (pc := 4) hk 1 rfl dX7_trace_4 ?_
    refine j_aload_n (pc := 5) hk 0 rfl ⟨_, rfl⟩ dX7_trace_5 ?_
    refine f_7_42 (pc := 6) hk (rfl) dX7_trace_6 ?_
    refine j_callVNi (pc := 9) hk [] [.int p1] rfl (fun l o hq9 => C1_traced st l o hq9) (rcv_1 (rfl)) yv_X1_traced ml_7_325 rfl (Nat.le_of_ble_eq_true rfl) (Nat.le_of_ble_eq_true rfl) (Nat.le_of_ble_eq_true rfl) dX7_trace_9 (fun x1 st2 => ?_)
    refine j_icmp_lt (tgt := 19) (pc := 12) hk (by decide) dX7_trace_12 (fun _ => ?_) (fun _ => ?_)
    · refine j_aload_n (pc := 19) hk 0 rfl ⟨_, rfl⟩ dX7_trace_19 ?_
      refine f_7_42 (pc := 20) hk (rfl) dX7_trace_20 ?_
      refine f_7_328 (pc := 23) hk (rfl) dX7_trace_23 ?_
      refine j_iload_n (pc := 26) hk 1 rfl dX7_trace_26 ?_
      refine a_iload (pc := 27) hk (isI_1_0 (rfl)) dX7_trace_27 (fun x3 => ?_)
      exact j_iret (pc := 28) hk dX7_trace_28
    · refine j_iconst (pc := 15) hk dX7_trace_15 (v := -1) (by decide) ?_
      refine j_goto (tgt := 28) (pc := 16) hk (by decide) dX7_trace_16 ?_
      exact j_iret (pc := 28) hk dX7_trace_28
theorem dX7_image_0 : decode cX7_image 0 = .ok (.aload_n 0, 1) := by decide +kernel
theorem dX7_image_1 : decode cX7_image 1 = .ok (.getfield 25, 3) := by decide +kernel
theorem dX7_image_4 : decode cX7_image 4 = .ok (.aload_n 0, 1) := by decide +kernel
theorem dX7_image_5 : decode cX7_image 5 = .ok (.getfield 18, 3) := by decide +kernel
theorem dX7_image_8 : decode cX7_image 8 = .ok (.invokevirtual 199, 3) := by decide +kernel
theorem dX7_image_11 : decode cX7_image 11 = .ok (.aload_n 0, 1) := by decide +kernel
theorem dX7_image_12 : decode cX7_image 12 = .ok (.iconst 1, 1) := by decide +kernel
theorem dX7_image_13 : decode cX7_image 13 = .ok (.putfield 28, 3) := by decide +kernel
theorem dX7_image_16 : decode cX7_image 16 = .ok (.aload_n 0, 1) := by decide +kernel
theorem dX7_image_17 : decode cX7_image 17 = .ok (.getfield 18, 3) := by decide +kernel
theorem dX7_image_20 : decode cX7_image 20 = .ok (.getfield 171, 3) := by decide +kernel
theorem dX7_image_23 : decode cX7_image 23 = .ok (.ireturn, 1) := by decide +kernel
def F7_image (st : fkS) : Option (Int32 × fkS) :=
 fk_bind (F0_become 21 19 st) <| fun _ st1 =>
 fk_let (sI st1 144 0 (1 : Int32)) <| fun st2 =>
 fk_let (gI st2 0 19) <| fun x3 =>
 some (x3, st2)
set_option maxHeartbeats 1000000 in
set_option maxRecDepth 20000 in
theorem C7_image (st : fkS) {g : fkG} (l : Launch) (o : Int32 × fkS) (hF : F7_image st = some o) : fk_C wC yX7_image cX7_image 1 (some (.int)) 2 121 l g [fk_r g 0] st (fk_eI o.1) o.2 := by
  refine fk_begin rfl (Nat.le_of_ble_eq_true rfl) (fun k hk => ?_) o hF
  have hk : fk_ok wC g k RX7 cX7_image 1 (some (.int)) 2 121 := hk
  show fk_J wC g fk_eI k 0 [(0, fk_r g 0)] [] st (F7_image st)
  unfold F7_image
  refine j_aload_n (pc := 0) hk 0 rfl ⟨_, rfl⟩ dX7_image_0 ?_
  refine f_7_25 (pc := 1) hk (rfl) dX7_image_1 ?_
  refine j_aload_n (pc := 4) hk 0 rfl ⟨_, rfl⟩ dX7_image_4 ?_
  refine f_7_18 (pc := 5) hk (rfl) dX7_image_5 ?_
  refine j_callVNv (pc := 8) hk [fk_r g 19] [] rfl (fun l o hq9 => C0_become 21 19 (rfl) (rfl) st l o hq9) (rcv_0 (rfl)) yv_X0_become ml_7_199 rfl (Nat.le_of_ble_eq_true rfl) (Nat.le_of_ble_eq_true rfl) (Nat.le_of_ble_eq_true rfl) dX7_image_8 (fun _ st1 => ?_)
  refine j_aload_n (pc := 11) hk 0 rfl ⟨_, rfl⟩ dX7_image_11 ?_
  refine j_iconst (pc := 12) hk dX7_image_12 (v := 1) (by decide) ?_
  refine p_7_28 (pc := 13) hk (rfl) rfl rfl dX7_image_13 (fun st2 => ?_)
  refine j_aload_n (pc := 16) hk 0 rfl ⟨_, rfl⟩ dX7_image_16 ?_
  refine f_7_18 (pc := 17) hk (rfl) dX7_image_17 ?_
  refine f_7_171 (pc := 20) hk (rfl) dX7_image_20 (fun x3 => ?_)
  exact j_iret (pc := 23) hk dX7_image_23
theorem dX7_restore_0 : decode cX7_restore 0 = .ok (.aload_n 0, 1) := by decide +kernel
theorem dX7_restore_1 : decode cX7_restore 1 = .ok (.getfield 28, 3) := by decide +kernel
theorem dX7_restore_4 : decode cX7_restore 4 = .ok (.ifCond .ne 10, 3) := by decide +kernel
theorem dX7_restore_7 : decode cX7_restore 7 = .ok (.aload_n 0, 1) := by decide +kernel
theorem dX7_restore_8 : decode cX7_restore 8 = .ok (.bipush (-6), 2) := by decide +kernel
theorem dX7_restore_10 : decode cX7_restore 10 = .ok (.invokevirtual 79, 3) := by decide +kernel
theorem dX7_restore_13 : decode cX7_restore 13 = .ok (.ireturn, 1) := by decide +kernel
theorem dX7_restore_14 : decode cX7_restore 14 = .ok (.aload_n 0, 1) := by decide +kernel
theorem dX7_restore_15 : decode cX7_restore 15 = .ok (.getfield 18, 3) := by decide +kernel
theorem dX7_restore_18 : decode cX7_restore 18 = .ok (.aload_n 0, 1) := by decide +kernel
theorem dX7_restore_19 : decode cX7_restore 19 = .ok (.getfield 25, 3) := by decide +kernel
theorem dX7_restore_22 : decode cX7_restore 22 = .ok (.invokevirtual 199, 3) := by decide +kernel
theorem dX7_restore_25 : decode cX7_restore 25 = .ok (.iconst 0, 1) := by decide +kernel
theorem dX7_restore_26 : decode cX7_restore 26 = .ok (.istore_n 1, 1) := by decide +kernel
theorem dX7_restore_27 : decode cX7_restore 27 = .ok (.iload_n 1, 1) := by decide +kernel
theorem dX7_restore_28 : decode cX7_restore 28 = .ok (.bipush 8, 2) := by decide +kernel
theorem dX7_restore_30 : decode cX7_restore 30 = .ok (.if_icmp .ge 58, 3) := by decide +kernel
theorem dX7_restore_33 : decode cX7_restore 33 = .ok (.aload_n 0, 1) := by decide +kernel
theorem dX7_restore_34 : decode cX7_restore 34 = .ok (.iload_n 1, 1) := by decide +kernel
theorem dX7_restore_35 : decode cX7_restore 35 = .ok (.invokevirtual 75, 3) := by decide +kernel
theorem dX7_restore_38 : decode cX7_restore 38 = .ok (.ifCond .ne 44, 3) := by decide +kernel
theorem dX7_restore_41 : decode cX7_restore 41 = .ok (.aload_n 0, 1) := by decide +kernel
theorem dX7_restore_42 : decode cX7_restore 42 = .ok (.getfield 11, 3) := by decide +kernel
theorem dX7_restore_45 : decode cX7_restore 45 = .ok (.iload_n 1, 1) := by decide +kernel
theorem dX7_restore_46 : decode cX7_restore 46 = .ok (.aaload, 1) := by decide +kernel
theorem dX7_restore_47 : decode cX7_restore 47 = .ok (.getfield 133, 3) := by decide +kernel
theorem dX7_restore_50 : decode cX7_restore 50 = .ok (.iconst 1, 1) := by decide +kernel
theorem dX7_restore_51 : decode cX7_restore 51 = .ok (.if_icmp .ne 31, 3) := by decide +kernel
theorem dX7_restore_54 : decode cX7_restore 54 = .ok (.aload_n 0, 1) := by decide +kernel
theorem dX7_restore_55 : decode cX7_restore 55 = .ok (.getfield 18, 3) := by decide +kernel
theorem dX7_restore_58 : decode cX7_restore 58 = .ok (.aload_n 0, 1) := by decide +kernel
theorem dX7_restore_59 : decode cX7_restore 59 = .ok (.getfield 11, 3) := by decide +kernel
theorem dX7_restore_62 : decode cX7_restore 62 = .ok (.iload_n 1, 1) := by decide +kernel
theorem dX7_restore_63 : decode cX7_restore 63 = .ok (.aaload, 1) := by decide +kernel
theorem dX7_restore_64 : decode cX7_restore 64 = .ok (.getfield 136, 3) := by decide +kernel
theorem dX7_restore_67 : decode cX7_restore 67 = .ok (.invokevirtual 126, 3) := by decide +kernel
theorem dX7_restore_70 : decode cX7_restore 70 = .ok (.ifCond .eq 12, 3) := by decide +kernel
theorem dX7_restore_73 : decode cX7_restore 73 = .ok (.aload_n 0, 1) := by decide +kernel
theorem dX7_restore_74 : decode cX7_restore 74 = .ok (.getfield 11, 3) := by decide +kernel
theorem dX7_restore_77 : decode cX7_restore 77 = .ok (.iload_n 1, 1) := by decide +kernel
theorem dX7_restore_78 : decode cX7_restore 78 = .ok (.aaload, 1) := by decide +kernel
theorem dX7_restore_79 : decode cX7_restore 79 = .ok (.invokevirtual 123, 3) := by decide +kernel
theorem dX7_restore_82 : decode cX7_restore 82 = .ok (.iinc 1 1, 3) := by decide +kernel
theorem dX7_restore_85 : decode cX7_restore 85 = .ok (.goto (-58), 3) := by decide +kernel
theorem dX7_restore_88 : decode cX7_restore 88 = .ok (.aload_n 0, 1) := by decide +kernel
theorem dX7_restore_89 : decode cX7_restore 89 = .ok (.getfield 18, 3) := by decide +kernel
theorem dX7_restore_92 : decode cX7_restore 92 = .ok (.getfield 171, 3) := by decide +kernel
theorem dX7_restore_95 : decode cX7_restore 95 = .ok (.ireturn, 1) := by decide +kernel
def B7_restore_82 (k27 : Int32 → fkS → Option (Int32 × fkS)) (v1 : Int32) (st : fkS) : Option (Int32 × fkS) :=
 k27 (v1 + (1 : Int32)) st
set_option maxHeartbeats 1000000 in
set_option maxRecDepth 20000 in
theorem T7_restore_82 {g : fkG} {k : fkK} (hk : fk_ok wC g k RX7 cX7_restore 2 (some (.int)) 2 121) (k27 : Int32 → fkS → Option (Int32 × fkS)) (H27 : ∀ (v1 : Int32) (st : fkS), fk_J wC g fk_eI k 27 [(0, fk_r g 0), (1, .int v1)] [] st (k27 v1 st)) : ∀ (v1 : Int32) (st : fkS), fk_J wC g fk_eI k 82 [(0, fk_r g 0), (1, .int v1)] [] st (B7_restore_82 k27 v1 st) := by
  intro v1 st
  unfold B7_restore_82
  refine j_iinc (dd := (1 : Int32)) (lv' := ((1, .int (v1 + (1 : Int32))) :: [(0, fk_r g 0)])) (pc := 82) hk 1 rfl (by decide) (by decide) rfl dX7_restore_82 ?_
  refine j_sub hk (lv' := [(0, fk_r g 0), (1, .int (v1 + (1 : Int32)))]) [1, 0] rfl ?_
  refine j_goto (tgt := 27) (pc := 85) hk (by decide) dX7_restore_85 ?_
  exact j_sub hk [0, 1] rfl (H27 (v1 + (1 : Int32)) st)
def B7_restore_27 (k27 : Int32 → fkS → Option (Int32 × fkS)) (v1 : Int32) (st : fkS) : Option (Int32 × fkS) :=
 if (8 : Int32) ≤ v1 then
 (fk_let (gI st 0 19) <| fun x5 =>
 some (x5, st))
 else
 (fk_bind (F7_noShelf v1 st) <| fun x6 st7 =>
 if x6 = 0 then
 (fk_chk (fk_in v1 8) <|
 fk_let (gI st7 100 (3 + v1.toNatClampNeg)) <| fun x9 =>
 if x9 = (1 : Int32) then
 (fk_chk (fk_in v1 8) <|
 fk_let (gI st7 101 (3 + v1.toNatClampNeg)) <| fun x11 =>
 fk_bind (F0_lacks 19 x11 st7) <| fun x12 st13 =>
 if x12 = 0 then
 (B7_restore_82 k27 v1 st13)
 else
 (fk_chk (fk_in v1 8) <|
 fk_bind (F5_holdNothing (3 + v1.toNatClampNeg) st13) <| fun _ st15 =>
 B7_restore_82 k27 v1 st15))
 else
 (B7_restore_82 k27 v1 st7))
 else
 (B7_restore_82 k27 v1 st7))
set_option maxHeartbeats 1000000 in
set_option maxRecDepth 20000 in
theorem T7_restore_27 {g : fkG} {k : fkK} (hk : fk_ok wC g k RX7 cX7_restore 2 (some (.int)) 2 121) (k27 : Int32 → fkS → Option (Int32 × fkS)) (H27 : ∀ (v1 : Int32) (st : fkS), fk_J wC g fk_eI k 27 [(0, fk_r g 0), (1, .int v1)] [] st (k27 v1 st)) : ∀ (v1 : Int32) (st : fkS), fk_J wC g fk_eI k 27 [(0, fk_r g 0), (1, .int v1)] [] st (B7_restore_27 k27 v1 st) := by
  intro v1 st
  unfold B7_restore_27
  refine j_iload_n (pc := 27) hk 1 rfl dX7_restore_27 ?_
  refine j_bipush (pc := 28) hk dX7_restore_28 (v := 8) (by decide) ?_
  refine j_icmp_ge (tgt := 88) (pc := 30) hk (by decide) dX7_restore_30 (fun _ => ?_) (fun _ => ?_)
  · refine j_aload_n (pc := 88) hk 0 rfl ⟨_, rfl⟩ dX7_restore_88 ?_
    refine f_7_18 (pc := 89) hk (rfl) dX7_restore_89 ?_
    refine f_7_171 (pc := 92) hk (rfl) dX7_restore_92 (fun x5 => ?_)
    exact j_iret (pc := 95) hk dX7_restore_95
  · refine j_aload_n (pc := 33) hk 0 rfl ⟨_, rfl⟩ dX7_restore_33 ?_
    refine j_iload_n (pc := 34) hk 1 rfl dX7_restore_34 ?_
    refine j_callVi (pc := 35) hk [.int v1] [] rfl (fun l o hq9 => C7_noShelf v1 st l o hq9) (rcv_7 (rfl)) yv_X7_noShelf ml_7_75 rfl (Nat.le_of_ble_eq_true rfl) (Nat.le_of_ble_eq_true rfl) (Nat.le_of_ble_eq_true rfl) dX7_restore_35 (fun x6 st7 => ?_)
    refine j_if_ne (tgt := 82) (pc := 38) hk (by decide) dX7_restore_38 (fun _ => ?_) (fun _ => ?_)
    · refine j_aload_n (pc := 41) hk 0 rfl ⟨_, rfl⟩ dX7_restore_41 ?_
      refine f_7_11 (pc := 42) hk (rfl) dX7_restore_42 ?_
      refine j_iload_n (pc := 45) hk 1 rfl dX7_restore_45 ?_
      refine a_shelf (pc := 46) hk dX7_restore_46 (fun hs8 => ?_)
      refine f_7_133 (pc := 47) hk (hs8) dX7_restore_47 (fun x9 => ?_)
      refine j_iconst (pc := 50) hk dX7_restore_50 (v := 1) (by decide) ?_
      refine j_icmp_ne (tgt := 82) (pc := 51) hk (by decide) dX7_restore_51 (fun _ => ?_) (fun _ => ?_)
      · refine j_aload_n (pc := 54) hk 0 rfl ⟨_, rfl⟩ dX7_restore_54 ?_
        refine f_7_18 (pc := 55) hk (rfl) dX7_restore_55 ?_
        refine j_aload_n (pc := 58) hk 0 rfl ⟨_, rfl⟩ dX7_restore_58 ?_
        refine f_7_11 (pc := 59) hk (rfl) dX7_restore_59 ?_
        refine j_iload_n (pc := 62) hk 1 rfl dX7_restore_62 ?_
        refine a_shelf (pc := 63) hk dX7_restore_63 (fun hs10 => ?_)
        refine f_7_136 (pc := 64) hk (hs10) dX7_restore_64 (fun x11 => ?_)
        refine j_callVNi (pc := 67) hk [.int x11] [] rfl (fun l o hq9 => C0_lacks 19 (rfl) x11 st7 l o hq9) (rcv_0 (rfl)) yv_X0_lacks ml_7_126 rfl (Nat.le_of_ble_eq_true rfl) (Nat.le_of_ble_eq_true rfl) (Nat.le_of_ble_eq_true rfl) dX7_restore_67 (fun x12 st13 => ?_)
        refine j_if_eq (tgt := 82) (pc := 70) hk (by decide) dX7_restore_70 (fun _ => ?_) (fun _ => ?_)
        · exact j_sub hk [0, 1] rfl (T7_restore_82 hk k27 H27 v1 st13)
        · refine j_aload_n (pc := 73) hk 0 rfl ⟨_, rfl⟩ dX7_restore_73 ?_
          refine f_7_11 (pc := 74) hk (rfl) dX7_restore_74 ?_
          refine j_iload_n (pc := 77) hk 1 rfl dX7_restore_77 ?_
          refine a_shelf (pc := 78) hk dX7_restore_78 (fun hs14 => ?_)
          refine j_callVNv (pc := 79) hk [] [] rfl (fun l o hq9 => C5_holdNothing (3 + v1.toNatClampNeg) (hs14) st13 l o hq9) (rcv_5 (hs14)) yv_X5_holdNothing ml_7_123 rfl (Nat.le_of_ble_eq_true rfl) (Nat.le_of_ble_eq_true rfl) (Nat.le_of_ble_eq_true rfl) dX7_restore_79 (fun _ st15 => ?_)
          exact j_sub hk [0, 1] rfl (T7_restore_82 hk k27 H27 v1 st15)
      · exact j_sub hk [0, 1] rfl (T7_restore_82 hk k27 H27 v1 st7)
    · exact j_sub hk [0, 1] rfl (T7_restore_82 hk k27 H27 v1 st7)
set_option maxHeartbeats 1000000 in
set_option maxRecDepth 20000 in
theorem L7_restore_27 {g : fkG} {k : fkK} (hk : fk_ok wC g k RX7 cX7_restore 2 (some (.int)) 2 121) (fu : Nat) : ∀ (v1 : Int32) (st : fkS), fk_J wC g fk_eI k 27 [(0, fk_r g 0), (1, .int v1)] [] st (fk_lp1 (B7_restore_27) fu v1 st) := by
  induction fu with
  | zero =>
    intro v1 st
    exact j_none hk
  | succ fu ih =>
    exact T7_restore_27 hk _ ih
def F7_restore (st : fkS) : Option (Int32 × fkS) :=
 fk_let (gI st 144 0) <| fun x1 =>
 if x1 = 0 then
 (fk_bind (F7_refuse (-6 : Int32) st) <| fun x2 st3 =>
 some (x2, st3))
 else
 (fk_bind (F0_become 19 21 st) <| fun _ st4 =>
 fk_lp1 (B7_restore_27) fk_fuel (0 : Int32) st4)
set_option maxHeartbeats 1000000 in
set_option maxRecDepth 20000 in
theorem C7_restore (st : fkS) {g : fkG} (l : Launch) (o : Int32 × fkS) (hF : F7_restore st = some o) : fk_C wC yX7_restore cX7_restore 2 (some (.int)) 2 121 l g [fk_r g 0] st (fk_eI o.1) o.2 := by
  refine fk_begin rfl (Nat.le_of_ble_eq_true rfl) (fun k hk => ?_) o hF
  have hk : fk_ok wC g k RX7 cX7_restore 2 (some (.int)) 2 121 := hk
  show fk_J wC g fk_eI k 0 [(0, fk_r g 0)] [] st (F7_restore st)
  unfold F7_restore
  refine j_aload_n (pc := 0) hk 0 rfl ⟨_, rfl⟩ dX7_restore_0 ?_
  refine f_7_28 (pc := 1) hk (rfl) dX7_restore_1 (fun x1 => ?_)
  refine j_if_ne (tgt := 14) (pc := 4) hk (by decide) dX7_restore_4 (fun _ => ?_) (fun _ => ?_)
  · refine j_aload_n (pc := 7) hk 0 rfl ⟨_, rfl⟩ dX7_restore_7 ?_
    refine j_bipush (pc := 8) hk dX7_restore_8 (v := -6) (by decide) ?_
    refine j_callVi (pc := 10) hk [.int (-6 : Int32)] [] rfl (fun l o hq9 => C7_refuse (-6 : Int32) st l o hq9) (rcv_7 (rfl)) yv_X7_refuse ml_7_79 rfl (Nat.le_of_ble_eq_true rfl) (Nat.le_of_ble_eq_true rfl) (Nat.le_of_ble_eq_true rfl) dX7_restore_10 (fun x2 st3 => ?_)
    exact j_iret (pc := 13) hk dX7_restore_13
  · refine j_aload_n (pc := 14) hk 0 rfl ⟨_, rfl⟩ dX7_restore_14 ?_
    refine f_7_18 (pc := 15) hk (rfl) dX7_restore_15 ?_
    refine j_aload_n (pc := 18) hk 0 rfl ⟨_, rfl⟩ dX7_restore_18 ?_
    refine f_7_25 (pc := 19) hk (rfl) dX7_restore_19 ?_
    refine j_callVNv (pc := 22) hk [fk_r g 21] [] rfl (fun l o hq9 => C0_become 19 21 (rfl) (rfl) st l o hq9) (rcv_0 (rfl)) yv_X0_become ml_7_199 rfl (Nat.le_of_ble_eq_true rfl) (Nat.le_of_ble_eq_true rfl) (Nat.le_of_ble_eq_true rfl) dX7_restore_22 (fun _ st4 => ?_)
    refine j_iconst (pc := 25) hk dX7_restore_25 (v := 0) (by decide) ?_
    refine j_istore_n (lv' := ((1, .int (0 : Int32)) :: [(0, fk_r g 0)])) (pc := 26) hk rfl (by decide) rfl dX7_restore_26 ?_
    refine j_sub hk (lv' := [(0, fk_r g 0), (1, .int (0 : Int32))]) [1, 0] rfl ?_
    exact j_sub hk [0, 1] rfl (L7_restore_27 hk fk_fuel (0 : Int32) st4)
theorem dX7_status_0 : decode cX7_status 0 = .ok (.iload_n 1, 1) := by decide +kernel
theorem dX7_status_1 : decode cX7_status 1 = .ok (.tableswitch 111 0 7 #[47, 55, 63, 71, 79, 87, 95, 103], 47) := by decide +kernel
theorem dX7_status_48 : decode cX7_status 48 = .ok (.aload_n 0, 1) := by decide +kernel
theorem dX7_status_49 : decode cX7_status 49 = .ok (.getfield 18, 3) := by decide +kernel
theorem dX7_status_52 : decode cX7_status 52 = .ok (.getfield 171, 3) := by decide +kernel
theorem dX7_status_55 : decode cX7_status 55 = .ok (.ireturn, 1) := by decide +kernel
theorem dX7_status_56 : decode cX7_status 56 = .ok (.aload_n 0, 1) := by decide +kernel
theorem dX7_status_57 : decode cX7_status 57 = .ok (.getfield 18, 3) := by decide +kernel
theorem dX7_status_60 : decode cX7_status 60 = .ok (.getfield 178, 3) := by decide +kernel
theorem dX7_status_63 : decode cX7_status 63 = .ok (.ireturn, 1) := by decide +kernel
theorem dX7_status_64 : decode cX7_status 64 = .ok (.aload_n 0, 1) := by decide +kernel
theorem dX7_status_65 : decode cX7_status 65 = .ok (.getfield 18, 3) := by decide +kernel
theorem dX7_status_68 : decode cX7_status 68 = .ok (.getfield 181, 3) := by decide +kernel
theorem dX7_status_71 : decode cX7_status 71 = .ok (.ireturn, 1) := by decide +kernel
theorem dX7_status_72 : decode cX7_status 72 = .ok (.aload_n 0, 1) := by decide +kernel
theorem dX7_status_73 : decode cX7_status 73 = .ok (.getfield 18, 3) := by decide +kernel
theorem dX7_status_76 : decode cX7_status 76 = .ok (.getfield 184, 3) := by decide +kernel
theorem dX7_status_79 : decode cX7_status 79 = .ok (.ireturn, 1) := by decide +kernel
theorem dX7_status_80 : decode cX7_status 80 = .ok (.aload_n 0, 1) := by decide +kernel
theorem dX7_status_81 : decode cX7_status 81 = .ok (.getfield 18, 3) := by decide +kernel
theorem dX7_status_84 : decode cX7_status 84 = .ok (.getfield 331, 3) := by decide +kernel
theorem dX7_status_87 : decode cX7_status 87 = .ok (.ireturn, 1) := by decide +kernel
theorem dX7_status_88 : decode cX7_status 88 = .ok (.aload_n 0, 1) := by decide +kernel
theorem dX7_status_89 : decode cX7_status 89 = .ok (.getfield 18, 3) := by decide +kernel
theorem dX7_status_92 : decode cX7_status 92 = .ok (.getfield 308, 3) := by decide +kernel
theorem dX7_status_95 : decode cX7_status 95 = .ok (.ireturn, 1) := by decide +kernel
theorem dX7_status_96 : decode cX7_status 96 = .ok (.aload_n 0, 1) := by decide +kernel
theorem dX7_status_97 : decode cX7_status 97 = .ok (.getfield 18, 3) := by decide +kernel
theorem dX7_status_100 : decode cX7_status 100 = .ok (.getfield 311, 3) := by decide +kernel
theorem dX7_status_103 : decode cX7_status 103 = .ok (.ireturn, 1) := by decide +kernel
theorem dX7_status_104 : decode cX7_status 104 = .ok (.aload_n 0, 1) := by decide +kernel
theorem dX7_status_105 : decode cX7_status 105 = .ok (.getfield 42, 3) := by decide +kernel
theorem dX7_status_108 : decode cX7_status 108 = .ok (.getfield 334, 3) := by decide +kernel
theorem dX7_status_111 : decode cX7_status 111 = .ok (.ireturn, 1) := by decide +kernel
theorem dX7_status_112 : decode cX7_status 112 = .ok (.iload_n 1, 1) := by decide +kernel
theorem dX7_status_113 : decode cX7_status 113 = .ok (.bipush 10, 2) := by decide +kernel
theorem dX7_status_115 : decode cX7_status 115 = .ok (.if_icmp .le 27, 3) := by decide +kernel
theorem dX7_status_118 : decode cX7_status 118 = .ok (.iload_n 1, 1) := by decide +kernel
theorem dX7_status_119 : decode cX7_status 119 = .ok (.bipush 10, 2) := by decide +kernel
theorem dX7_status_121 : decode cX7_status 121 = .ok (.isub, 1) := by decide +kernel
theorem dX7_status_122 : decode cX7_status 122 = .ok (.aload_n 0, 1) := by decide +kernel
theorem dX7_status_123 : decode cX7_status 123 = .ok (.getfield 70, 3) := by decide +kernel
theorem dX7_status_126 : decode cX7_status 126 = .ok (.arraylength, 1) := by decide +kernel
theorem dX7_status_127 : decode cX7_status 127 = .ok (.if_icmp .ge 15, 3) := by decide +kernel
theorem dX7_status_130 : decode cX7_status 130 = .ok (.aload_n 0, 1) := by decide +kernel
theorem dX7_status_131 : decode cX7_status 131 = .ok (.getfield 70, 3) := by decide +kernel
theorem dX7_status_134 : decode cX7_status 134 = .ok (.iload_n 1, 1) := by decide +kernel
theorem dX7_status_135 : decode cX7_status 135 = .ok (.bipush 10, 2) := by decide +kernel
theorem dX7_status_137 : decode cX7_status 137 = .ok (.isub, 1) := by decide +kernel
theorem dX7_status_138 : decode cX7_status 138 = .ok (.iaload, 1) := by decide +kernel
theorem dX7_status_139 : decode cX7_status 139 = .ok (.goto 4, 3) := by decide +kernel
theorem dX7_status_142 : decode cX7_status 142 = .ok (.iconst (-1), 1) := by decide +kernel
theorem dX7_status_143 : decode cX7_status 143 = .ok (.ireturn, 1) := by decide +kernel
def F7_status (p1 : Int32) (st : fkS) : Option (Int32 × fkS) :=
 if p1 = (0 : Int32) then
 (fk_let (gI st 0 19) <| fun x2 =>
 some (x2, st))
 else
 (if p1 = (1 : Int32) then
 (fk_let (gI st 5 19) <| fun x4 =>
 some (x4, st))
 else
 (if p1 = (2 : Int32) then
 (fk_let (gI st 6 19) <| fun x6 =>
 some (x6, st))
 else
 (if p1 = (3 : Int32) then
 (fk_let (gI st 7 19) <| fun x8 =>
 some (x8, st))
 else
 (if p1 = (4 : Int32) then
 (fk_let (gI st 8 19) <| fun x10 =>
 some (x10, st))
 else
 (if p1 = (5 : Int32) then
 (fk_let (gI st 9 19) <| fun x12 =>
 some (x12, st))
 else
 (if p1 = (6 : Int32) then
 (fk_let (gI st 10 19) <| fun x14 =>
 some (x14, st))
 else
 (if p1 = (7 : Int32) then
 (fk_let (gI st 21 36) <| fun x16 =>
 some (x16, st))
 else
 (if p1 ≤ (10 : Int32) then
 (some ((-1 : Int32), st))
 else
 (if (8 : Int32) ≤ (p1 - (10 : Int32)) then
 (some ((-1 : Int32), st))
 else
 (fk_chk (fk_in (p1 - (10 : Int32)) 8) <| fk_let (gA st 1 (p1 - (10 : Int32)).toNatClampNeg) <| fun x17 =>
 some (x17, st)))))))))))
set_option maxHeartbeats 1000000 in
set_option maxRecDepth 20000 in
theorem C7_status (p1 : Int32) (st : fkS) {g : fkG} (l : Launch) (o : Int32 × fkS) (hF : F7_status p1 st = some o) : fk_C wC yX7_status cX7_status 2 (some (.int)) 0 0 l g [fk_r g 0, .int p1] st (fk_eI o.1) o.2 := by
  refine fk_begin rfl (Nat.le_of_ble_eq_true rfl) (fun k hk => ?_) o hF
  have hk : fk_ok wC g k RX7 cX7_status 2 (some (.int)) 0 0 := hk
  show fk_J wC g fk_eI k 0 [(0, fk_r g 0), (1, .int p1)] [] st (F7_status p1 st)
  unfold F7_status
  refine j_iload_n (pc := 0) hk 1 rfl dX7_status_0 ?_
  refine j_case (pc := 1) hk (fun n1 => ?_) (fun n1 => ?_)
  · refine j_tswIn (off := 47) (tgt := 48) (pc := 1) hk (by rw [n1]; decide) (by rw [n1]; decide) (by rw [n1]; decide) (by decide) dX7_status_1 ?_
    refine j_aload_n (pc := 48) hk 0 rfl ⟨_, rfl⟩ dX7_status_48 ?_
    refine f_7_18 (pc := 49) hk (rfl) dX7_status_49 ?_
    refine f_7_171 (pc := 52) hk (rfl) dX7_status_52 (fun x2 => ?_)
    exact j_iret (pc := 55) hk dX7_status_55
  · refine j_case (pc := 1) hk (fun n3 => ?_) (fun n3 => ?_)
    · refine j_tswIn (off := 55) (tgt := 56) (pc := 1) hk (by rw [n3]; decide) (by rw [n3]; decide) (by rw [n3]; decide) (by decide) dX7_status_1 ?_
      refine j_aload_n (pc := 56) hk 0 rfl ⟨_, rfl⟩ dX7_status_56 ?_
      refine f_7_18 (pc := 57) hk (rfl) dX7_status_57 ?_
      refine f_7_178 (pc := 60) hk (rfl) dX7_status_60 (fun x4 => ?_)
      exact j_iret (pc := 63) hk dX7_status_63
    · refine j_case (pc := 1) hk (fun n5 => ?_) (fun n5 => ?_)
      · refine j_tswIn (off := 63) (tgt := 64) (pc := 1) hk (by rw [n5]; decide) (by rw [n5]; decide) (by rw [n5]; decide) (by decide) dX7_status_1 ?_
        refine j_aload_n (pc := 64) hk 0 rfl ⟨_, rfl⟩ dX7_status_64 ?_
        refine f_7_18 (pc := 65) hk (rfl) dX7_status_65 ?_
        refine f_7_181 (pc := 68) hk (rfl) dX7_status_68 (fun x6 => ?_)
        exact j_iret (pc := 71) hk dX7_status_71
      · refine j_case (pc := 1) hk (fun n7 => ?_) (fun n7 => ?_)
        · refine j_tswIn (off := 71) (tgt := 72) (pc := 1) hk (by rw [n7]; decide) (by rw [n7]; decide) (by rw [n7]; decide) (by decide) dX7_status_1 ?_
          refine j_aload_n (pc := 72) hk 0 rfl ⟨_, rfl⟩ dX7_status_72 ?_
          refine f_7_18 (pc := 73) hk (rfl) dX7_status_73 ?_
          refine f_7_184 (pc := 76) hk (rfl) dX7_status_76 (fun x8 => ?_)
          exact j_iret (pc := 79) hk dX7_status_79
        · refine j_case (pc := 1) hk (fun n9 => ?_) (fun n9 => ?_)
          · refine j_tswIn (off := 79) (tgt := 80) (pc := 1) hk (by rw [n9]; decide) (by rw [n9]; decide) (by rw [n9]; decide) (by decide) dX7_status_1 ?_
            refine j_aload_n (pc := 80) hk 0 rfl ⟨_, rfl⟩ dX7_status_80 ?_
            refine f_7_18 (pc := 81) hk (rfl) dX7_status_81 ?_
            refine f_7_331 (pc := 84) hk (rfl) dX7_status_84 (fun x10 => ?_)
            exact j_iret (pc := 87) hk dX7_status_87
          · refine j_case (pc := 1) hk (fun n11 => ?_) (fun n11 => ?_)
            · refine j_tswIn (off := 87) (tgt := 88) (pc := 1) hk (by rw [n11]; decide) (by rw [n11]; decide) (by rw [n11]; decide) (by decide) dX7_status_1 ?_
              refine j_aload_n (pc := 88) hk 0 rfl ⟨_, rfl⟩ dX7_status_88 ?_
              refine f_7_18 (pc := 89) hk (rfl) dX7_status_89 ?_
              refine f_7_308 (pc := 92) hk (rfl) dX7_status_92 (fun x12 => ?_)
              exact j_iret (pc := 95) hk dX7_status_95
            · refine j_case (pc := 1) hk (fun n13 => ?_) (fun n13 => ?_)
              · refine j_tswIn (off := 95) (tgt := 96) (pc := 1) hk (by rw [n13]; decide) (by rw [n13]; decide) (by rw [n13]; decide) (by decide) dX7_status_1 ?_
                refine j_aload_n (pc := 96) hk 0 rfl ⟨_, rfl⟩ dX7_status_96 ?_
                refine f_7_18 (pc := 97) hk (rfl) dX7_status_97 ?_
                refine f_7_311 (pc := 100) hk (rfl) dX7_status_100 (fun x14 => ?_)
                exact j_iret (pc := 103) hk dX7_status_103
              · refine j_case (pc := 1) hk (fun n15 => ?_) (fun n15 => ?_)
                · refine j_tswIn (off := 103) (tgt := 104) (pc := 1) hk (by rw [n15]; decide) (by rw [n15]; decide) (by rw [n15]; decide) (by decide) dX7_status_1 ?_
                  refine j_aload_n (pc := 104) hk 0 rfl ⟨_, rfl⟩ dX7_status_104 ?_
                  refine f_7_42 (pc := 105) hk (rfl) dX7_status_105 ?_
                  refine f_7_334 (pc := 108) hk (rfl) dX7_status_108 (fun x16 => ?_)
                  exact j_iret (pc := 111) hk dX7_status_111
                · have mn1 := lv_neT (a := 0) n1 (by decide)
                  have mn3 := lv_neT (a := 1) n3 (by decide)
                  have mn5 := lv_neT (a := 2) n5 (by decide)
                  have mn7 := lv_neT (a := 3) n7 (by decide)
                  have mn9 := lv_neT (a := 4) n9 (by decide)
                  have mn11 := lv_neT (a := 5) n11 (by decide)
                  have mn13 := lv_neT (a := 6) n13 (by decide)
                  have mn15 := lv_neT (a := 7) n15 (by decide)
                  refine j_tswOut (tgt := 112) (pc := 1) hk (by omega) (by decide) dX7_status_1 ?_
                  refine j_iload_n (pc := 112) hk 1 rfl dX7_status_112 ?_
                  refine j_bipush (pc := 113) hk dX7_status_113 (v := 10) (by decide) ?_
                  refine j_icmp_le (tgt := 142) (pc := 115) hk (by decide) dX7_status_115 (fun _ => ?_) (fun _ => ?_)
                  · refine j_iconst (pc := 142) hk dX7_status_142 (v := -1) (by decide) ?_
                    exact j_iret (pc := 143) hk dX7_status_143
                  · refine j_iload_n (pc := 118) hk 1 rfl dX7_status_118 ?_
                    refine j_bipush (pc := 119) hk dX7_status_119 (v := 10) (by decide) ?_
                    refine j_isub (pc := 121) hk dX7_status_121 ?_
                    refine j_aload_n (pc := 122) hk 0 rfl ⟨_, rfl⟩ dX7_status_122 ?_
                    refine f_7_70 (pc := 123) hk (rfl) dX7_status_123 ?_
                    refine a_ilen (pc := 126) hk (isI_7_11) (v := 8) (by decide) dX7_status_126 ?_
                    refine j_icmp_ge (tgt := 142) (pc := 127) hk (by decide) dX7_status_127 (fun _ => ?_) (fun _ => ?_)
                    · refine j_iconst (pc := 142) hk dX7_status_142 (v := -1) (by decide) ?_
                      exact j_iret (pc := 143) hk dX7_status_143
                    · refine j_aload_n (pc := 130) hk 0 rfl ⟨_, rfl⟩ dX7_status_130 ?_
                      refine f_7_70 (pc := 131) hk (rfl) dX7_status_131 ?_
                      refine j_iload_n (pc := 134) hk 1 rfl dX7_status_134 ?_
                      refine j_bipush (pc := 135) hk dX7_status_135 (v := 10) (by decide) ?_
                      refine j_isub (pc := 137) hk dX7_status_137 ?_
                      refine a_iload (pc := 138) hk (isI_7_11) dX7_status_138 (fun x17 => ?_)
                      refine j_goto (tgt := 143) (pc := 139) hk (by decide) dX7_status_139 ?_
                      exact j_iret (pc := 143) hk dX7_status_143
