theorem dX7_said_0 : decode cX7_said 0 = .ok (.aload_n 0, 1) := by decide +kernel
theorem dX7_said_1 : decode cX7_said 1 = .ok (.iload_n 1, 1) := by decide +kernel
theorem dX7_said_2 : decode cX7_said 2 = .ok (.iload_n 2, 1) := by decide +kernel
theorem dX7_said_3 : decode cX7_said 3 = .ok (.invokevirtual 210, 3) := by decide +kernel
theorem dX7_said_6 : decode cX7_said 6 = .ok (.istore 4, 2) := by decide +kernel
theorem dX7_said_8 : decode cX7_said 8 = .ok (.iload 4, 2) := by decide +kernel
theorem dX7_said_10 : decode cX7_said 10 = .ok (.ifCond .eq 10, 3) := by decide +kernel
theorem dX7_said_13 : decode cX7_said 13 = .ok (.aload_n 0, 1) := by decide +kernel
theorem dX7_said_14 : decode cX7_said 14 = .ok (.iload 4, 2) := by decide +kernel
theorem dX7_said_16 : decode cX7_said 16 = .ok (.invokevirtual 79, 3) := by decide +kernel
theorem dX7_said_19 : decode cX7_said 19 = .ok (.ireturn, 1) := by decide +kernel
theorem dX7_said_20 : decode cX7_said 20 = .ok (.aload_n 0, 1) := by decide +kernel
theorem dX7_said_21 : decode cX7_said 21 = .ok (.getfield 56, 3) := by decide +kernel
theorem dX7_said_24 : decode cX7_said 24 = .ok (.aload_n 0, 1) := by decide +kernel
theorem dX7_said_25 : decode cX7_said 25 = .ok (.getfield 18, 3) := by decide +kernel
theorem dX7_said_28 : decode cX7_said 28 = .ok (.iload_n 2, 1) := by decide +kernel
theorem dX7_said_29 : decode cX7_said 29 = .ok (.invokevirtual 148, 3) := by decide +kernel
theorem dX7_said_32 : decode cX7_said 32 = .ok (.aload_n 0, 1) := by decide +kernel
theorem dX7_said_33 : decode cX7_said 33 = .ok (.getfield 56, 3) := by decide +kernel
theorem dX7_said_36 : decode cX7_said 36 = .ok (.aload_n 0, 1) := by decide +kernel
theorem dX7_said_37 : decode cX7_said 37 = .ok (.getfield 49, 3) := by decide +kernel
theorem dX7_said_40 : decode cX7_said 40 = .ok (.invokevirtual 158, 3) := by decide +kernel
theorem dX7_said_43 : decode cX7_said 43 = .ok (.iload_n 3, 1) := by decide +kernel
theorem dX7_said_44 : decode cX7_said 44 = .ok (.iconst (-1), 1) := by decide +kernel
theorem dX7_said_45 : decode cX7_said 45 = .ok (.if_icmp .ne 11, 3) := by decide +kernel
theorem dX7_said_48 : decode cX7_said 48 = .ok (.aload_n 0, 1) := by decide +kernel
theorem dX7_said_49 : decode cX7_said 49 = .ok (.getfield 56, 3) := by decide +kernel
theorem dX7_said_52 : decode cX7_said 52 = .ok (.getfield 162, 3) := by decide +kernel
theorem dX7_said_55 : decode cX7_said 55 = .ok (.ireturn, 1) := by decide +kernel
theorem dX7_said_56 : decode cX7_said 56 = .ok (.aload_n 0, 1) := by decide +kernel
theorem dX7_said_57 : decode cX7_said 57 = .ok (.getfield 56, 3) := by decide +kernel
theorem dX7_said_60 : decode cX7_said 60 = .ok (.iload_n 3, 1) := by decide +kernel
theorem dX7_said_61 : decode cX7_said 61 = .ok (.invokevirtual 165, 3) := by decide +kernel
theorem dX7_said_64 : decode cX7_said 64 = .ok (.istore 5, 2) := by decide +kernel
theorem dX7_said_66 : decode cX7_said 66 = .ok (.iload 5, 2) := by decide +kernel
theorem dX7_said_68 : decode cX7_said 68 = .ok (.iconst (-1), 1) := by decide +kernel
theorem dX7_said_69 : decode cX7_said 69 = .ok (.if_icmp .ne 12, 3) := by decide +kernel
theorem dX7_said_72 : decode cX7_said 72 = .ok (.aload_n 0, 1) := by decide +kernel
theorem dX7_said_73 : decode cX7_said 73 = .ok (.bipush (-5), 2) := by decide +kernel
theorem dX7_said_75 : decode cX7_said 75 = .ok (.invokevirtual 79, 3) := by decide +kernel
theorem dX7_said_78 : decode cX7_said 78 = .ok (.goto 5, 3) := by decide +kernel
theorem dX7_said_81 : decode cX7_said 81 = .ok (.iload 5, 2) := by decide +kernel
theorem dX7_said_83 : decode cX7_said 83 = .ok (.ireturn, 1) := by decide +kernel
def F7_said (p1 : Int32) (p2 : Int32) (p3 : Int32) (st : fkS) : Option (Int32 × fkS) :=
 fk_bind (F7_noPieOf p1 p2 st) <| fun x1 st2 =>
 if x1 = 0 then
 (fk_bind (F6_take 40 19 p2 st2) <| fun _ st3 =>
 fk_bind (F6_speak 40 st3) <| fun _ st4 =>
 if p3 = (-1 : Int32) then
 (fk_let (gI st4 124 40) <| fun x5 =>
 some (x5, st4))
 else
 (fk_bind (F6_sign 40 p3 st4) <| fun x6 st7 =>
 if x6 = (-1 : Int32) then
 (fk_bind (F7_refuse (-5 : Int32) st7) <| fun x8 st9 =>
 some (x8, st9))
 else
 (some (x6, st7))))
 else
 (fk_bind (F7_refuse x1 st2) <| fun x10 st11 =>
 some (x10, st11))
set_option maxHeartbeats 1000000 in
set_option maxRecDepth 20000 in
theorem C7_said (p1 : Int32) (p2 : Int32) (p3 : Int32) (st : fkS) {g : fkG} (l : Launch) (o : Int32 × fkS) (hF : F7_said p1 p2 p3 st = some o) : fk_C wC yX7_said cX7_said 6 (some (.int)) 5 143 l g [fk_r g 0, .int p1, .int p2, .int p3] st (fk_eI o.1) o.2 := by
  refine fk_begin rfl (Nat.le_of_ble_eq_true rfl) (fun k hk => ?_) o hF
  have hk : fk_ok wC g k RX7 cX7_said 6 (some (.int)) 5 143 := hk
  show fk_J wC g fk_eI k 0 [(0, fk_r g 0), (1, .int p1), (2, .int p2), (3, .int p3)] [] st (F7_said p1 p2 p3 st)
  unfold F7_said
  refine j_aload_n (pc := 0) hk 0 rfl ⟨_, rfl⟩ dX7_said_0 ?_
  refine j_iload_n (pc := 1) hk 1 rfl dX7_said_1 ?_
  refine j_iload_n (pc := 2) hk 2 rfl dX7_said_2 ?_
  refine j_callVi (pc := 3) hk [.int p1, .int p2] [] rfl (fun l o hq9 => C7_noPieOf p1 p2 st l o hq9) (rcv_7 (rfl)) yv_X7_noPieOf ml_7_210 rfl (Nat.le_of_ble_eq_true rfl) (Nat.le_of_ble_eq_true rfl) (Nat.le_of_ble_eq_true rfl) dX7_said_3 (fun x1 st2 => ?_)
  refine j_istore (lv' := ((4, .int x1) :: [(0, fk_r g 0), (1, .int p1), (2, .int p2), (3, .int p3)])) (pc := 6) hk (by decide) rfl dX7_said_6 ?_
  refine j_sub hk (lv' := [(0, fk_r g 0), (1, .int p1), (2, .int p2), (3, .int p3), (4, .int x1)]) [1, 2, 3, 4, 0] rfl ?_
  refine j_iload (pc := 8) hk 4 rfl dX7_said_8 ?_
  refine j_if_eq (tgt := 20) (pc := 10) hk (by decide) dX7_said_10 (fun _ => ?_) (fun _ => ?_)
  · refine j_aload_n (pc := 20) hk 0 rfl ⟨_, rfl⟩ dX7_said_20 ?_
    refine f_7_56 (pc := 21) hk (rfl) dX7_said_21 ?_
    refine j_aload_n (pc := 24) hk 0 rfl ⟨_, rfl⟩ dX7_said_24 ?_
    refine f_7_18 (pc := 25) hk (rfl) dX7_said_25 ?_
    refine j_iload_n (pc := 28) hk 2 rfl dX7_said_28 ?_
    refine j_callVNv (pc := 29) hk [fk_r g 19, .int p2] [] rfl (fun l o hq9 => C6_take 40 19 (rfl) (rfl) p2 st2 l o hq9) (rcv_6 (rfl)) yv_X6_take ml_7_148 rfl (Nat.le_of_ble_eq_true rfl) (Nat.le_of_ble_eq_true rfl) (Nat.le_of_ble_eq_true rfl) dX7_said_29 (fun _ st3 => ?_)
    refine j_aload_n (pc := 32) hk 0 rfl ⟨_, rfl⟩ dX7_said_32 ?_
    refine f_7_56 (pc := 33) hk (rfl) dX7_said_33 ?_
    refine j_aload_n (pc := 36) hk 0 rfl ⟨_, rfl⟩ dX7_said_36 ?_
    refine f_7_49 (pc := 37) hk (rfl) dX7_said_37 ?_
    refine j_callVNv (pc := 40) hk [fk_r g 38] [] rfl (fun l o hq9 => C6_speak 40 (rfl) st3 l o hq9) (rcv_6 (rfl)) yv_X6_speak ml_7_158 rfl (Nat.le_of_ble_eq_true rfl) (Nat.le_of_ble_eq_true rfl) (Nat.le_of_ble_eq_true rfl) dX7_said_40 (fun _ st4 => ?_)
    refine j_iload_n (pc := 43) hk 3 rfl dX7_said_43 ?_
    refine j_iconst (pc := 44) hk dX7_said_44 (v := -1) (by decide) ?_
    refine j_icmp_ne (tgt := 56) (pc := 45) hk (by decide) dX7_said_45 (fun _ => ?_) (fun _ => ?_)
    · refine j_aload_n (pc := 48) hk 0 rfl ⟨_, rfl⟩ dX7_said_48 ?_
      refine f_7_56 (pc := 49) hk (rfl) dX7_said_49 ?_
      refine f_7_162 (pc := 52) hk (rfl) dX7_said_52 (fun x5 => ?_)
      exact j_iret (pc := 55) hk dX7_said_55
    · refine j_aload_n (pc := 56) hk 0 rfl ⟨_, rfl⟩ dX7_said_56 ?_
      refine f_7_56 (pc := 57) hk (rfl) dX7_said_57 ?_
      refine j_iload_n (pc := 60) hk 3 rfl dX7_said_60 ?_
      refine j_callVNi (pc := 61) hk [.int p3] [] rfl (fun l o hq9 => C6_sign 40 (rfl) p3 st4 l o hq9) (rcv_6 (rfl)) yv_X6_sign ml_7_165 rfl (Nat.le_of_ble_eq_true rfl) (Nat.le_of_ble_eq_true rfl) (Nat.le_of_ble_eq_true rfl) dX7_said_61 (fun x6 st7 => ?_)
      refine j_istore (lv' := ((5, .int x6) :: [(0, fk_r g 0), (1, .int p1), (2, .int p2), (3, .int p3), (4, .int x1)])) (pc := 64) hk (by decide) rfl dX7_said_64 ?_
      refine j_sub hk (lv' := [(0, fk_r g 0), (1, .int p1), (2, .int p2), (3, .int p3), (4, .int x1), (5, .int x6)]) [1, 2, 3, 4, 5, 0] rfl ?_
      refine j_iload (pc := 66) hk 5 rfl dX7_said_66 ?_
      refine j_iconst (pc := 68) hk dX7_said_68 (v := -1) (by decide) ?_
      refine j_icmp_ne (tgt := 81) (pc := 69) hk (by decide) dX7_said_69 (fun _ => ?_) (fun _ => ?_)
      · refine j_aload_n (pc := 72) hk 0 rfl ⟨_, rfl⟩ dX7_said_72 ?_
        refine j_bipush (pc := 73) hk dX7_said_73 (v := -5) (by decide) ?_
        refine j_callVi (pc := 75) hk [.int (-5 : Int32)] [] rfl (fun l o hq9 => C7_refuse (-5 : Int32) st7 l o hq9) (rcv_7 (rfl)) yv_X7_refuse ml_7_79 rfl (Nat.le_of_ble_eq_true rfl) (Nat.le_of_ble_eq_true rfl) (Nat.le_of_ble_eq_true rfl) dX7_said_75 (fun x8 st9 => ?_)
        refine j_goto (tgt := 83) (pc := 78) hk (by decide) dX7_said_78 ?_
        exact j_iret (pc := 83) hk dX7_said_83
      · refine j_iload (pc := 81) hk 5 rfl dX7_said_81 ?_
        exact j_iret (pc := 83) hk dX7_said_83
  · refine j_aload_n (pc := 13) hk 0 rfl ⟨_, rfl⟩ dX7_said_13 ?_
    refine j_iload (pc := 14) hk 4 rfl dX7_said_14 ?_
    refine j_callVi (pc := 16) hk [.int x1] [] rfl (fun l o hq9 => C7_refuse x1 st2 l o hq9) (rcv_7 (rfl)) yv_X7_refuse ml_7_79 rfl (Nat.le_of_ble_eq_true rfl) (Nat.le_of_ble_eq_true rfl) (Nat.le_of_ble_eq_true rfl) dX7_said_16 (fun x10 st11 => ?_)
    exact j_iret (pc := 19) hk dX7_said_19
theorem dX7_brings_0 : decode cX7_brings 0 = .ok (.aload_n 0, 1) := by decide +kernel
theorem dX7_brings_1 : decode cX7_brings 1 = .ok (.iload_n 1, 1) := by decide +kernel
theorem dX7_brings_2 : decode cX7_brings 2 = .ok (.iload_n 2, 1) := by decide +kernel
theorem dX7_brings_3 : decode cX7_brings 3 = .ok (.iload_n 3, 1) := by decide +kernel
theorem dX7_brings_4 : decode cX7_brings 4 = .ok (.iconst 1, 1) := by decide +kernel
theorem dX7_brings_5 : decode cX7_brings 5 = .ok (.invokevirtual 213, 3) := by decide +kernel
theorem dX7_brings_8 : decode cX7_brings 8 = .ok (.istore 4, 2) := by decide +kernel
theorem dX7_brings_10 : decode cX7_brings 10 = .ok (.iload 4, 2) := by decide +kernel
theorem dX7_brings_12 : decode cX7_brings 12 = .ok (.ifCond .eq 10, 3) := by decide +kernel
theorem dX7_brings_15 : decode cX7_brings 15 = .ok (.aload_n 0, 1) := by decide +kernel
theorem dX7_brings_16 : decode cX7_brings 16 = .ok (.iload 4, 2) := by decide +kernel
theorem dX7_brings_18 : decode cX7_brings 18 = .ok (.invokevirtual 79, 3) := by decide +kernel
theorem dX7_brings_21 : decode cX7_brings 21 = .ok (.ireturn, 1) := by decide +kernel
theorem dX7_brings_22 : decode cX7_brings 22 = .ok (.aload_n 0, 1) := by decide +kernel
theorem dX7_brings_23 : decode cX7_brings 23 = .ok (.getfield 56, 3) := by decide +kernel
theorem dX7_brings_26 : decode cX7_brings 26 = .ok (.aload_n 0, 1) := by decide +kernel
theorem dX7_brings_27 : decode cX7_brings 27 = .ok (.getfield 18, 3) := by decide +kernel
theorem dX7_brings_30 : decode cX7_brings 30 = .ok (.iload_n 2, 1) := by decide +kernel
theorem dX7_brings_31 : decode cX7_brings 31 = .ok (.invokevirtual 148, 3) := by decide +kernel
theorem dX7_brings_34 : decode cX7_brings 34 = .ok (.aload_n 0, 1) := by decide +kernel
theorem dX7_brings_35 : decode cX7_brings 35 = .ok (.getfield 56, 3) := by decide +kernel
theorem dX7_brings_38 : decode cX7_brings 38 = .ok (.aload_n 0, 1) := by decide +kernel
theorem dX7_brings_39 : decode cX7_brings 39 = .ok (.getfield 49, 3) := by decide +kernel
theorem dX7_brings_42 : decode cX7_brings 42 = .ok (.invokevirtual 158, 3) := by decide +kernel
theorem dX7_brings_45 : decode cX7_brings 45 = .ok (.iload_n 3, 1) := by decide +kernel
theorem dX7_brings_46 : decode cX7_brings 46 = .ok (.ifCond .ne 24, 3) := by decide +kernel
theorem dX7_brings_49 : decode cX7_brings 49 = .ok (.aload_n 0, 1) := by decide +kernel
theorem dX7_brings_50 : decode cX7_brings 50 = .ok (.getfield 18, 3) := by decide +kernel
theorem dX7_brings_53 : decode cX7_brings 53 = .ok (.aload_n 0, 1) := by decide +kernel
theorem dX7_brings_54 : decode cX7_brings 54 = .ok (.getfield 56, 3) := by decide +kernel
theorem dX7_brings_57 : decode cX7_brings 57 = .ok (.aload_n 0, 1) := by decide +kernel
theorem dX7_brings_58 : decode cX7_brings 58 = .ok (.getfield 18, 3) := by decide +kernel
theorem dX7_brings_61 : decode cX7_brings 61 = .ok (.getfield 181, 3) := by decide +kernel
theorem dX7_brings_64 : decode cX7_brings 64 = .ok (.invokevirtual 217, 3) := by decide +kernel
theorem dX7_brings_67 : decode cX7_brings 67 = .ok (.goto 14, 3) := by decide +kernel
theorem dX7_brings_70 : decode cX7_brings 70 = .ok (.aload_n 0, 1) := by decide +kernel
theorem dX7_brings_71 : decode cX7_brings 71 = .ok (.getfield 18, 3) := by decide +kernel
theorem dX7_brings_74 : decode cX7_brings 74 = .ok (.aload_n 0, 1) := by decide +kernel
theorem dX7_brings_75 : decode cX7_brings 75 = .ok (.getfield 56, 3) := by decide +kernel
theorem dX7_brings_78 : decode cX7_brings 78 = .ok (.invokevirtual 221, 3) := by decide +kernel
theorem dX7_brings_81 : decode cX7_brings 81 = .ok (.ireturn, 1) := by decide +kernel
def F7_brings (p1 : Int32) (p2 : Int32) (p3 : Int32) (st : fkS) : Option (Int32 × fkS) :=
 fk_bind (F7_noPieOfWhat p1 p2 p3 (1 : Int32) st) <| fun x1 st2 =>
 if x1 = 0 then
 (fk_bind (F6_take 40 19 p2 st2) <| fun _ st3 =>
 fk_bind (F6_speak 40 st3) <| fun _ st4 =>
 if p3 = 0 then
 (fk_let (gI st4 6 19) <| fun x5 =>
 fk_bind (F0_endOf 19 40 x5 st4) <| fun x6 st7 =>
 some (x6, st7))
 else
 (fk_bind (F0_illsOf 19 40 st4) <| fun x8 st9 =>
 some (x8, st9)))
 else
 (fk_bind (F7_refuse x1 st2) <| fun x10 st11 =>
 some (x10, st11))
set_option maxHeartbeats 1000000 in
set_option maxRecDepth 20000 in
theorem C7_brings (p1 : Int32) (p2 : Int32) (p3 : Int32) (st : fkS) {g : fkG} (l : Launch) (o : Int32 × fkS) (hF : F7_brings p1 p2 p3 st = some o) : fk_C wC yX7_brings cX7_brings 5 (some (.int)) 4 143 l g [fk_r g 0, .int p1, .int p2, .int p3] st (fk_eI o.1) o.2 := by
  refine fk_begin rfl (Nat.le_of_ble_eq_true rfl) (fun k hk => ?_) o hF
  have hk : fk_ok wC g k RX7 cX7_brings 5 (some (.int)) 4 143 := hk
  show fk_J wC g fk_eI k 0 [(0, fk_r g 0), (1, .int p1), (2, .int p2), (3, .int p3)] [] st (F7_brings p1 p2 p3 st)
  unfold F7_brings
  refine j_aload_n (pc := 0) hk 0 rfl ⟨_, rfl⟩ dX7_brings_0 ?_
  refine j_iload_n (pc := 1) hk 1 rfl dX7_brings_1 ?_
  refine j_iload_n (pc := 2) hk 2 rfl dX7_brings_2 ?_
  refine j_iload_n (pc := 3) hk 3 rfl dX7_brings_3 ?_
  refine j_iconst (pc := 4) hk dX7_brings_4 (v := 1) (by decide) ?_
  refine j_callVi (pc := 5) hk [.int p1, .int p2, .int p3, .int (1 : Int32)] [] rfl (fun l o hq9 => C7_noPieOfWhat p1 p2 p3 (1 : Int32) st l o hq9) (rcv_7 (rfl)) yv_X7_noPieOfWhat ml_7_213 rfl (Nat.le_of_ble_eq_true rfl) (Nat.le_of_ble_eq_true rfl) (Nat.le_of_ble_eq_true rfl) dX7_brings_5 (fun x1 st2 => ?_)
  refine j_istore (lv' := ((4, .int x1) :: [(0, fk_r g 0), (1, .int p1), (2, .int p2), (3, .int p3)])) (pc := 8) hk (by decide) rfl dX7_brings_8 ?_
  refine j_sub hk (lv' := [(0, fk_r g 0), (1, .int p1), (2, .int p2), (3, .int p3), (4, .int x1)]) [1, 2, 3, 4, 0] rfl ?_
  refine j_iload (pc := 10) hk 4 rfl dX7_brings_10 ?_
  refine j_if_eq (tgt := 22) (pc := 12) hk (by decide) dX7_brings_12 (fun _ => ?_) (fun _ => ?_)
  · refine j_aload_n (pc := 22) hk 0 rfl ⟨_, rfl⟩ dX7_brings_22 ?_
    refine f_7_56 (pc := 23) hk (rfl) dX7_brings_23 ?_
    refine j_aload_n (pc := 26) hk 0 rfl ⟨_, rfl⟩ dX7_brings_26 ?_
    refine f_7_18 (pc := 27) hk (rfl) dX7_brings_27 ?_
    refine j_iload_n (pc := 30) hk 2 rfl dX7_brings_30 ?_
    refine j_callVNv (pc := 31) hk [fk_r g 19, .int p2] [] rfl (fun l o hq9 => C6_take 40 19 (rfl) (rfl) p2 st2 l o hq9) (rcv_6 (rfl)) yv_X6_take ml_7_148 rfl (Nat.le_of_ble_eq_true rfl) (Nat.le_of_ble_eq_true rfl) (Nat.le_of_ble_eq_true rfl) dX7_brings_31 (fun _ st3 => ?_)
    refine j_aload_n (pc := 34) hk 0 rfl ⟨_, rfl⟩ dX7_brings_34 ?_
    refine f_7_56 (pc := 35) hk (rfl) dX7_brings_35 ?_
    refine j_aload_n (pc := 38) hk 0 rfl ⟨_, rfl⟩ dX7_brings_38 ?_
    refine f_7_49 (pc := 39) hk (rfl) dX7_brings_39 ?_
    refine j_callVNv (pc := 42) hk [fk_r g 38] [] rfl (fun l o hq9 => C6_speak 40 (rfl) st3 l o hq9) (rcv_6 (rfl)) yv_X6_speak ml_7_158 rfl (Nat.le_of_ble_eq_true rfl) (Nat.le_of_ble_eq_true rfl) (Nat.le_of_ble_eq_true rfl) dX7_brings_42 (fun _ st4 => ?_)
    refine j_iload_n (pc := 45) hk 3 rfl dX7_brings_45 ?_
    refine j_if_ne (tgt := 70) (pc := 46) hk (by decide) dX7_brings_46 (fun _ => ?_) (fun _ => ?_)
    · refine j_aload_n (pc := 49) hk 0 rfl ⟨_, rfl⟩ dX7_brings_49 ?_
      refine f_7_18 (pc := 50) hk (rfl) dX7_brings_50 ?_
      refine j_aload_n (pc := 53) hk 0 rfl ⟨_, rfl⟩ dX7_brings_53 ?_
      refine f_7_56 (pc := 54) hk (rfl) dX7_brings_54 ?_
      refine j_aload_n (pc := 57) hk 0 rfl ⟨_, rfl⟩ dX7_brings_57 ?_
      refine f_7_18 (pc := 58) hk (rfl) dX7_brings_58 ?_
      refine f_7_181 (pc := 61) hk (rfl) dX7_brings_61 (fun x5 => ?_)
      refine j_callVNi (pc := 64) hk [fk_r g 40, .int x5] [] rfl (fun l o hq9 => C0_endOf 19 40 (rfl) (rfl) x5 st4 l o hq9) (rcv_0 (rfl)) yv_X0_endOf ml_7_217 rfl (Nat.le_of_ble_eq_true rfl) (Nat.le_of_ble_eq_true rfl) (Nat.le_of_ble_eq_true rfl) dX7_brings_64 (fun x6 st7 => ?_)
      refine j_goto (tgt := 81) (pc := 67) hk (by decide) dX7_brings_67 ?_
      exact j_iret (pc := 81) hk dX7_brings_81
    · refine j_aload_n (pc := 70) hk 0 rfl ⟨_, rfl⟩ dX7_brings_70 ?_
      refine f_7_18 (pc := 71) hk (rfl) dX7_brings_71 ?_
      refine j_aload_n (pc := 74) hk 0 rfl ⟨_, rfl⟩ dX7_brings_74 ?_
      refine f_7_56 (pc := 75) hk (rfl) dX7_brings_75 ?_
      refine j_callVNi (pc := 78) hk [fk_r g 40] [] rfl (fun l o hq9 => C0_illsOf 19 40 (rfl) (rfl) st4 l o hq9) (rcv_0 (rfl)) yv_X0_illsOf ml_7_221 rfl (Nat.le_of_ble_eq_true rfl) (Nat.le_of_ble_eq_true rfl) (Nat.le_of_ble_eq_true rfl) dX7_brings_78 (fun x8 st9 => ?_)
      exact j_iret (pc := 81) hk dX7_brings_81
  · refine j_aload_n (pc := 15) hk 0 rfl ⟨_, rfl⟩ dX7_brings_15 ?_
    refine j_iload (pc := 16) hk 4 rfl dX7_brings_16 ?_
    refine j_callVi (pc := 18) hk [.int x1] [] rfl (fun l o hq9 => C7_refuse x1 st2 l o hq9) (rcv_7 (rfl)) yv_X7_refuse ml_7_79 rfl (Nat.le_of_ble_eq_true rfl) (Nat.le_of_ble_eq_true rfl) (Nat.le_of_ble_eq_true rfl) dX7_brings_18 (fun x10 st11 => ?_)
    exact j_iret (pc := 21) hk dX7_brings_21
theorem dX7_tenTo_0 : decode cX7_tenTo 0 = .ok (.iload_n 0, 1) := by decide +kernel
theorem dX7_tenTo_1 : decode cX7_tenTo 1 = .ok (.tableswitch 37 1 3 #[27, 30, 33], 27) := by decide +kernel
theorem dX7_tenTo_28 : decode cX7_tenTo 28 = .ok (.bipush 10, 2) := by decide +kernel
theorem dX7_tenTo_30 : decode cX7_tenTo 30 = .ok (.ireturn, 1) := by decide +kernel
theorem dX7_tenTo_31 : decode cX7_tenTo 31 = .ok (.bipush 100, 2) := by decide +kernel
theorem dX7_tenTo_33 : decode cX7_tenTo 33 = .ok (.ireturn, 1) := by decide +kernel
theorem dX7_tenTo_34 : decode cX7_tenTo 34 = .ok (.sipush 1000, 3) := by decide +kernel
theorem dX7_tenTo_37 : decode cX7_tenTo 37 = .ok (.ireturn, 1) := by decide +kernel
theorem dX7_tenTo_38 : decode cX7_tenTo 38 = .ok (.iconst 1, 1) := by decide +kernel
theorem dX7_tenTo_39 : decode cX7_tenTo 39 = .ok (.ireturn, 1) := by decide +kernel
def F7_tenTo (p0 : Int32) (st : fkS) : Option (Int32 × fkS) :=
 if p0 = (1 : Int32) then
 (some ((10 : Int32), st))
 else
 (if p0 = (2 : Int32) then
 (some ((100 : Int32), st))
 else
 (if p0 = (3 : Int32) then
 (some ((1000 : Int32), st))
 else
 (some ((1 : Int32), st))))
set_option maxHeartbeats 1000000 in
set_option maxRecDepth 20000 in
theorem C7_tenTo (p0 : Int32) (st : fkS) {g : fkG} (l : Launch) (o : Int32 × fkS) (hF : F7_tenTo p0 st = some o) : fk_C wC yX7_tenTo cX7_tenTo 1 (some (.int)) 0 0 l g [.int p0] st (fk_eI o.1) o.2 := by
  refine fk_begin rfl (Nat.le_of_ble_eq_true rfl) (fun k hk => ?_) o hF
  have hk : fk_ok wC g k RX7 cX7_tenTo 1 (some (.int)) 0 0 := hk
  show fk_J wC g fk_eI k 0 [(0, .int p0)] [] st (F7_tenTo p0 st)
  unfold F7_tenTo
  refine j_iload_n (pc := 0) hk 0 rfl dX7_tenTo_0 ?_
  refine j_case (pc := 1) hk (fun n1 => ?_) (fun n1 => ?_)
  · refine j_tswIn (off := 27) (tgt := 28) (pc := 1) hk (by rw [n1]; decide) (by rw [n1]; decide) (by rw [n1]; decide) (by decide) dX7_tenTo_1 ?_
    refine j_bipush (pc := 28) hk dX7_tenTo_28 (v := 10) (by decide) ?_
    exact j_iret (pc := 30) hk dX7_tenTo_30
  · refine j_case (pc := 1) hk (fun n2 => ?_) (fun n2 => ?_)
    · refine j_tswIn (off := 30) (tgt := 31) (pc := 1) hk (by rw [n2]; decide) (by rw [n2]; decide) (by rw [n2]; decide) (by decide) dX7_tenTo_1 ?_
      refine j_bipush (pc := 31) hk dX7_tenTo_31 (v := 100) (by decide) ?_
      exact j_iret (pc := 33) hk dX7_tenTo_33
    · refine j_case (pc := 1) hk (fun n3 => ?_) (fun n3 => ?_)
      · refine j_tswIn (off := 33) (tgt := 34) (pc := 1) hk (by rw [n3]; decide) (by rw [n3]; decide) (by rw [n3]; decide) (by decide) dX7_tenTo_1 ?_
        refine j_sipush (pc := 34) hk dX7_tenTo_34 (v := 1000) (by decide) ?_
        exact j_iret (pc := 37) hk dX7_tenTo_37
      · have mn1 := lv_neT (a := 1) n1 (by decide)
        have mn2 := lv_neT (a := 2) n2 (by decide)
        have mn3 := lv_neT (a := 3) n3 (by decide)
        refine j_tswOut (tgt := 38) (pc := 1) hk (by omega) (by decide) dX7_tenTo_1 ?_
        refine j_iconst (pc := 38) hk dX7_tenTo_38 (v := 1) (by decide) ?_
        exact j_iret (pc := 39) hk dX7_tenTo_39
theorem dX7_findBringing_0 : decode cX7_findBringing 0 = .ok (.iconst 0, 1) := by decide +kernel
theorem dX7_findBringing_1 : decode cX7_findBringing 1 = .ok (.istore_n 3, 1) := by decide +kernel
theorem dX7_findBringing_2 : decode cX7_findBringing 2 = .ok (.iload_n 3, 1) := by decide +kernel
theorem dX7_findBringing_3 : decode cX7_findBringing 3 = .ok (.iload_n 2, 1) := by decide +kernel
theorem dX7_findBringing_4 : decode cX7_findBringing 4 = .ok (.invokestatic 247, 3) := by decide +kernel
theorem dX7_findBringing_7 : decode cX7_findBringing 7 = .ok (.if_icmp .ge 53, 3) := by decide +kernel
theorem dX7_findBringing_10 : decode cX7_findBringing 10 = .ok (.aload_n 0, 1) := by decide +kernel
theorem dX7_findBringing_11 : decode cX7_findBringing 11 = .ok (.getfield 49, 3) := by decide +kernel
theorem dX7_findBringing_14 : decode cX7_findBringing 14 = .ok (.iload_n 2, 1) := by decide +kernel
theorem dX7_findBringing_15 : decode cX7_findBringing 15 = .ok (.iload_n 3, 1) := by decide +kernel
theorem dX7_findBringing_16 : decode cX7_findBringing 16 = .ok (.invokevirtual 155, 3) := by decide +kernel
theorem dX7_findBringing_19 : decode cX7_findBringing 19 = .ok (.aload_n 0, 1) := by decide +kernel
theorem dX7_findBringing_20 : decode cX7_findBringing 20 = .ok (.getfield 56, 3) := by decide +kernel
theorem dX7_findBringing_23 : decode cX7_findBringing 23 = .ok (.aload_n 0, 1) := by decide +kernel
theorem dX7_findBringing_24 : decode cX7_findBringing 24 = .ok (.getfield 49, 3) := by decide +kernel
theorem dX7_findBringing_27 : decode cX7_findBringing 27 = .ok (.invokevirtual 158, 3) := by decide +kernel
theorem dX7_findBringing_30 : decode cX7_findBringing 30 = .ok (.aload_n 0, 1) := by decide +kernel
theorem dX7_findBringing_31 : decode cX7_findBringing 31 = .ok (.getfield 18, 3) := by decide +kernel
theorem dX7_findBringing_34 : decode cX7_findBringing 34 = .ok (.aload_n 0, 1) := by decide +kernel
theorem dX7_findBringing_35 : decode cX7_findBringing 35 = .ok (.getfield 56, 3) := by decide +kernel
theorem dX7_findBringing_38 : decode cX7_findBringing 38 = .ok (.aload_n 0, 1) := by decide +kernel
theorem dX7_findBringing_39 : decode cX7_findBringing 39 = .ok (.getfield 18, 3) := by decide +kernel
theorem dX7_findBringing_42 : decode cX7_findBringing 42 = .ok (.getfield 181, 3) := by decide +kernel
theorem dX7_findBringing_45 : decode cX7_findBringing 45 = .ok (.invokevirtual 217, 3) := by decide +kernel
theorem dX7_findBringing_48 : decode cX7_findBringing 48 = .ok (.iload_n 1, 1) := by decide +kernel
theorem dX7_findBringing_49 : decode cX7_findBringing 49 = .ok (.if_icmp .ne 5, 3) := by decide +kernel
theorem dX7_findBringing_52 : decode cX7_findBringing 52 = .ok (.iconst 1, 1) := by decide +kernel
theorem dX7_findBringing_53 : decode cX7_findBringing 53 = .ok (.ireturn, 1) := by decide +kernel
theorem dX7_findBringing_54 : decode cX7_findBringing 54 = .ok (.iinc 3 1, 3) := by decide +kernel
theorem dX7_findBringing_57 : decode cX7_findBringing 57 = .ok (.goto (-55), 3) := by decide +kernel
theorem dX7_findBringing_60 : decode cX7_findBringing 60 = .ok (.iconst 0, 1) := by decide +kernel
theorem dX7_findBringing_61 : decode cX7_findBringing 61 = .ok (.ireturn, 1) := by decide +kernel
def B7_findBringing_2 (k2 : Int32 → Int32 → Int32 → fkS → Option (Int32 × fkS)) (v1 : Int32) (v2 : Int32) (v3 : Int32) (st : fkS) : Option (Int32 × fkS) :=
 fk_bind (F7_tenTo v2 st) <| fun x1 st2 =>
 if x1 ≤ v3 then
 (some ((0 : Int32), st2))
 else
 (fk_bind (F3_setByNumber v2 v3 st2) <| fun _ st3 =>
 fk_bind (F6_speak 40 st3) <| fun _ st4 =>
 fk_let (gI st4 6 19) <| fun x5 =>
 fk_bind (F0_endOf 19 40 x5 st4) <| fun x6 st7 =>
 if x6 = v1 then
 (some ((1 : Int32), st7))
 else
 (k2 v1 v2 (v3 + (1 : Int32)) st7))
set_option maxHeartbeats 1000000 in
set_option maxRecDepth 20000 in
theorem T7_findBringing_2 {g : fkG} {k : fkK} (hk : fk_ok wC g k RX7 cX7_findBringing 4 (some (.boolean)) 3 143) (k2 : Int32 → Int32 → Int32 → fkS → Option (Int32 × fkS)) (H2 : ∀ (v1 : Int32) (v2 : Int32) (v3 : Int32) (st : fkS), fk_J wC g fk_eI k 2 [(0, fk_r g 0), (1, .int v1), (2, .int v2), (3, .int v3)] [] st (k2 v1 v2 v3 st)) : ∀ (v1 : Int32) (v2 : Int32) (v3 : Int32) (st : fkS), fk_J wC g fk_eI k 2 [(0, fk_r g 0), (1, .int v1), (2, .int v2), (3, .int v3)] [] st (B7_findBringing_2 k2 v1 v2 v3 st) := by
  intro v1 v2 v3 st
  unfold B7_findBringing_2
  refine j_iload_n (pc := 2) hk 3 rfl dX7_findBringing_2 ?_
  refine j_iload_n (pc := 3) hk 2 rfl dX7_findBringing_3 ?_
  refine j_callSi (pc := 4) hk [.int v2] [.int v3] rfl (fun l o hq9 => C7_tenTo v2 st l o hq9) yv_X7_tenTo ml_7_247 rfl (Nat.le_of_ble_eq_true rfl) (Nat.le_of_ble_eq_true rfl) (Nat.le_of_ble_eq_true rfl) dX7_findBringing_4 (fun x1 st2 => ?_)
  refine j_icmp_ge (tgt := 60) (pc := 7) hk (by decide) dX7_findBringing_7 (fun _ => ?_) (fun _ => ?_)
  · refine j_iconst (pc := 60) hk dX7_findBringing_60 (v := 0) (by decide) ?_
    exact j_zret (pc := 61) hk rfl dX7_findBringing_61
  · refine j_aload_n (pc := 10) hk 0 rfl ⟨_, rfl⟩ dX7_findBringing_10 ?_
    refine f_7_49 (pc := 11) hk (rfl) dX7_findBringing_11 ?_
    refine j_iload_n (pc := 14) hk 2 rfl dX7_findBringing_14 ?_
    refine j_iload_n (pc := 15) hk 3 rfl dX7_findBringing_15 ?_
    refine j_callVNv (pc := 16) hk [.int v2, .int v3] [] rfl (fun l o hq9 => C3_setByNumber v2 v3 st2 l o hq9) (rcv_3 (rfl)) yv_X3_setByNumber ml_7_155 rfl (Nat.le_of_ble_eq_true rfl) (Nat.le_of_ble_eq_true rfl) (Nat.le_of_ble_eq_true rfl) dX7_findBringing_16 (fun _ st3 => ?_)
    refine j_aload_n (pc := 19) hk 0 rfl ⟨_, rfl⟩ dX7_findBringing_19 ?_
    refine f_7_56 (pc := 20) hk (rfl) dX7_findBringing_20 ?_
    refine j_aload_n (pc := 23) hk 0 rfl ⟨_, rfl⟩ dX7_findBringing_23 ?_
    refine f_7_49 (pc := 24) hk (rfl) dX7_findBringing_24 ?_
    refine j_callVNv (pc := 27) hk [fk_r g 38] [] rfl (fun l o hq9 => C6_speak 40 (rfl) st3 l o hq9) (rcv_6 (rfl)) yv_X6_speak ml_7_158 rfl (Nat.le_of_ble_eq_true rfl) (Nat.le_of_ble_eq_true rfl) (Nat.le_of_ble_eq_true rfl) dX7_findBringing_27 (fun _ st4 => ?_)
    refine j_aload_n (pc := 30) hk 0 rfl ⟨_, rfl⟩ dX7_findBringing_30 ?_
    refine f_7_18 (pc := 31) hk (rfl) dX7_findBringing_31 ?_
    refine j_aload_n (pc := 34) hk 0 rfl ⟨_, rfl⟩ dX7_findBringing_34 ?_
    refine f_7_56 (pc := 35) hk (rfl) dX7_findBringing_35 ?_
    refine j_aload_n (pc := 38) hk 0 rfl ⟨_, rfl⟩ dX7_findBringing_38 ?_
    refine f_7_18 (pc := 39) hk (rfl) dX7_findBringing_39 ?_
    refine f_7_181 (pc := 42) hk (rfl) dX7_findBringing_42 (fun x5 => ?_)
    refine j_callVNi (pc := 45) hk [fk_r g 40, .int x5] [] rfl (fun l o hq9 => C0_endOf 19 40 (rfl) (rfl) x5 st4 l o hq9) (rcv_0 (rfl)) yv_X0_endOf ml_7_217 rfl (Nat.le_of_ble_eq_true rfl) (Nat.le_of_ble_eq_true rfl) (Nat.le_of_ble_eq_true rfl) dX7_findBringing_45 (fun x6 st7 => ?_)
    refine j_iload_n (pc := 48) hk 1 rfl dX7_findBringing_48 ?_
    refine j_icmp_ne (tgt := 54) (pc := 49) hk (by decide) dX7_findBringing_49 (fun _ => ?_) (fun _ => ?_)
    · refine j_iconst (pc := 52) hk dX7_findBringing_52 (v := 1) (by decide) ?_
      exact j_zret (pc := 53) hk rfl dX7_findBringing_53
    · refine j_iinc (dd := (1 : Int32)) (lv' := ((3, .int (v3 + (1 : Int32))) :: [(0, fk_r g 0), (1, .int v1), (2, .int v2)])) (pc := 54) hk 3 rfl (by decide) (by decide) rfl dX7_findBringing_54 ?_
      refine j_sub hk (lv' := [(0, fk_r g 0), (1, .int v1), (2, .int v2), (3, .int (v3 + (1 : Int32)))]) [1, 2, 3, 0] rfl ?_
      refine j_goto (tgt := 2) (pc := 57) hk (by decide) dX7_findBringing_57 ?_
      exact j_sub hk [0, 1, 2, 3] rfl (H2 v1 v2 (v3 + (1 : Int32)) st7)
set_option maxHeartbeats 1000000 in
set_option maxRecDepth 20000 in
theorem L7_findBringing_2 {g : fkG} {k : fkK} (hk : fk_ok wC g k RX7 cX7_findBringing 4 (some (.boolean)) 3 143) (fu : Nat) : ∀ (v1 : Int32) (v2 : Int32) (v3 : Int32) (st : fkS), fk_J wC g fk_eI k 2 [(0, fk_r g 0), (1, .int v1), (2, .int v2), (3, .int v3)] [] st (fk_lp3 (B7_findBringing_2) fu v1 v2 v3 st) := by
  induction fu with
  | zero =>
    intro v1 v2 v3 st
    exact j_none hk
  | succ fu ih =>
    exact T7_findBringing_2 hk _ ih
def F7_findBringing (p1 : Int32) (p2 : Int32) (st : fkS) : Option (Int32 × fkS) :=
 fk_lp3 (B7_findBringing_2) fk_fuel p1 p2 (0 : Int32) st
set_option maxHeartbeats 1000000 in
set_option maxRecDepth 20000 in
theorem C7_findBringing (p1 : Int32) (p2 : Int32) (st : fkS) {g : fkG} (l : Launch) (o : Int32 × fkS) (hF : F7_findBringing p1 p2 st = some o) : fk_C wC yX7_findBringing cX7_findBringing 4 (some (.boolean)) 3 143 l g [fk_r g 0, .int p1, .int p2] st (fk_eI o.1) o.2 := by
  refine fk_begin rfl (Nat.le_of_ble_eq_true rfl) (fun k hk => ?_) o hF
  have hk : fk_ok wC g k RX7 cX7_findBringing 4 (some (.boolean)) 3 143 := hk
  show fk_J wC g fk_eI k 0 [(0, fk_r g 0), (1, .int p1), (2, .int p2)] [] st (F7_findBringing p1 p2 st)
  unfold F7_findBringing
  refine j_iconst (pc := 0) hk dX7_findBringing_0 (v := 0) (by decide) ?_
  refine j_istore_n (lv' := ((3, .int (0 : Int32)) :: [(0, fk_r g 0), (1, .int p1), (2, .int p2)])) (pc := 1) hk rfl (by decide) rfl dX7_findBringing_1 ?_
  refine j_sub hk (lv' := [(0, fk_r g 0), (1, .int p1), (2, .int p2), (3, .int (0 : Int32))]) [1, 2, 3, 0] rfl ?_
  exact j_sub hk [0, 1, 2, 3] rfl (L7_findBringing_2 hk fk_fuel p1 p2 (0 : Int32) st)
theorem dX7_soonest_0 : decode cX7_soonest 0 = .ok (.aload_n 0, 1) := by decide +kernel
theorem dX7_soonest_1 : decode cX7_soonest 1 = .ok (.getfield 18, 3) := by decide +kernel
theorem dX7_soonest_4 : decode cX7_soonest 4 = .ok (.iload_n 1, 1) := by decide +kernel
theorem dX7_soonest_5 : decode cX7_soonest 5 = .ok (.invokevirtual 126, 3) := by decide +kernel
theorem dX7_soonest_8 : decode cX7_soonest 8 = .ok (.ifCond .eq 9, 3) := by decide +kernel
theorem dX7_soonest_11 : decode cX7_soonest 11 = .ok (.aload_n 0, 1) := by decide +kernel
theorem dX7_soonest_12 : decode cX7_soonest 12 = .ok (.iconst (-1), 1) := by decide +kernel
theorem dX7_soonest_13 : decode cX7_soonest 13 = .ok (.invokevirtual 139, 3) := by decide +kernel
theorem dX7_soonest_16 : decode cX7_soonest 16 = .ok (.ireturn, 1) := by decide +kernel
theorem dX7_soonest_17 : decode cX7_soonest 17 = .ok (.iload_n 2, 1) := by decide +kernel
theorem dX7_soonest_18 : decode cX7_soonest 18 = .ok (.ifCond .lt 9, 3) := by decide +kernel
theorem dX7_soonest_21 : decode cX7_soonest 21 = .ok (.iload_n 2, 1) := by decide +kernel
theorem dX7_soonest_22 : decode cX7_soonest 22 = .ok (.bipush 8, 2) := by decide +kernel
theorem dX7_soonest_24 : decode cX7_soonest 24 = .ok (.if_icmp .lt 10, 3) := by decide +kernel
theorem dX7_soonest_27 : decode cX7_soonest 27 = .ok (.aload_n 0, 1) := by decide +kernel
theorem dX7_soonest_28 : decode cX7_soonest 28 = .ok (.bipush (-6), 2) := by decide +kernel
theorem dX7_soonest_30 : decode cX7_soonest 30 = .ok (.invokevirtual 139, 3) := by decide +kernel
theorem dX7_soonest_33 : decode cX7_soonest 33 = .ok (.ireturn, 1) := by decide +kernel
theorem dX7_soonest_34 : decode cX7_soonest 34 = .ok (.aload_n 0, 1) := by decide +kernel
theorem dX7_soonest_35 : decode cX7_soonest 35 = .ok (.getfield 56, 3) := by decide +kernel
theorem dX7_soonest_38 : decode cX7_soonest 38 = .ok (.aload_n 0, 1) := by decide +kernel
theorem dX7_soonest_39 : decode cX7_soonest 39 = .ok (.getfield 18, 3) := by decide +kernel
theorem dX7_soonest_42 : decode cX7_soonest 42 = .ok (.iload_n 1, 1) := by decide +kernel
theorem dX7_soonest_43 : decode cX7_soonest 43 = .ok (.invokevirtual 148, 3) := by decide +kernel
theorem dX7_soonest_46 : decode cX7_soonest 46 = .ok (.iconst 0, 1) := by decide +kernel
theorem dX7_soonest_47 : decode cX7_soonest 47 = .ok (.istore 4, 2) := by decide +kernel
theorem dX7_soonest_49 : decode cX7_soonest 49 = .ok (.iconst 0, 1) := by decide +kernel
theorem dX7_soonest_50 : decode cX7_soonest 50 = .ok (.istore 5, 2) := by decide +kernel
theorem dX7_soonest_52 : decode cX7_soonest 52 = .ok (.iload 5, 2) := by decide +kernel
theorem dX7_soonest_54 : decode cX7_soonest 54 = .ok (.iconst 3, 1) := by decide +kernel
theorem dX7_soonest_55 : decode cX7_soonest 55 = .ok (.if_icmp .gt 23, 3) := by decide +kernel
theorem dX7_soonest_58 : decode cX7_soonest 58 = .ok (.iload 4, 2) := by decide +kernel
theorem dX7_soonest_60 : decode cX7_soonest 60 = .ok (.ifCond .ne 18, 3) := by decide +kernel
theorem dX7_soonest_63 : decode cX7_soonest 63 = .ok (.aload_n 0, 1) := by decide +kernel
theorem dX7_soonest_64 : decode cX7_soonest 64 = .ok (.iload_n 2, 1) := by decide +kernel
theorem dX7_soonest_65 : decode cX7_soonest 65 = .ok (.iload 5, 2) := by decide +kernel
theorem dX7_soonest_67 : decode cX7_soonest 67 = .ok (.invokevirtual 225, 3) := by decide +kernel
theorem dX7_soonest_70 : decode cX7_soonest 70 = .ok (.istore 4, 2) := by decide +kernel
theorem dX7_soonest_72 : decode cX7_soonest 72 = .ok (.iinc 5 1, 3) := by decide +kernel
theorem dX7_soonest_75 : decode cX7_soonest 75 = .ok (.goto (-23), 3) := by decide +kernel
theorem dX7_soonest_78 : decode cX7_soonest 78 = .ok (.iload_n 3, 1) := by decide +kernel
theorem dX7_soonest_79 : decode cX7_soonest 79 = .ok (.iconst (-1), 1) := by decide +kernel
theorem dX7_soonest_80 : decode cX7_soonest 80 = .ok (.if_icmp .ne 20, 3) := by decide +kernel
theorem dX7_soonest_83 : decode cX7_soonest 83 = .ok (.iload 4, 2) := by decide +kernel
theorem dX7_soonest_85 : decode cX7_soonest 85 = .ok (.ifCond .eq 13, 3) := by decide +kernel
theorem dX7_soonest_88 : decode cX7_soonest 88 = .ok (.aload_n 0, 1) := by decide +kernel
theorem dX7_soonest_89 : decode cX7_soonest 89 = .ok (.getfield 49, 3) := by decide +kernel
theorem dX7_soonest_92 : decode cX7_soonest 92 = .ok (.getfield 228, 3) := by decide +kernel
theorem dX7_soonest_95 : decode cX7_soonest 95 = .ok (.goto 4, 3) := by decide +kernel
theorem dX7_soonest_98 : decode cX7_soonest 98 = .ok (.iconst (-1), 1) := by decide +kernel
theorem dX7_soonest_99 : decode cX7_soonest 99 = .ok (.ireturn, 1) := by decide +kernel
theorem dX7_soonest_100 : decode cX7_soonest 100 = .ok (.iload 4, 2) := by decide +kernel
theorem dX7_soonest_102 : decode cX7_soonest 102 = .ok (.ifCond .eq 14, 3) := by decide +kernel
theorem dX7_soonest_105 : decode cX7_soonest 105 = .ok (.aload_n 0, 1) := by decide +kernel
theorem dX7_soonest_106 : decode cX7_soonest 106 = .ok (.getfield 49, 3) := by decide +kernel
theorem dX7_soonest_109 : decode cX7_soonest 109 = .ok (.iload_n 3, 1) := by decide +kernel
theorem dX7_soonest_110 : decode cX7_soonest 110 = .ok (.invokevirtual 231, 3) := by decide +kernel
theorem dX7_soonest_113 : decode cX7_soonest 113 = .ok (.goto 4, 3) := by decide +kernel
theorem dX7_soonest_116 : decode cX7_soonest 116 = .ok (.iconst (-1), 1) := by decide +kernel
theorem dX7_soonest_117 : decode cX7_soonest 117 = .ok (.istore 5, 2) := by decide +kernel
theorem dX7_soonest_119 : decode cX7_soonest 119 = .ok (.iload 5, 2) := by decide +kernel
theorem dX7_soonest_121 : decode cX7_soonest 121 = .ok (.iconst (-1), 1) := by decide +kernel
theorem dX7_soonest_122 : decode cX7_soonest 122 = .ok (.if_icmp .ne 12, 3) := by decide +kernel
theorem dX7_soonest_125 : decode cX7_soonest 125 = .ok (.aload_n 0, 1) := by decide +kernel
theorem dX7_soonest_126 : decode cX7_soonest 126 = .ok (.bipush (-5), 2) := by decide +kernel
theorem dX7_soonest_128 : decode cX7_soonest 128 = .ok (.invokevirtual 139, 3) := by decide +kernel
theorem dX7_soonest_131 : decode cX7_soonest 131 = .ok (.goto 5, 3) := by decide +kernel
theorem dX7_soonest_134 : decode cX7_soonest 134 = .ok (.iload 5, 2) := by decide +kernel
theorem dX7_soonest_136 : decode cX7_soonest 136 = .ok (.ireturn, 1) := by decide +kernel
def B7_soonest_27 (st : fkS) : Option (Int32 × fkS) :=
 fk_bind (F7_refuseFar (-6 : Int32) st) <| fun x6 st7 =>
 some (x6, st7)
set_option maxHeartbeats 1000000 in
set_option maxRecDepth 20000 in
theorem T7_soonest_27 {g : fkG} {k : fkK} (hk : fk_ok wC g k RX7 cX7_soonest 6 (some (.int)) 4 166) : ∀ (st : fkS), fk_J wC g fk_eI k 27 [(0, fk_r g 0)] [] st (B7_soonest_27 st) := by
  intro st
  unfold B7_soonest_27
  refine j_aload_n (pc := 27) hk 0 rfl ⟨_, rfl⟩ dX7_soonest_27 ?_
  refine j_bipush (pc := 28) hk dX7_soonest_28 (v := -6) (by decide) ?_
  refine j_callVi (pc := 30) hk [.int (-6 : Int32)] [] rfl (fun l o hq9 => C7_refuseFar (-6 : Int32) st l o hq9) (rcv_7 (rfl)) yv_X7_refuseFar ml_7_139 rfl (Nat.le_of_ble_eq_true rfl) (Nat.le_of_ble_eq_true rfl) (Nat.le_of_ble_eq_true rfl) dX7_soonest_30 (fun x6 st7 => ?_)
  exact j_iret (pc := 33) hk dX7_soonest_33
def B7_soonest_117 (s0 : Int32) (st : fkS) : Option (Int32 × fkS) :=
 if s0 = (-1 : Int32) then
 (fk_bind (F7_refuseFar (-5 : Int32) st) <| fun x13 st14 =>
 some (x13, st14))
 else
 (some (s0, st))
set_option maxHeartbeats 1000000 in
set_option maxRecDepth 20000 in
theorem T7_soonest_117 {g : fkG} {k : fkK} (hk : fk_ok wC g k RX7 cX7_soonest 6 (some (.int)) 4 166) : ∀ (s0 : Int32) (st : fkS), fk_J wC g fk_eI k 117 [(0, fk_r g 0)] [.int s0] st (B7_soonest_117 s0 st) := by
  intro s0 st
  unfold B7_soonest_117
  refine j_istore (lv' := ((5, .int s0) :: [(0, fk_r g 0)])) (pc := 117) hk (by decide) rfl dX7_soonest_117 ?_
  refine j_sub hk (lv' := [(0, fk_r g 0), (5, .int s0)]) [1, 0] rfl ?_
  refine j_iload (pc := 119) hk 1 rfl dX7_soonest_119 ?_
  refine j_iconst (pc := 121) hk dX7_soonest_121 (v := -1) (by decide) ?_
  refine j_icmp_ne (tgt := 134) (pc := 122) hk (by decide) dX7_soonest_122 (fun _ => ?_) (fun _ => ?_)
  · refine j_aload_n (pc := 125) hk 0 rfl ⟨_, rfl⟩ dX7_soonest_125 ?_
    refine j_bipush (pc := 126) hk dX7_soonest_126 (v := -5) (by decide) ?_
    refine j_callVi (pc := 128) hk [.int (-5 : Int32)] [] rfl (fun l o hq9 => C7_refuseFar (-5 : Int32) st l o hq9) (rcv_7 (rfl)) yv_X7_refuseFar ml_7_139 rfl (Nat.le_of_ble_eq_true rfl) (Nat.le_of_ble_eq_true rfl) (Nat.le_of_ble_eq_true rfl) dX7_soonest_128 (fun x13 st14 => ?_)
    refine j_goto (tgt := 136) (pc := 131) hk (by decide) dX7_soonest_131 ?_
    exact j_iret (pc := 136) hk dX7_soonest_136
  · refine j_iload (pc := 134) hk 1 rfl dX7_soonest_134 ?_
    exact j_iret (pc := 136) hk dX7_soonest_136
def B7_soonest_78 (v3 : Int32) (v4 : Int32) (st : fkS) : Option (Int32 × fkS) :=
 if v3 = (-1 : Int32) then
 (if v4 = 0 then
 (some ((-1 : Int32), st))
 else
 (fk_let (gI st 61 38) <| fun x10 =>
 some (x10, st)))
 else
 (if v4 = 0 then
 (B7_soonest_117 (-1 : Int32) st)
 else
 (fk_bind (F3_layer v3 st) <| fun x11 st12 =>
 B7_soonest_117 x11 st12))
set_option maxHeartbeats 1000000 in
set_option maxRecDepth 20000 in
theorem T7_soonest_78 {g : fkG} {k : fkK} (hk : fk_ok wC g k RX7 cX7_soonest 6 (some (.int)) 4 166) : ∀ (v3 : Int32) (v4 : Int32) (st : fkS), fk_J wC g fk_eI k 78 [(0, fk_r g 0), (3, .int v3), (4, .int v4)] [] st (B7_soonest_78 v3 v4 st) := by
  intro v3 v4 st
  unfold B7_soonest_78
  refine j_iload_n (pc := 78) hk 1 rfl dX7_soonest_78 ?_
  refine j_iconst (pc := 79) hk dX7_soonest_79 (v := -1) (by decide) ?_
  refine j_icmp_ne (tgt := 100) (pc := 80) hk (by decide) dX7_soonest_80 (fun _ => ?_) (fun _ => ?_)
  · refine j_iload (pc := 83) hk 2 rfl dX7_soonest_83 ?_
    refine j_if_eq (tgt := 98) (pc := 85) hk (by decide) dX7_soonest_85 (fun _ => ?_) (fun _ => ?_)
    · refine j_iconst (pc := 98) hk dX7_soonest_98 (v := -1) (by decide) ?_
      exact j_iret (pc := 99) hk dX7_soonest_99
    · refine j_aload_n (pc := 88) hk 0 rfl ⟨_, rfl⟩ dX7_soonest_88 ?_
      refine f_7_49 (pc := 89) hk (rfl) dX7_soonest_89 ?_
      refine f_7_228 (pc := 92) hk (rfl) dX7_soonest_92 (fun x10 => ?_)
      refine j_goto (tgt := 99) (pc := 95) hk (by decide) dX7_soonest_95 ?_
      exact j_iret (pc := 99) hk dX7_soonest_99
  · refine j_iload (pc := 100) hk 2 rfl dX7_soonest_100 ?_
    refine j_if_eq (tgt := 116) (pc := 102) hk (by decide) dX7_soonest_102 (fun _ => ?_) (fun _ => ?_)
    · refine j_iconst (pc := 116) hk dX7_soonest_116 (v := -1) (by decide) ?_
      exact j_sub hk [0] rfl (T7_soonest_117 hk (-1 : Int32) st)
    · refine j_aload_n (pc := 105) hk 0 rfl ⟨_, rfl⟩ dX7_soonest_105 ?_
      refine f_7_49 (pc := 106) hk (rfl) dX7_soonest_106 ?_
      refine j_iload_n (pc := 109) hk 1 rfl dX7_soonest_109 ?_
      refine j_callVNi (pc := 110) hk [.int v3] [] rfl (fun l o hq9 => C3_layer v3 st l o hq9) (rcv_3 (rfl)) yv_X3_layer ml_7_231 rfl (Nat.le_of_ble_eq_true rfl) (Nat.le_of_ble_eq_true rfl) (Nat.le_of_ble_eq_true rfl) dX7_soonest_110 (fun x11 st12 => ?_)
      refine j_goto (tgt := 117) (pc := 113) hk (by decide) dX7_soonest_113 ?_
      exact j_sub hk [0] rfl (T7_soonest_117 hk x11 st12)
def B7_soonest_52 (k52 : Int32 → Int32 → Int32 → Int32 → fkS → Option (Int32 × fkS)) (v2 : Int32) (v3 : Int32) (v4 : Int32) (v5 : Int32) (st : fkS) : Option (Int32 × fkS) :=
 if (3 : Int32) < v5 then
 (B7_soonest_78 v3 v4 st)
 else
 (if v4 = 0 then
 (fk_bind (F7_findBringing v2 v5 st) <| fun x8 st9 =>
 k52 v2 v3 x8 (v5 + (1 : Int32)) st9)
 else
 (B7_soonest_78 v3 v4 st))
set_option maxHeartbeats 1000000 in
set_option maxRecDepth 20000 in
theorem T7_soonest_52 {g : fkG} {k : fkK} (hk : fk_ok wC g k RX7 cX7_soonest 6 (some (.int)) 4 166) (k52 : Int32 → Int32 → Int32 → Int32 → fkS → Option (Int32 × fkS)) (H52 : ∀ (v2 : Int32) (v3 : Int32) (v4 : Int32) (v5 : Int32) (st : fkS), fk_J wC g fk_eI k 52 [(0, fk_r g 0), (2, .int v2), (3, .int v3), (4, .int v4), (5, .int v5)] [] st (k52 v2 v3 v4 v5 st)) : ∀ (v2 : Int32) (v3 : Int32) (v4 : Int32) (v5 : Int32) (st : fkS), fk_J wC g fk_eI k 52 [(0, fk_r g 0), (2, .int v2), (3, .int v3), (4, .int v4), (5, .int v5)] [] st (B7_soonest_52 k52 v2 v3 v4 v5 st) := by
  intro v2 v3 v4 v5 st
  unfold B7_soonest_52
  refine j_iload (pc := 52) hk 4 rfl dX7_soonest_52 ?_
  refine j_iconst (pc := 54) hk dX7_soonest_54 (v := 3) (by decide) ?_
  refine j_icmp_gt (tgt := 78) (pc := 55) hk (by decide) dX7_soonest_55 (fun _ => ?_) (fun _ => ?_)
  · exact j_sub hk [0, 2, 3] rfl (T7_soonest_78 hk v3 v4 st)
  · refine j_iload (pc := 58) hk 3 rfl dX7_soonest_58 ?_
    refine j_if_ne (tgt := 78) (pc := 60) hk (by decide) dX7_soonest_60 (fun _ => ?_) (fun _ => ?_)
    · refine j_aload_n (pc := 63) hk 0 rfl ⟨_, rfl⟩ dX7_soonest_63 ?_
      refine j_iload_n (pc := 64) hk 1 rfl dX7_soonest_64 ?_
      refine j_iload (pc := 65) hk 4 rfl dX7_soonest_65 ?_
      refine j_callVi (pc := 67) hk [.int v2, .int v5] [] rfl (fun l o hq9 => C7_findBringing v2 v5 st l o hq9) (rcv_7 (rfl)) yv_X7_findBringing ml_7_225 rfl (Nat.le_of_ble_eq_true rfl) (Nat.le_of_ble_eq_true rfl) (Nat.le_of_ble_eq_true rfl) dX7_soonest_67 (fun x8 st9 => ?_)
      refine j_istore (lv' := ((4, .int x8) :: [(0, fk_r g 0), (2, .int v2), (3, .int v3), (5, .int v5)])) (pc := 70) hk (by decide) rfl dX7_soonest_70 ?_
      refine j_sub hk (lv' := [(0, fk_r g 0), (2, .int v2), (3, .int v3), (4, .int x8), (5, .int v5)]) [1, 2, 3, 0, 4] rfl ?_
      refine j_iinc (dd := (1 : Int32)) (lv' := ((5, .int (v5 + (1 : Int32))) :: [(0, fk_r g 0), (2, .int v2), (3, .int v3), (4, .int x8)])) (pc := 72) hk 4 rfl (by decide) (by decide) rfl dX7_soonest_72 ?_
      refine j_sub hk (lv' := [(0, fk_r g 0), (2, .int v2), (3, .int v3), (4, .int x8), (5, .int (v5 + (1 : Int32)))]) [1, 2, 3, 4, 0] rfl ?_
      refine j_goto (tgt := 52) (pc := 75) hk (by decide) dX7_soonest_75 ?_
      exact j_sub hk [0, 1, 2, 3, 4] rfl (H52 v2 v3 x8 (v5 + (1 : Int32)) st9)
    · exact j_sub hk [0, 2, 3] rfl (T7_soonest_78 hk v3 v4 st)
set_option maxHeartbeats 1000000 in
set_option maxRecDepth 20000 in
theorem L7_soonest_52 {g : fkG} {k : fkK} (hk : fk_ok wC g k RX7 cX7_soonest 6 (some (.int)) 4 166) (fu : Nat) : ∀ (v2 : Int32) (v3 : Int32) (v4 : Int32) (v5 : Int32) (st : fkS), fk_J wC g fk_eI k 52 [(0, fk_r g 0), (2, .int v2), (3, .int v3), (4, .int v4), (5, .int v5)] [] st (fk_lp4 (B7_soonest_52) fu v2 v3 v4 v5 st) := by
  induction fu with
  | zero =>
    intro v2 v3 v4 v5 st
    exact j_none hk
  | succ fu ih =>
    exact T7_soonest_52 hk _ ih
def F7_soonest (p1 : Int32) (p2 : Int32) (p3 : Int32) (st : fkS) : Option (Int32 × fkS) :=
 fk_bind (F0_lacks 19 p1 st) <| fun x1 st2 =>
 if x1 = 0 then
 (if p2 < 0 then
 (B7_soonest_27 st2)
 else
 (if p2 < (8 : Int32) then
 (fk_bind (F6_take 40 19 p1 st2) <| fun _ st3 =>
 fk_lp4 (B7_soonest_52) fk_fuel p2 p3 (0 : Int32) (0 : Int32) st3)
 else
 (B7_soonest_27 st2)))
 else
 (fk_bind (F7_refuseFar (-1 : Int32) st2) <| fun x4 st5 =>
 some (x4, st5))
set_option maxHeartbeats 1000000 in
set_option maxRecDepth 20000 in
theorem C7_soonest (p1 : Int32) (p2 : Int32) (p3 : Int32) (st : fkS) {g : fkG} (l : Launch) (o : Int32 × fkS) (hF : F7_soonest p1 p2 p3 st = some o) : fk_C wC yX7_soonest cX7_soonest 6 (some (.int)) 4 166 l g [fk_r g 0, .int p1, .int p2, .int p3] st (fk_eI o.1) o.2 := by
  refine fk_begin rfl (Nat.le_of_ble_eq_true rfl) (fun k hk => ?_) o hF
  have hk : fk_ok wC g k RX7 cX7_soonest 6 (some (.int)) 4 166 := hk
  show fk_J wC g fk_eI k 0 [(0, fk_r g 0), (1, .int p1), (2, .int p2), (3, .int p3)] [] st (F7_soonest p1 p2 p3 st)
  unfold F7_soonest
  refine j_aload_n (pc := 0) hk 0 rfl ⟨_, rfl⟩ dX7_soonest_0 ?_
  refine f_7_18 (pc := 1) hk (rfl) dX7_soonest_1 ?_
  refine j_iload_n (pc := 4) hk 1 rfl dX7_soonest_4 ?_
  refine j_callVNi (pc := 5) hk [.int p1] [] rfl (fun l o hq9 => C0_lacks 19 (rfl) p1 st l o hq9) (rcv_0 (rfl)) yv_X0_lacks ml_7_126 rfl (Nat.le_of_ble_eq_true rfl) (Nat.le_of_ble_eq_true rfl) (Nat.le_of_ble_eq_true rfl) dX7_soonest_5 (fun x1 st2 => ?_)
  refine j_if_eq (tgt := 17) (pc := 8) hk (by decide) dX7_soonest_8 (fun _ => ?_) (fun _ => ?_)
  · refine j_iload_n (pc := 17) hk 2 rfl dX7_soonest_17 ?_
    refine j_if_lt (tgt := 27) (pc := 18) hk (by decide) dX7_soonest_18 (fun _ => ?_) (fun _ => ?_)
    · exact j_sub hk [0] rfl (T7_soonest_27 hk st2)
    · refine j_iload_n (pc := 21) hk 2 rfl dX7_soonest_21 ?_
      refine j_bipush (pc := 22) hk dX7_soonest_22 (v := 8) (by decide) ?_
      refine j_icmp_lt (tgt := 34) (pc := 24) hk (by decide) dX7_soonest_24 (fun _ => ?_) (fun _ => ?_)
      · refine j_aload_n (pc := 34) hk 0 rfl ⟨_, rfl⟩ dX7_soonest_34 ?_
        refine f_7_56 (pc := 35) hk (rfl) dX7_soonest_35 ?_
        refine j_aload_n (pc := 38) hk 0 rfl ⟨_, rfl⟩ dX7_soonest_38 ?_
        refine f_7_18 (pc := 39) hk (rfl) dX7_soonest_39 ?_
        refine j_iload_n (pc := 42) hk 1 rfl dX7_soonest_42 ?_
        refine j_callVNv (pc := 43) hk [fk_r g 19, .int p1] [] rfl (fun l o hq9 => C6_take 40 19 (rfl) (rfl) p1 st2 l o hq9) (rcv_6 (rfl)) yv_X6_take ml_7_148 rfl (Nat.le_of_ble_eq_true rfl) (Nat.le_of_ble_eq_true rfl) (Nat.le_of_ble_eq_true rfl) dX7_soonest_43 (fun _ st3 => ?_)
        refine j_iconst (pc := 46) hk dX7_soonest_46 (v := 0) (by decide) ?_
        refine j_istore (lv' := ((4, .int (0 : Int32)) :: [(0, fk_r g 0), (1, .int p1), (2, .int p2), (3, .int p3)])) (pc := 47) hk (by decide) rfl dX7_soonest_47 ?_
        refine j_sub hk (lv' := [(0, fk_r g 0), (1, .int p1), (2, .int p2), (3, .int p3), (4, .int (0 : Int32))]) [1, 2, 3, 4, 0] rfl ?_
        refine j_iconst (pc := 49) hk dX7_soonest_49 (v := 0) (by decide) ?_
        refine j_istore (lv' := ((5, .int (0 : Int32)) :: [(0, fk_r g 0), (1, .int p1), (2, .int p2), (3, .int p3), (4, .int (0 : Int32))])) (pc := 50) hk (by decide) rfl dX7_soonest_50 ?_
        refine j_sub hk (lv' := [(0, fk_r g 0), (1, .int p1), (2, .int p2), (3, .int p3), (4, .int (0 : Int32)), (5, .int (0 : Int32))]) [1, 2, 3, 4, 5, 0] rfl ?_
        exact j_sub hk [0, 2, 3, 4, 5] rfl (L7_soonest_52 hk fk_fuel p2 p3 (0 : Int32) (0 : Int32) st3)
      · exact j_sub hk [0] rfl (T7_soonest_27 hk st2)
  · refine j_aload_n (pc := 11) hk 0 rfl ⟨_, rfl⟩ dX7_soonest_11 ?_
    refine j_iconst (pc := 12) hk dX7_soonest_12 (v := -1) (by decide) ?_
    refine j_callVi (pc := 13) hk [.int (-1 : Int32)] [] rfl (fun l o hq9 => C7_refuseFar (-1 : Int32) st2 l o hq9) (rcv_7 (rfl)) yv_X7_refuseFar ml_7_139 rfl (Nat.le_of_ble_eq_true rfl) (Nat.le_of_ble_eq_true rfl) (Nat.le_of_ble_eq_true rfl) dX7_soonest_13 (fun x4 st5 => ?_)
    exact j_iret (pc := 16) hk dX7_soonest_16
theorem dX7_safe_0 : decode cX7_safe 0 = .ok (.aload_n 0, 1) := by decide +kernel
theorem dX7_safe_1 : decode cX7_safe 1 = .ok (.getfield 18, 3) := by decide +kernel
theorem dX7_safe_4 : decode cX7_safe 4 = .ok (.iload_n 1, 1) := by decide +kernel
theorem dX7_safe_5 : decode cX7_safe 5 = .ok (.invokevirtual 126, 3) := by decide +kernel
theorem dX7_safe_8 : decode cX7_safe 8 = .ok (.ifCond .eq 9, 3) := by decide +kernel
theorem dX7_safe_11 : decode cX7_safe 11 = .ok (.aload_n 0, 1) := by decide +kernel
theorem dX7_safe_12 : decode cX7_safe 12 = .ok (.iconst (-1), 1) := by decide +kernel
theorem dX7_safe_13 : decode cX7_safe 13 = .ok (.invokevirtual 79, 3) := by decide +kernel
theorem dX7_safe_16 : decode cX7_safe 16 = .ok (.ireturn, 1) := by decide +kernel
theorem dX7_safe_17 : decode cX7_safe 17 = .ok (.aload_n 0, 1) := by decide +kernel
theorem dX7_safe_18 : decode cX7_safe 18 = .ok (.getfield 56, 3) := by decide +kernel
theorem dX7_safe_21 : decode cX7_safe 21 = .ok (.aload_n 0, 1) := by decide +kernel
theorem dX7_safe_22 : decode cX7_safe 22 = .ok (.getfield 18, 3) := by decide +kernel
theorem dX7_safe_25 : decode cX7_safe 25 = .ok (.iload_n 1, 1) := by decide +kernel
theorem dX7_safe_26 : decode cX7_safe 26 = .ok (.invokevirtual 148, 3) := by decide +kernel
theorem dX7_safe_29 : decode cX7_safe 29 = .ok (.iconst 0, 1) := by decide +kernel
theorem dX7_safe_30 : decode cX7_safe 30 = .ok (.istore_n 2, 1) := by decide +kernel
theorem dX7_safe_31 : decode cX7_safe 31 = .ok (.iconst 0, 1) := by decide +kernel
theorem dX7_safe_32 : decode cX7_safe 32 = .ok (.istore_n 3, 1) := by decide +kernel
theorem dX7_safe_33 : decode cX7_safe 33 = .ok (.iload_n 3, 1) := by decide +kernel
theorem dX7_safe_34 : decode cX7_safe 34 = .ok (.bipush 100, 2) := by decide +kernel
theorem dX7_safe_36 : decode cX7_safe 36 = .ok (.if_icmp .ge 46, 3) := by decide +kernel
theorem dX7_safe_39 : decode cX7_safe 39 = .ok (.aload_n 0, 1) := by decide +kernel
theorem dX7_safe_40 : decode cX7_safe 40 = .ok (.getfield 49, 3) := by decide +kernel
theorem dX7_safe_43 : decode cX7_safe 43 = .ok (.iconst 2, 1) := by decide +kernel
theorem dX7_safe_44 : decode cX7_safe 44 = .ok (.iload_n 3, 1) := by decide +kernel
theorem dX7_safe_45 : decode cX7_safe 45 = .ok (.invokevirtual 155, 3) := by decide +kernel
theorem dX7_safe_48 : decode cX7_safe 48 = .ok (.aload_n 0, 1) := by decide +kernel
theorem dX7_safe_49 : decode cX7_safe 49 = .ok (.getfield 56, 3) := by decide +kernel
theorem dX7_safe_52 : decode cX7_safe 52 = .ok (.aload_n 0, 1) := by decide +kernel
theorem dX7_safe_53 : decode cX7_safe 53 = .ok (.getfield 49, 3) := by decide +kernel
theorem dX7_safe_56 : decode cX7_safe 56 = .ok (.invokevirtual 158, 3) := by decide +kernel
theorem dX7_safe_59 : decode cX7_safe 59 = .ok (.aload_n 0, 1) := by decide +kernel
theorem dX7_safe_60 : decode cX7_safe 60 = .ok (.getfield 18, 3) := by decide +kernel
theorem dX7_safe_63 : decode cX7_safe 63 = .ok (.aload_n 0, 1) := by decide +kernel
theorem dX7_safe_64 : decode cX7_safe 64 = .ok (.getfield 56, 3) := by decide +kernel
theorem dX7_safe_67 : decode cX7_safe 67 = .ok (.invokevirtual 221, 3) := by decide +kernel
theorem dX7_safe_70 : decode cX7_safe 70 = .ok (.ifCond .ne 6, 3) := by decide +kernel
theorem dX7_safe_73 : decode cX7_safe 73 = .ok (.iinc 2 1, 3) := by decide +kernel
theorem dX7_safe_76 : decode cX7_safe 76 = .ok (.iinc 3 1, 3) := by decide +kernel
theorem dX7_safe_79 : decode cX7_safe 79 = .ok (.goto (-46), 3) := by decide +kernel
theorem dX7_safe_82 : decode cX7_safe 82 = .ok (.iload_n 2, 1) := by decide +kernel
theorem dX7_safe_83 : decode cX7_safe 83 = .ok (.ireturn, 1) := by decide +kernel
def B7_safe_76 (k33 : Int32 → Int32 → fkS → Option (Int32 × fkS)) (v2 : Int32) (v3 : Int32) (st : fkS) : Option (Int32 × fkS) :=
 k33 v2 (v3 + (1 : Int32)) st
set_option maxHeartbeats 1000000 in
set_option maxRecDepth 20000 in
theorem T7_safe_76 {g : fkG} {k : fkK} (hk : fk_ok wC g k RX7 cX7_safe 4 (some (.int)) 3 143) (k33 : Int32 → Int32 → fkS → Option (Int32 × fkS)) (H33 : ∀ (v2 : Int32) (v3 : Int32) (st : fkS), fk_J wC g fk_eI k 33 [(0, fk_r g 0), (2, .int v2), (3, .int v3)] [] st (k33 v2 v3 st)) : ∀ (v2 : Int32) (v3 : Int32) (st : fkS), fk_J wC g fk_eI k 76 [(0, fk_r g 0), (2, .int v2), (3, .int v3)] [] st (B7_safe_76 k33 v2 v3 st) := by
  intro v2 v3 st
  unfold B7_safe_76
  refine j_iinc (dd := (1 : Int32)) (lv' := ((3, .int (v3 + (1 : Int32))) :: [(0, fk_r g 0), (2, .int v2)])) (pc := 76) hk 2 rfl (by decide) (by decide) rfl dX7_safe_76 ?_
  refine j_sub hk (lv' := [(0, fk_r g 0), (2, .int v2), (3, .int (v3 + (1 : Int32)))]) [1, 2, 0] rfl ?_
  refine j_goto (tgt := 33) (pc := 79) hk (by decide) dX7_safe_79 ?_
  exact j_sub hk [0, 1, 2] rfl (H33 v2 (v3 + (1 : Int32)) st)
def B7_safe_33 (k33 : Int32 → Int32 → fkS → Option (Int32 × fkS)) (v2 : Int32) (v3 : Int32) (st : fkS) : Option (Int32 × fkS) :=
 if (100 : Int32) ≤ v3 then
 (some (v2, st))
 else
 (fk_bind (F3_setByNumber (2 : Int32) v3 st) <| fun _ st6 =>
 fk_bind (F6_speak 40 st6) <| fun _ st7 =>
 fk_bind (F0_illsOf 19 40 st7) <| fun x8 st9 =>
 if x8 = 0 then
 (B7_safe_76 k33 (v2 + (1 : Int32)) v3 st9)
 else
 (B7_safe_76 k33 v2 v3 st9))
set_option maxHeartbeats 1000000 in
set_option maxRecDepth 20000 in
theorem T7_safe_33 {g : fkG} {k : fkK} (hk : fk_ok wC g k RX7 cX7_safe 4 (some (.int)) 3 143) (k33 : Int32 → Int32 → fkS → Option (Int32 × fkS)) (H33 : ∀ (v2 : Int32) (v3 : Int32) (st : fkS), fk_J wC g fk_eI k 33 [(0, fk_r g 0), (2, .int v2), (3, .int v3)] [] st (k33 v2 v3 st)) : ∀ (v2 : Int32) (v3 : Int32) (st : fkS), fk_J wC g fk_eI k 33 [(0, fk_r g 0), (2, .int v2), (3, .int v3)] [] st (B7_safe_33 k33 v2 v3 st) := by
  intro v2 v3 st
  unfold B7_safe_33
  refine j_iload_n (pc := 33) hk 2 rfl dX7_safe_33 ?_
  refine j_bipush (pc := 34) hk dX7_safe_34 (v := 100) (by decide) ?_
  refine j_icmp_ge (tgt := 82) (pc := 36) hk (by decide) dX7_safe_36 (fun _ => ?_) (fun _ => ?_)
  · refine j_iload_n (pc := 82) hk 1 rfl dX7_safe_82 ?_
    exact j_iret (pc := 83) hk dX7_safe_83
  · refine j_aload_n (pc := 39) hk 0 rfl ⟨_, rfl⟩ dX7_safe_39 ?_
    refine f_7_49 (pc := 40) hk (rfl) dX7_safe_40 ?_
    refine j_iconst (pc := 43) hk dX7_safe_43 (v := 2) (by decide) ?_
    refine j_iload_n (pc := 44) hk 2 rfl dX7_safe_44 ?_
    refine j_callVNv (pc := 45) hk [.int (2 : Int32), .int v3] [] rfl (fun l o hq9 => C3_setByNumber (2 : Int32) v3 st l o hq9) (rcv_3 (rfl)) yv_X3_setByNumber ml_7_155 rfl (Nat.le_of_ble_eq_true rfl) (Nat.le_of_ble_eq_true rfl) (Nat.le_of_ble_eq_true rfl) dX7_safe_45 (fun _ st6 => ?_)
    refine j_aload_n (pc := 48) hk 0 rfl ⟨_, rfl⟩ dX7_safe_48 ?_
    refine f_7_56 (pc := 49) hk (rfl) dX7_safe_49 ?_
    refine j_aload_n (pc := 52) hk 0 rfl ⟨_, rfl⟩ dX7_safe_52 ?_
    refine f_7_49 (pc := 53) hk (rfl) dX7_safe_53 ?_
    refine j_callVNv (pc := 56) hk [fk_r g 38] [] rfl (fun l o hq9 => C6_speak 40 (rfl) st6 l o hq9) (rcv_6 (rfl)) yv_X6_speak ml_7_158 rfl (Nat.le_of_ble_eq_true rfl) (Nat.le_of_ble_eq_true rfl) (Nat.le_of_ble_eq_true rfl) dX7_safe_56 (fun _ st7 => ?_)
    refine j_aload_n (pc := 59) hk 0 rfl ⟨_, rfl⟩ dX7_safe_59 ?_
    refine f_7_18 (pc := 60) hk (rfl) dX7_safe_60 ?_
    refine j_aload_n (pc := 63) hk 0 rfl ⟨_, rfl⟩ dX7_safe_63 ?_
    refine f_7_56 (pc := 64) hk (rfl) dX7_safe_64 ?_
    refine j_callVNi (pc := 67) hk [fk_r g 40] [] rfl (fun l o hq9 => C0_illsOf 19 40 (rfl) (rfl) st7 l o hq9) (rcv_0 (rfl)) yv_X0_illsOf ml_7_221 rfl (Nat.le_of_ble_eq_true rfl) (Nat.le_of_ble_eq_true rfl) (Nat.le_of_ble_eq_true rfl) dX7_safe_67 (fun x8 st9 => ?_)
    refine j_if_ne (tgt := 76) (pc := 70) hk (by decide) dX7_safe_70 (fun _ => ?_) (fun _ => ?_)
    · refine j_iinc (dd := (1 : Int32)) (lv' := ((2, .int (v2 + (1 : Int32))) :: [(0, fk_r g 0), (3, .int v3)])) (pc := 73) hk 1 rfl (by decide) (by decide) rfl dX7_safe_73 ?_
      refine j_sub hk (lv' := [(0, fk_r g 0), (2, .int (v2 + (1 : Int32))), (3, .int v3)]) [1, 0, 2] rfl ?_
      exact j_sub hk [0, 1, 2] rfl (T7_safe_76 hk k33 H33 (v2 + (1 : Int32)) v3 st9)
    · exact j_sub hk [0, 1, 2] rfl (T7_safe_76 hk k33 H33 v2 v3 st9)
set_option maxHeartbeats 1000000 in
set_option maxRecDepth 20000 in
theorem L7_safe_33 {g : fkG} {k : fkK} (hk : fk_ok wC g k RX7 cX7_safe 4 (some (.int)) 3 143) (fu : Nat) : ∀ (v2 : Int32) (v3 : Int32) (st : fkS), fk_J wC g fk_eI k 33 [(0, fk_r g 0), (2, .int v2), (3, .int v3)] [] st (fk_lp2 (B7_safe_33) fu v2 v3 st) := by
  induction fu with
  | zero =>
    intro v2 v3 st
    exact j_none hk
  | succ fu ih =>
    exact T7_safe_33 hk _ ih
def F7_safe (p1 : Int32) (st : fkS) : Option (Int32 × fkS) :=
 fk_bind (F0_lacks 19 p1 st) <| fun x1 st2 =>
 if x1 = 0 then
 (fk_bind (F6_take 40 19 p1 st2) <| fun _ st3 =>
 fk_lp2 (B7_safe_33) fk_fuel (0 : Int32) (0 : Int32) st3)
 else
 (fk_bind (F7_refuse (-1 : Int32) st2) <| fun x4 st5 =>
 some (x4, st5))
set_option maxHeartbeats 1000000 in
set_option maxRecDepth 20000 in
theorem C7_safe (p1 : Int32) (st : fkS) {g : fkG} (l : Launch) (o : Int32 × fkS) (hF : F7_safe p1 st = some o) : fk_C wC yX7_safe cX7_safe 4 (some (.int)) 3 143 l g [fk_r g 0, .int p1] st (fk_eI o.1) o.2 := by
  refine fk_begin rfl (Nat.le_of_ble_eq_true rfl) (fun k hk => ?_) o hF
  have hk : fk_ok wC g k RX7 cX7_safe 4 (some (.int)) 3 143 := hk
  show fk_J wC g fk_eI k 0 [(0, fk_r g 0), (1, .int p1)] [] st (F7_safe p1 st)
  unfold F7_safe
  refine j_aload_n (pc := 0) hk 0 rfl ⟨_, rfl⟩ dX7_safe_0 ?_
  refine f_7_18 (pc := 1) hk (rfl) dX7_safe_1 ?_
  refine j_iload_n (pc := 4) hk 1 rfl dX7_safe_4 ?_
  refine j_callVNi (pc := 5) hk [.int p1] [] rfl (fun l o hq9 => C0_lacks 19 (rfl) p1 st l o hq9) (rcv_0 (rfl)) yv_X0_lacks ml_7_126 rfl (Nat.le_of_ble_eq_true rfl) (Nat.le_of_ble_eq_true rfl) (Nat.le_of_ble_eq_true rfl) dX7_safe_5 (fun x1 st2 => ?_)
  refine j_if_eq (tgt := 17) (pc := 8) hk (by decide) dX7_safe_8 (fun _ => ?_) (fun _ => ?_)
  · refine j_aload_n (pc := 17) hk 0 rfl ⟨_, rfl⟩ dX7_safe_17 ?_
    refine f_7_56 (pc := 18) hk (rfl) dX7_safe_18 ?_
    refine j_aload_n (pc := 21) hk 0 rfl ⟨_, rfl⟩ dX7_safe_21 ?_
    refine f_7_18 (pc := 22) hk (rfl) dX7_safe_22 ?_
    refine j_iload_n (pc := 25) hk 1 rfl dX7_safe_25 ?_
    refine j_callVNv (pc := 26) hk [fk_r g 19, .int p1] [] rfl (fun l o hq9 => C6_take 40 19 (rfl) (rfl) p1 st2 l o hq9) (rcv_6 (rfl)) yv_X6_take ml_7_148 rfl (Nat.le_of_ble_eq_true rfl) (Nat.le_of_ble_eq_true rfl) (Nat.le_of_ble_eq_true rfl) dX7_safe_26 (fun _ st3 => ?_)
    refine j_iconst (pc := 29) hk dX7_safe_29 (v := 0) (by decide) ?_
    refine j_istore_n (lv' := ((2, .int (0 : Int32)) :: [(0, fk_r g 0), (1, .int p1)])) (pc := 30) hk rfl (by decide) rfl dX7_safe_30 ?_
    refine j_sub hk (lv' := [(0, fk_r g 0), (1, .int p1), (2, .int (0 : Int32))]) [1, 2, 0] rfl ?_
    refine j_iconst (pc := 31) hk dX7_safe_31 (v := 0) (by decide) ?_
    refine j_istore_n (lv' := ((3, .int (0 : Int32)) :: [(0, fk_r g 0), (1, .int p1), (2, .int (0 : Int32))])) (pc := 32) hk rfl (by decide) rfl dX7_safe_32 ?_
    refine j_sub hk (lv' := [(0, fk_r g 0), (1, .int p1), (2, .int (0 : Int32)), (3, .int (0 : Int32))]) [1, 2, 3, 0] rfl ?_
    exact j_sub hk [0, 2, 3] rfl (L7_safe_33 hk fk_fuel (0 : Int32) (0 : Int32) st3)
  · refine j_aload_n (pc := 11) hk 0 rfl ⟨_, rfl⟩ dX7_safe_11 ?_
    refine j_iconst (pc := 12) hk dX7_safe_12 (v := -1) (by decide) ?_
    refine j_callVi (pc := 13) hk [.int (-1 : Int32)] [] rfl (fun l o hq9 => C7_refuse (-1 : Int32) st2 l o hq9) (rcv_7 (rfl)) yv_X7_refuse ml_7_79 rfl (Nat.le_of_ble_eq_true rfl) (Nat.le_of_ble_eq_true rfl) (Nat.le_of_ble_eq_true rfl) dX7_safe_13 (fun x4 st5 => ?_)
    exact j_iret (pc := 16) hk dX7_safe_16
theorem dX7_kindsThatSay_0 : decode cX7_kindsThatSay 0 = .ok (.aload_n 0, 1) := by decide +kernel
theorem dX7_kindsThatSay_1 : decode cX7_kindsThatSay 1 = .ok (.getfield 56, 3) := by decide +kernel
theorem dX7_kindsThatSay_4 : decode cX7_kindsThatSay 4 = .ok (.aload_n 0, 1) := by decide +kernel
theorem dX7_kindsThatSay_5 : decode cX7_kindsThatSay 5 = .ok (.getfield 18, 3) := by decide +kernel
theorem dX7_kindsThatSay_8 : decode cX7_kindsThatSay 8 = .ok (.iload_n 2, 1) := by decide +kernel
theorem dX7_kindsThatSay_9 : decode cX7_kindsThatSay 9 = .ok (.invokevirtual 148, 3) := by decide +kernel
theorem dX7_kindsThatSay_12 : decode cX7_kindsThatSay 12 = .ok (.iconst 0, 1) := by decide +kernel
theorem dX7_kindsThatSay_13 : decode cX7_kindsThatSay 13 = .ok (.istore_n 3, 1) := by decide +kernel
theorem dX7_kindsThatSay_14 : decode cX7_kindsThatSay 14 = .ok (.iconst 0, 1) := by decide +kernel
theorem dX7_kindsThatSay_15 : decode cX7_kindsThatSay 15 = .ok (.istore 4, 2) := by decide +kernel
theorem dX7_kindsThatSay_17 : decode cX7_kindsThatSay 17 = .ok (.iload 4, 2) := by decide +kernel
theorem dX7_kindsThatSay_19 : decode cX7_kindsThatSay 19 = .ok (.bipush 7, 2) := by decide +kernel
theorem dX7_kindsThatSay_21 : decode cX7_kindsThatSay 21 = .ok (.if_icmp .ge 51, 3) := by decide +kernel
theorem dX7_kindsThatSay_24 : decode cX7_kindsThatSay 24 = .ok (.aload_n 0, 1) := by decide +kernel
theorem dX7_kindsThatSay_25 : decode cX7_kindsThatSay 25 = .ok (.getfield 56, 3) := by decide +kernel
theorem dX7_kindsThatSay_28 : decode cX7_kindsThatSay 28 = .ok (.iload 4, 2) := by decide +kernel
theorem dX7_kindsThatSay_30 : decode cX7_kindsThatSay 30 = .ok (.putfield 337, 3) := by decide +kernel
theorem dX7_kindsThatSay_33 : decode cX7_kindsThatSay 33 = .ok (.aload_n 0, 1) := by decide +kernel
theorem dX7_kindsThatSay_34 : decode cX7_kindsThatSay 34 = .ok (.getfield 56, 3) := by decide +kernel
theorem dX7_kindsThatSay_37 : decode cX7_kindsThatSay 37 = .ok (.aload_n 0, 1) := by decide +kernel
theorem dX7_kindsThatSay_38 : decode cX7_kindsThatSay 38 = .ok (.getfield 49, 3) := by decide +kernel
theorem dX7_kindsThatSay_41 : decode cX7_kindsThatSay 41 = .ok (.invokevirtual 158, 3) := by decide +kernel
theorem dX7_kindsThatSay_44 : decode cX7_kindsThatSay 44 = .ok (.iload_n 3, 1) := by decide +kernel
theorem dX7_kindsThatSay_45 : decode cX7_kindsThatSay 45 = .ok (.aload_n 0, 1) := by decide +kernel
theorem dX7_kindsThatSay_46 : decode cX7_kindsThatSay 46 = .ok (.getfield 56, 3) := by decide +kernel
theorem dX7_kindsThatSay_49 : decode cX7_kindsThatSay 49 = .ok (.aload_n 1, 1) := by decide +kernel
theorem dX7_kindsThatSay_50 : decode cX7_kindsThatSay 50 = .ok (.invokevirtual 250, 3) := by decide +kernel
theorem dX7_kindsThatSay_53 : decode cX7_kindsThatSay 53 = .ok (.ifCond .eq 10, 3) := by decide +kernel
theorem dX7_kindsThatSay_56 : decode cX7_kindsThatSay 56 = .ok (.iconst 1, 1) := by decide +kernel
theorem dX7_kindsThatSay_57 : decode cX7_kindsThatSay 57 = .ok (.iload 4, 2) := by decide +kernel
theorem dX7_kindsThatSay_59 : decode cX7_kindsThatSay 59 = .ok (.ishl, 1) := by decide +kernel
theorem dX7_kindsThatSay_60 : decode cX7_kindsThatSay 60 = .ok (.goto 4, 3) := by decide +kernel
theorem dX7_kindsThatSay_63 : decode cX7_kindsThatSay 63 = .ok (.iconst 0, 1) := by decide +kernel
theorem dX7_kindsThatSay_64 : decode cX7_kindsThatSay 64 = .ok (.ior, 1) := by decide +kernel
theorem dX7_kindsThatSay_65 : decode cX7_kindsThatSay 65 = .ok (.istore_n 3, 1) := by decide +kernel
theorem dX7_kindsThatSay_66 : decode cX7_kindsThatSay 66 = .ok (.iinc 4 1, 3) := by decide +kernel
theorem dX7_kindsThatSay_69 : decode cX7_kindsThatSay 69 = .ok (.goto (-52), 3) := by decide +kernel
theorem dX7_kindsThatSay_72 : decode cX7_kindsThatSay 72 = .ok (.iload_n 3, 1) := by decide +kernel
theorem dX7_kindsThatSay_73 : decode cX7_kindsThatSay 73 = .ok (.ireturn, 1) := by decide +kernel
def B7_kindsThatSay_64 (o1 : Nat) (k17 : Int32 → Int32 → fkS → Option (Int32 × fkS)) (v4 : Int32) (s0 : Int32) (s1 : Int32) (st : fkS) : Option (Int32 × fkS) :=
 k17 (s0 ||| s1) (v4 + (1 : Int32)) st
set_option maxHeartbeats 1000000 in
set_option maxRecDepth 20000 in
theorem T7_kindsThatSay_64 {g : fkG} {k : fkK} (o1 : Nat) (ho1 : kdC o1 = 5) (hk : fk_ok wC g k RX7 cX7_kindsThatSay 5 (some (.int)) 3 143) (k17 : Int32 → Int32 → fkS → Option (Int32 × fkS)) (H17 : ∀ (v3 : Int32) (v4 : Int32) (st : fkS), fk_J wC g fk_eI k 17 [(0, fk_r g 0), (1, fk_r g o1), (3, .int v3), (4, .int v4)] [] st (k17 v3 v4 st)) : ∀ (v4 : Int32) (s0 : Int32) (s1 : Int32) (st : fkS), fk_J wC g fk_eI k 64 [(0, fk_r g 0), (1, fk_r g o1), (4, .int v4)] [.int s1, .int s0] st (B7_kindsThatSay_64 o1 k17 v4 s0 s1 st) := by
  intro v4 s0 s1 st
  unfold B7_kindsThatSay_64
  refine j_ior (pc := 64) hk dX7_kindsThatSay_64 ?_
  refine j_istore_n (lv' := ((3, .int (s0 ||| s1)) :: [(0, fk_r g 0), (1, fk_r g o1), (4, .int v4)])) (pc := 65) hk rfl (by decide) rfl dX7_kindsThatSay_65 ?_
  refine j_sub hk (lv' := [(0, fk_r g 0), (1, fk_r g o1), (3, .int (s0 ||| s1)), (4, .int v4)]) [1, 2, 0, 3] rfl ?_
  refine j_iinc (dd := (1 : Int32)) (lv' := ((4, .int (v4 + (1 : Int32))) :: [(0, fk_r g 0), (1, fk_r g o1), (3, .int (s0 ||| s1))])) (pc := 66) hk 3 rfl (by decide) (by decide) rfl dX7_kindsThatSay_66 ?_
  refine j_sub hk (lv' := [(0, fk_r g 0), (1, fk_r g o1), (3, .int (s0 ||| s1)), (4, .int (v4 + (1 : Int32)))]) [1, 2, 3, 0] rfl ?_
  refine j_goto (tgt := 17) (pc := 69) hk (by decide) dX7_kindsThatSay_69 ?_
  exact j_sub hk [0, 1, 2, 3] rfl (H17 (s0 ||| s1) (v4 + (1 : Int32)) st)
def B7_kindsThatSay_17 (o1 : Nat) (k17 : Int32 → Int32 → fkS → Option (Int32 × fkS)) (v3 : Int32) (v4 : Int32) (st : fkS) : Option (Int32 × fkS) :=
 if (7 : Int32) ≤ v4 then
 (some (v3, st))
 else
 (fk_let (sI st 120 40 v4) <| fun st2 =>
 fk_bind (F6_speak 40 st2) <| fun _ st3 =>
 fk_bind (F6_saysJust 40 o1 st3) <| fun x4 st5 =>
 if x4 = 0 then
 (B7_kindsThatSay_64 o1 k17 v4 v3 (0 : Int32) st5)
 else
 (B7_kindsThatSay_64 o1 k17 v4 v3 ((1 : Int32) <<< (v4 &&& 31)) st5))
set_option maxHeartbeats 1000000 in
set_option maxRecDepth 20000 in
theorem T7_kindsThatSay_17 {g : fkG} {k : fkK} (o1 : Nat) (ho1 : kdC o1 = 5) (hk : fk_ok wC g k RX7 cX7_kindsThatSay 5 (some (.int)) 3 143) (k17 : Int32 → Int32 → fkS → Option (Int32 × fkS)) (H17 : ∀ (v3 : Int32) (v4 : Int32) (st : fkS), fk_J wC g fk_eI k 17 [(0, fk_r g 0), (1, fk_r g o1), (3, .int v3), (4, .int v4)] [] st (k17 v3 v4 st)) : ∀ (v3 : Int32) (v4 : Int32) (st : fkS), fk_J wC g fk_eI k 17 [(0, fk_r g 0), (1, fk_r g o1), (3, .int v3), (4, .int v4)] [] st (B7_kindsThatSay_17 o1 k17 v3 v4 st) := by
  intro v3 v4 st
  unfold B7_kindsThatSay_17
  refine j_iload (pc := 17) hk 3 rfl dX7_kindsThatSay_17 ?_
  refine j_bipush (pc := 19) hk dX7_kindsThatSay_19 (v := 7) (by decide) ?_
  refine j_icmp_ge (tgt := 72) (pc := 21) hk (by decide) dX7_kindsThatSay_21 (fun _ => ?_) (fun _ => ?_)
  · refine j_iload_n (pc := 72) hk 2 rfl dX7_kindsThatSay_72 ?_
    exact j_iret (pc := 73) hk dX7_kindsThatSay_73
  · refine j_aload_n (pc := 24) hk 0 rfl ⟨_, rfl⟩ dX7_kindsThatSay_24 ?_
    refine f_7_56 (pc := 25) hk (rfl) dX7_kindsThatSay_25 ?_
    refine j_iload (pc := 28) hk 3 rfl dX7_kindsThatSay_28 ?_
    refine p_7_337 (pc := 30) hk (rfl) dX7_kindsThatSay_30 (fun st2 => ?_)
    refine j_aload_n (pc := 33) hk 0 rfl ⟨_, rfl⟩ dX7_kindsThatSay_33 ?_
    refine f_7_56 (pc := 34) hk (rfl) dX7_kindsThatSay_34 ?_
    refine j_aload_n (pc := 37) hk 0 rfl ⟨_, rfl⟩ dX7_kindsThatSay_37 ?_
    refine f_7_49 (pc := 38) hk (rfl) dX7_kindsThatSay_38 ?_
    refine j_callVNv (pc := 41) hk [fk_r g 38] [] rfl (fun l o hq9 => C6_speak 40 (rfl) st2 l o hq9) (rcv_6 (rfl)) yv_X6_speak ml_7_158 rfl (Nat.le_of_ble_eq_true rfl) (Nat.le_of_ble_eq_true rfl) (Nat.le_of_ble_eq_true rfl) dX7_kindsThatSay_41 (fun _ st3 => ?_)
    refine j_iload_n (pc := 44) hk 2 rfl dX7_kindsThatSay_44 ?_
    refine j_aload_n (pc := 45) hk 0 rfl ⟨_, rfl⟩ dX7_kindsThatSay_45 ?_
    refine f_7_56 (pc := 46) hk (rfl) dX7_kindsThatSay_46 ?_
    refine j_aload_n (pc := 49) hk 1 rfl ⟨_, rfl⟩ dX7_kindsThatSay_49 ?_
    refine j_callVNi (pc := 50) hk [fk_r g o1] [.int v3] rfl (fun l o hq9 => C6_saysJust 40 o1 (rfl) (ho1) st3 l o hq9) (rcv_6 (rfl)) yv_X6_saysJust ml_7_250 rfl (Nat.le_of_ble_eq_true rfl) (Nat.le_of_ble_eq_true rfl) (Nat.le_of_ble_eq_true rfl) dX7_kindsThatSay_50 (fun x4 st5 => ?_)
    refine j_if_eq (tgt := 63) (pc := 53) hk (by decide) dX7_kindsThatSay_53 (fun _ => ?_) (fun _ => ?_)
    · refine j_iconst (pc := 63) hk dX7_kindsThatSay_63 (v := 0) (by decide) ?_
      exact j_sub hk [0, 1, 3] rfl (T7_kindsThatSay_64 o1 ho1 hk k17 H17 v4 v3 (0 : Int32) st5)
    · refine j_iconst (pc := 56) hk dX7_kindsThatSay_56 (v := 1) (by decide) ?_
      refine j_iload (pc := 57) hk 3 rfl dX7_kindsThatSay_57 ?_
      refine j_ishl (pc := 59) hk dX7_kindsThatSay_59 ?_
      refine j_goto (tgt := 64) (pc := 60) hk (by decide) dX7_kindsThatSay_60 ?_
      exact j_sub hk [0, 1, 3] rfl (T7_kindsThatSay_64 o1 ho1 hk k17 H17 v4 v3 ((1 : Int32) <<< (v4 &&& 31)) st5)
set_option maxHeartbeats 1000000 in
set_option maxRecDepth 20000 in
theorem L7_kindsThatSay_17 {g : fkG} {k : fkK} (o1 : Nat) (ho1 : kdC o1 = 5) (hk : fk_ok wC g k RX7 cX7_kindsThatSay 5 (some (.int)) 3 143) (fu : Nat) : ∀ (v3 : Int32) (v4 : Int32) (st : fkS), fk_J wC g fk_eI k 17 [(0, fk_r g 0), (1, fk_r g o1), (3, .int v3), (4, .int v4)] [] st (fk_lp2 (B7_kindsThatSay_17 o1) fu v3 v4 st) := by
  induction fu with
  | zero =>
    intro v3 v4 st
    exact j_none hk
  | succ fu ih =>
    exact T7_kindsThatSay_17 o1 ho1 hk _ ih
def F7_kindsThatSay (o1 : Nat) (p2 : Int32) (st : fkS) : Option (Int32 × fkS) :=
 fk_bind (F6_take 40 19 p2 st) <| fun _ st1 =>
 fk_lp2 (B7_kindsThatSay_17 o1) fk_fuel (0 : Int32) (0 : Int32) st1
set_option maxHeartbeats 1000000 in
set_option maxRecDepth 20000 in
theorem C7_kindsThatSay (o1 : Nat) (ho1 : kdC o1 = 5) (p2 : Int32) (st : fkS) {g : fkG} (l : Launch) (o : Int32 × fkS) (hF : F7_kindsThatSay o1 p2 st = some o) : fk_C wC yX7_kindsThatSay cX7_kindsThatSay 5 (some (.int)) 3 143 l g [fk_r g 0, fk_r g o1, .int p2] st (fk_eI o.1) o.2 := by
  refine fk_begin rfl (Nat.le_of_ble_eq_true rfl) (fun k hk => ?_) o hF
  have hk : fk_ok wC g k RX7 cX7_kindsThatSay 5 (some (.int)) 3 143 := hk
  show fk_J wC g fk_eI k 0 [(0, fk_r g 0), (1, fk_r g o1), (2, .int p2)] [] st (F7_kindsThatSay o1 p2 st)
  unfold F7_kindsThatSay
  refine j_aload_n (pc := 0) hk 0 rfl ⟨_, rfl⟩ dX7_kindsThatSay_0 ?_
  refine f_7_56 (pc := 1) hk (rfl) dX7_kindsThatSay_1 ?_
  refine j_aload_n (pc := 4) hk 0 rfl ⟨_, rfl⟩ dX7_kindsThatSay_4 ?_
  refine f_7_18 (pc := 5) hk (rfl) dX7_kindsThatSay_5 ?_
  refine j_iload_n (pc := 8) hk 2 rfl dX7_kindsThatSay_8 ?_
  refine j_callVNv (pc := 9) hk [fk_r g 19, .int p2] [] rfl (fun l o hq9 => C6_take 40 19 (rfl) (rfl) p2 st l o hq9) (rcv_6 (rfl)) yv_X6_take ml_7_148 rfl (Nat.le_of_ble_eq_true rfl) (Nat.le_of_ble_eq_true rfl) (Nat.le_of_ble_eq_true rfl) dX7_kindsThatSay_9 (fun _ st1 => ?_)
  refine j_iconst (pc := 12) hk dX7_kindsThatSay_12 (v := 0) (by decide) ?_
  refine j_istore_n (lv' := ((3, .int (0 : Int32)) :: [(0, fk_r g 0), (1, fk_r g o1), (2, .int p2)])) (pc := 13) hk rfl (by decide) rfl dX7_kindsThatSay_13 ?_
  refine j_sub hk (lv' := [(0, fk_r g 0), (1, fk_r g o1), (2, .int p2), (3, .int (0 : Int32))]) [1, 2, 3, 0] rfl ?_
  refine j_iconst (pc := 14) hk dX7_kindsThatSay_14 (v := 0) (by decide) ?_
  refine j_istore (lv' := ((4, .int (0 : Int32)) :: [(0, fk_r g 0), (1, fk_r g o1), (2, .int p2), (3, .int (0 : Int32))])) (pc := 15) hk (by decide) rfl dX7_kindsThatSay_15 ?_
  refine j_sub hk (lv' := [(0, fk_r g 0), (1, fk_r g o1), (2, .int p2), (3, .int (0 : Int32)), (4, .int (0 : Int32))]) [1, 2, 3, 4, 0] rfl ?_
  exact j_sub hk [0, 1, 3, 4] rfl (L7_kindsThatSay_17 o1 ho1 hk fk_fuel (0 : Int32) (0 : Int32) st1)
theorem dX7_heatsThatSay_0 : decode cX7_heatsThatSay 0 = .ok (.aload_n 0, 1) := by decide +kernel
theorem dX7_heatsThatSay_1 : decode cX7_heatsThatSay 1 = .ok (.getfield 56, 3) := by decide +kernel
theorem dX7_heatsThatSay_4 : decode cX7_heatsThatSay 4 = .ok (.aload_n 0, 1) := by decide +kernel
theorem dX7_heatsThatSay_5 : decode cX7_heatsThatSay 5 = .ok (.getfield 18, 3) := by decide +kernel
theorem dX7_heatsThatSay_8 : decode cX7_heatsThatSay 8 = .ok (.iload_n 2, 1) := by decide +kernel
theorem dX7_heatsThatSay_9 : decode cX7_heatsThatSay 9 = .ok (.invokevirtual 148, 3) := by decide +kernel
theorem dX7_heatsThatSay_12 : decode cX7_heatsThatSay 12 = .ok (.iconst 0, 1) := by decide +kernel
theorem dX7_heatsThatSay_13 : decode cX7_heatsThatSay 13 = .ok (.istore_n 3, 1) := by decide +kernel
theorem dX7_heatsThatSay_14 : decode cX7_heatsThatSay 14 = .ok (.iconst 0, 1) := by decide +kernel
theorem dX7_heatsThatSay_15 : decode cX7_heatsThatSay 15 = .ok (.istore 4, 2) := by decide +kernel
theorem dX7_heatsThatSay_17 : decode cX7_heatsThatSay 17 = .ok (.iload 4, 2) := by decide +kernel
theorem dX7_heatsThatSay_19 : decode cX7_heatsThatSay 19 = .ok (.bipush 10, 2) := by decide +kernel
theorem dX7_heatsThatSay_21 : decode cX7_heatsThatSay 21 = .ok (.if_icmp .ge 51, 3) := by decide +kernel
theorem dX7_heatsThatSay_24 : decode cX7_heatsThatSay 24 = .ok (.aload_n 0, 1) := by decide +kernel
theorem dX7_heatsThatSay_25 : decode cX7_heatsThatSay 25 = .ok (.getfield 56, 3) := by decide +kernel
theorem dX7_heatsThatSay_28 : decode cX7_heatsThatSay 28 = .ok (.iload 4, 2) := by decide +kernel
theorem dX7_heatsThatSay_30 : decode cX7_heatsThatSay 30 = .ok (.putfield 270, 3) := by decide +kernel
theorem dX7_heatsThatSay_33 : decode cX7_heatsThatSay 33 = .ok (.aload_n 0, 1) := by decide +kernel
theorem dX7_heatsThatSay_34 : decode cX7_heatsThatSay 34 = .ok (.getfield 56, 3) := by decide +kernel
theorem dX7_heatsThatSay_37 : decode cX7_heatsThatSay 37 = .ok (.aload_n 0, 1) := by decide +kernel
theorem dX7_heatsThatSay_38 : decode cX7_heatsThatSay 38 = .ok (.getfield 49, 3) := by decide +kernel
theorem dX7_heatsThatSay_41 : decode cX7_heatsThatSay 41 = .ok (.invokevirtual 158, 3) := by decide +kernel
theorem dX7_heatsThatSay_44 : decode cX7_heatsThatSay 44 = .ok (.iload_n 3, 1) := by decide +kernel
theorem dX7_heatsThatSay_45 : decode cX7_heatsThatSay 45 = .ok (.aload_n 0, 1) := by decide +kernel
theorem dX7_heatsThatSay_46 : decode cX7_heatsThatSay 46 = .ok (.getfield 56, 3) := by decide +kernel
theorem dX7_heatsThatSay_49 : decode cX7_heatsThatSay 49 = .ok (.aload_n 1, 1) := by decide +kernel
theorem dX7_heatsThatSay_50 : decode cX7_heatsThatSay 50 = .ok (.invokevirtual 250, 3) := by decide +kernel
theorem dX7_heatsThatSay_53 : decode cX7_heatsThatSay 53 = .ok (.ifCond .eq 10, 3) := by decide +kernel
theorem dX7_heatsThatSay_56 : decode cX7_heatsThatSay 56 = .ok (.iconst 1, 1) := by decide +kernel
theorem dX7_heatsThatSay_57 : decode cX7_heatsThatSay 57 = .ok (.iload 4, 2) := by decide +kernel
theorem dX7_heatsThatSay_59 : decode cX7_heatsThatSay 59 = .ok (.ishl, 1) := by decide +kernel
theorem dX7_heatsThatSay_60 : decode cX7_heatsThatSay 60 = .ok (.goto 4, 3) := by decide +kernel
theorem dX7_heatsThatSay_63 : decode cX7_heatsThatSay 63 = .ok (.iconst 0, 1) := by decide +kernel
theorem dX7_heatsThatSay_64 : decode cX7_heatsThatSay 64 = .ok (.ior, 1) := by decide +kernel
theorem dX7_heatsThatSay_65 : decode cX7_heatsThatSay 65 = .ok (.istore_n 3, 1) := by decide +kernel
theorem dX7_heatsThatSay_66 : decode cX7_heatsThatSay 66 = .ok (.iinc 4 1, 3) := by decide +kernel
theorem dX7_heatsThatSay_69 : decode cX7_heatsThatSay 69 = .ok (.goto (-52), 3) := by decide +kernel
theorem dX7_heatsThatSay_72 : decode cX7_heatsThatSay 72 = .ok (.iload_n 3, 1) := by decide +kernel
theorem dX7_heatsThatSay_73 : decode cX7_heatsThatSay 73 = .ok (.ireturn, 1) := by decide +kernel
def B7_heatsThatSay_64 (o1 : Nat) (k17 : Int32 → Int32 → fkS → Option (Int32 × fkS)) (v4 : Int32) (s0 : Int32) (s1 : Int32) (st : fkS) : Option (Int32 × fkS) :=
 k17 (s0 ||| s1) (v4 + (1 : Int32)) st
set_option maxHeartbeats 1000000 in
set_option maxRecDepth 20000 in
theorem T7_heatsThatSay_64 {g : fkG} {k : fkK} (o1 : Nat) (ho1 : kdC o1 = 5) (hk : fk_ok wC g k RX7 cX7_heatsThatSay 5 (some (.int)) 3 143) (k17 : Int32 → Int32 → fkS → Option (Int32 × fkS)) (H17 : ∀ (v3 : Int32) (v4 : Int32) (st : fkS), fk_J wC g fk_eI k 17 [(0, fk_r g 0), (1, fk_r g o1), (3, .int v3), (4, .int v4)] [] st (k17 v3 v4 st)) : ∀ (v4 : Int32) (s0 : Int32) (s1 : Int32) (st : fkS), fk_J wC g fk_eI k 64 [(0, fk_r g 0), (1, fk_r g o1), (4, .int v4)] [.int s1, .int s0] st (B7_heatsThatSay_64 o1 k17 v4 s0 s1 st) := by
  intro v4 s0 s1 st
  unfold B7_heatsThatSay_64
  refine j_ior (pc := 64) hk dX7_heatsThatSay_64 ?_
  refine j_istore_n (lv' := ((3, .int (s0 ||| s1)) :: [(0, fk_r g 0), (1, fk_r g o1), (4, .int v4)])) (pc := 65) hk rfl (by decide) rfl dX7_heatsThatSay_65 ?_
  refine j_sub hk (lv' := [(0, fk_r g 0), (1, fk_r g o1), (3, .int (s0 ||| s1)), (4, .int v4)]) [1, 2, 0, 3] rfl ?_
  refine j_iinc (dd := (1 : Int32)) (lv' := ((4, .int (v4 + (1 : Int32))) :: [(0, fk_r g 0), (1, fk_r g o1), (3, .int (s0 ||| s1))])) (pc := 66) hk 3 rfl (by decide) (by decide) rfl dX7_heatsThatSay_66 ?_
  refine j_sub hk (lv' := [(0, fk_r g 0), (1, fk_r g o1), (3, .int (s0 ||| s1)), (4, .int (v4 + (1 : Int32)))]) [1, 2, 3, 0] rfl ?_
  refine j_goto (tgt := 17) (pc := 69) hk (by decide) dX7_heatsThatSay_69 ?_
  exact j_sub hk [0, 1, 2, 3] rfl (H17 (s0 ||| s1) (v4 + (1 : Int32)) st)
def B7_heatsThatSay_17 (o1 : Nat) (k17 : Int32 → Int32 → fkS → Option (Int32 × fkS)) (v3 : Int32) (v4 : Int32) (st : fkS) : Option (Int32 × fkS) :=
 if (10 : Int32) ≤ v4 then
 (some (v3, st))
 else
 (fk_let (sI st 123 40 v4) <| fun st2 =>
 fk_bind (F6_speak 40 st2) <| fun _ st3 =>
 fk_bind (F6_saysJust 40 o1 st3) <| fun x4 st5 =>
 if x4 = 0 then
 (B7_heatsThatSay_64 o1 k17 v4 v3 (0 : Int32) st5)
 else
 (B7_heatsThatSay_64 o1 k17 v4 v3 ((1 : Int32) <<< (v4 &&& 31)) st5))
set_option maxHeartbeats 1000000 in
set_option maxRecDepth 20000 in
theorem T7_heatsThatSay_17 {g : fkG} {k : fkK} (o1 : Nat) (ho1 : kdC o1 = 5) (hk : fk_ok wC g k RX7 cX7_heatsThatSay 5 (some (.int)) 3 143) (k17 : Int32 → Int32 → fkS → Option (Int32 × fkS)) (H17 : ∀ (v3 : Int32) (v4 : Int32) (st : fkS), fk_J wC g fk_eI k 17 [(0, fk_r g 0), (1, fk_r g o1), (3, .int v3), (4, .int v4)] [] st (k17 v3 v4 st)) : ∀ (v3 : Int32) (v4 : Int32) (st : fkS), fk_J wC g fk_eI k 17 [(0, fk_r g 0), (1, fk_r g o1), (3, .int v3), (4, .int v4)] [] st (B7_heatsThatSay_17 o1 k17 v3 v4 st) := by
  intro v3 v4 st
  unfold B7_heatsThatSay_17
  refine j_iload (pc := 17) hk 3 rfl dX7_heatsThatSay_17 ?_
  refine j_bipush (pc := 19) hk dX7_heatsThatSay_19 (v := 10) (by decide) ?_
  refine j_icmp_ge (tgt := 72) (pc := 21) hk (by decide) dX7_heatsThatSay_21 (fun _ => ?_) (fun _ => ?_)
  · refine j_iload_n (pc := 72) hk 2 rfl dX7_heatsThatSay_72 ?_
    exact j_iret (pc := 73) hk dX7_heatsThatSay_73
  · refine j_aload_n (pc := 24) hk 0 rfl ⟨_, rfl⟩ dX7_heatsThatSay_24 ?_
    refine f_7_56 (pc := 25) hk (rfl) dX7_heatsThatSay_25 ?_
    refine j_iload (pc := 28) hk 3 rfl dX7_heatsThatSay_28 ?_
    refine p_7_270 (pc := 30) hk (rfl) dX7_heatsThatSay_30 (fun st2 => ?_)
    refine j_aload_n (pc := 33) hk 0 rfl ⟨_, rfl⟩ dX7_heatsThatSay_33 ?_
    refine f_7_56 (pc := 34) hk (rfl) dX7_heatsThatSay_34 ?_
    refine j_aload_n (pc := 37) hk 0 rfl ⟨_, rfl⟩ dX7_heatsThatSay_37 ?_
    refine f_7_49 (pc := 38) hk (rfl) dX7_heatsThatSay_38 ?_
    refine j_callVNv (pc := 41) hk [fk_r g 38] [] rfl (fun l o hq9 => C6_speak 40 (rfl) st2 l o hq9) (rcv_6 (rfl)) yv_X6_speak ml_7_158 rfl (Nat.le_of_ble_eq_true rfl) (Nat.le_of_ble_eq_true rfl) (Nat.le_of_ble_eq_true rfl) dX7_heatsThatSay_41 (fun _ st3 => ?_)
    refine j_iload_n (pc := 44) hk 2 rfl dX7_heatsThatSay_44 ?_
    refine j_aload_n (pc := 45) hk 0 rfl ⟨_, rfl⟩ dX7_heatsThatSay_45 ?_
    refine f_7_56 (pc := 46) hk (rfl) dX7_heatsThatSay_46 ?_
    refine j_aload_n (pc := 49) hk 1 rfl ⟨_, rfl⟩ dX7_heatsThatSay_49 ?_
    refine j_callVNi (pc := 50) hk [fk_r g o1] [.int v3] rfl (fun l o hq9 => C6_saysJust 40 o1 (rfl) (ho1) st3 l o hq9) (rcv_6 (rfl)) yv_X6_saysJust ml_7_250 rfl (Nat.le_of_ble_eq_true rfl) (Nat.le_of_ble_eq_true rfl) (Nat.le_of_ble_eq_true rfl) dX7_heatsThatSay_50 (fun x4 st5 => ?_)
    refine j_if_eq (tgt := 63) (pc := 53) hk (by decide) dX7_heatsThatSay_53 (fun _ => ?_) (fun _ => ?_)
    · refine j_iconst (pc := 63) hk dX7_heatsThatSay_63 (v := 0) (by decide) ?_
      exact j_sub hk [0, 1, 3] rfl (T7_heatsThatSay_64 o1 ho1 hk k17 H17 v4 v3 (0 : Int32) st5)
    · refine j_iconst (pc := 56) hk dX7_heatsThatSay_56 (v := 1) (by decide) ?_
      refine j_iload (pc := 57) hk 3 rfl dX7_heatsThatSay_57 ?_
      refine j_ishl (pc := 59) hk dX7_heatsThatSay_59 ?_
      refine j_goto (tgt := 64) (pc := 60) hk (by decide) dX7_heatsThatSay_60 ?_
      exact j_sub hk [0, 1, 3] rfl (T7_heatsThatSay_64 o1 ho1 hk k17 H17 v4 v3 ((1 : Int32) <<< (v4 &&& 31)) st5)
set_option maxHeartbeats 1000000 in
set_option maxRecDepth 20000 in
theorem L7_heatsThatSay_17 {g : fkG} {k : fkK} (o1 : Nat) (ho1 : kdC o1 = 5) (hk : fk_ok wC g k RX7 cX7_heatsThatSay 5 (some (.int)) 3 143) (fu : Nat) : ∀ (v3 : Int32) (v4 : Int32) (st : fkS), fk_J wC g fk_eI k 17 [(0, fk_r g 0), (1, fk_r g o1), (3, .int v3), (4, .int v4)] [] st (fk_lp2 (B7_heatsThatSay_17 o1) fu v3 v4 st) := by
  induction fu with
  | zero =>
    intro v3 v4 st
    exact j_none hk
  | succ fu ih =>
    exact T7_heatsThatSay_17 o1 ho1 hk _ ih
def F7_heatsThatSay (o1 : Nat) (p2 : Int32) (st : fkS) : Option (Int32 × fkS) :=
 fk_bind (F6_take 40 19 p2 st) <| fun _ st1 =>
 fk_lp2 (B7_heatsThatSay_17 o1) fk_fuel (0 : Int32) (0 : Int32) st1
set_option maxHeartbeats 1000000 in
set_option maxRecDepth 20000 in
theorem C7_heatsThatSay (o1 : Nat) (ho1 : kdC o1 = 5) (p2 : Int32) (st : fkS) {g : fkG} (l : Launch) (o : Int32 × fkS) (hF : F7_heatsThatSay o1 p2 st = some o) : fk_C wC yX7_heatsThatSay cX7_heatsThatSay 5 (some (.int)) 3 143 l g [fk_r g 0, fk_r g o1, .int p2] st (fk_eI o.1) o.2 := by
  refine fk_begin rfl (Nat.le_of_ble_eq_true rfl) (fun k hk => ?_) o hF
  have hk : fk_ok wC g k RX7 cX7_heatsThatSay 5 (some (.int)) 3 143 := hk
  show fk_J wC g fk_eI k 0 [(0, fk_r g 0), (1, fk_r g o1), (2, .int p2)] [] st (F7_heatsThatSay o1 p2 st)
  unfold F7_heatsThatSay
  refine j_aload_n (pc := 0) hk 0 rfl ⟨_, rfl⟩ dX7_heatsThatSay_0 ?_
  refine f_7_56 (pc := 1) hk (rfl) dX7_heatsThatSay_1 ?_
  refine j_aload_n (pc := 4) hk 0 rfl ⟨_, rfl⟩ dX7_heatsThatSay_4 ?_
  refine f_7_18 (pc := 5) hk (rfl) dX7_heatsThatSay_5 ?_
  refine j_iload_n (pc := 8) hk 2 rfl dX7_heatsThatSay_8 ?_
  refine j_callVNv (pc := 9) hk [fk_r g 19, .int p2] [] rfl (fun l o hq9 => C6_take 40 19 (rfl) (rfl) p2 st l o hq9) (rcv_6 (rfl)) yv_X6_take ml_7_148 rfl (Nat.le_of_ble_eq_true rfl) (Nat.le_of_ble_eq_true rfl) (Nat.le_of_ble_eq_true rfl) dX7_heatsThatSay_9 (fun _ st1 => ?_)
  refine j_iconst (pc := 12) hk dX7_heatsThatSay_12 (v := 0) (by decide) ?_
  refine j_istore_n (lv' := ((3, .int (0 : Int32)) :: [(0, fk_r g 0), (1, fk_r g o1), (2, .int p2)])) (pc := 13) hk rfl (by decide) rfl dX7_heatsThatSay_13 ?_
  refine j_sub hk (lv' := [(0, fk_r g 0), (1, fk_r g o1), (2, .int p2), (3, .int (0 : Int32))]) [1, 2, 3, 0] rfl ?_
  refine j_iconst (pc := 14) hk dX7_heatsThatSay_14 (v := 0) (by decide) ?_
  refine j_istore (lv' := ((4, .int (0 : Int32)) :: [(0, fk_r g 0), (1, fk_r g o1), (2, .int p2), (3, .int (0 : Int32))])) (pc := 15) hk (by decide) rfl dX7_heatsThatSay_15 ?_
  refine j_sub hk (lv' := [(0, fk_r g 0), (1, fk_r g o1), (2, .int p2), (3, .int (0 : Int32)), (4, .int (0 : Int32))]) [1, 2, 3, 4, 0] rfl ?_
  exact j_sub hk [0, 1, 3, 4] rfl (L7_heatsThatSay_17 o1 ho1 hk fk_fuel (0 : Int32) (0 : Int32) st1)
theorem dX7_mouthsThatSay_0 : decode cX7_mouthsThatSay 0 = .ok (.aload_n 0, 1) := by decide +kernel
theorem dX7_mouthsThatSay_1 : decode cX7_mouthsThatSay 1 = .ok (.getfield 56, 3) := by decide +kernel
theorem dX7_mouthsThatSay_4 : decode cX7_mouthsThatSay 4 = .ok (.aload_n 0, 1) := by decide +kernel
theorem dX7_mouthsThatSay_5 : decode cX7_mouthsThatSay 5 = .ok (.getfield 18, 3) := by decide +kernel
theorem dX7_mouthsThatSay_8 : decode cX7_mouthsThatSay 8 = .ok (.iload_n 2, 1) := by decide +kernel
theorem dX7_mouthsThatSay_9 : decode cX7_mouthsThatSay 9 = .ok (.invokevirtual 148, 3) := by decide +kernel
theorem dX7_mouthsThatSay_12 : decode cX7_mouthsThatSay 12 = .ok (.iconst 0, 1) := by decide +kernel
theorem dX7_mouthsThatSay_13 : decode cX7_mouthsThatSay 13 = .ok (.istore_n 3, 1) := by decide +kernel
theorem dX7_mouthsThatSay_14 : decode cX7_mouthsThatSay 14 = .ok (.iconst 0, 1) := by decide +kernel
theorem dX7_mouthsThatSay_15 : decode cX7_mouthsThatSay 15 = .ok (.istore 4, 2) := by decide +kernel
theorem dX7_mouthsThatSay_17 : decode cX7_mouthsThatSay 17 = .ok (.iload 4, 2) := by decide +kernel
theorem dX7_mouthsThatSay_19 : decode cX7_mouthsThatSay 19 = .ok (.bipush 20, 2) := by decide +kernel
theorem dX7_mouthsThatSay_21 : decode cX7_mouthsThatSay 21 = .ok (.if_icmp .ge 51, 3) := by decide +kernel
theorem dX7_mouthsThatSay_24 : decode cX7_mouthsThatSay 24 = .ok (.aload_n 0, 1) := by decide +kernel
theorem dX7_mouthsThatSay_25 : decode cX7_mouthsThatSay 25 = .ok (.getfield 56, 3) := by decide +kernel
theorem dX7_mouthsThatSay_28 : decode cX7_mouthsThatSay 28 = .ok (.iload 4, 2) := by decide +kernel
theorem dX7_mouthsThatSay_30 : decode cX7_mouthsThatSay 30 = .ok (.putfield 152, 3) := by decide +kernel
theorem dX7_mouthsThatSay_33 : decode cX7_mouthsThatSay 33 = .ok (.aload_n 0, 1) := by decide +kernel
theorem dX7_mouthsThatSay_34 : decode cX7_mouthsThatSay 34 = .ok (.getfield 56, 3) := by decide +kernel
theorem dX7_mouthsThatSay_37 : decode cX7_mouthsThatSay 37 = .ok (.aload_n 0, 1) := by decide +kernel
theorem dX7_mouthsThatSay_38 : decode cX7_mouthsThatSay 38 = .ok (.getfield 49, 3) := by decide +kernel
theorem dX7_mouthsThatSay_41 : decode cX7_mouthsThatSay 41 = .ok (.invokevirtual 158, 3) := by decide +kernel
theorem dX7_mouthsThatSay_44 : decode cX7_mouthsThatSay 44 = .ok (.iload_n 3, 1) := by decide +kernel
theorem dX7_mouthsThatSay_45 : decode cX7_mouthsThatSay 45 = .ok (.aload_n 0, 1) := by decide +kernel
theorem dX7_mouthsThatSay_46 : decode cX7_mouthsThatSay 46 = .ok (.getfield 56, 3) := by decide +kernel
theorem dX7_mouthsThatSay_49 : decode cX7_mouthsThatSay 49 = .ok (.aload_n 1, 1) := by decide +kernel
theorem dX7_mouthsThatSay_50 : decode cX7_mouthsThatSay 50 = .ok (.invokevirtual 250, 3) := by decide +kernel
theorem dX7_mouthsThatSay_53 : decode cX7_mouthsThatSay 53 = .ok (.ifCond .eq 10, 3) := by decide +kernel
theorem dX7_mouthsThatSay_56 : decode cX7_mouthsThatSay 56 = .ok (.iconst 1, 1) := by decide +kernel
theorem dX7_mouthsThatSay_57 : decode cX7_mouthsThatSay 57 = .ok (.iload 4, 2) := by decide +kernel
theorem dX7_mouthsThatSay_59 : decode cX7_mouthsThatSay 59 = .ok (.ishl, 1) := by decide +kernel
theorem dX7_mouthsThatSay_60 : decode cX7_mouthsThatSay 60 = .ok (.goto 4, 3) := by decide +kernel
theorem dX7_mouthsThatSay_63 : decode cX7_mouthsThatSay 63 = .ok (.iconst 0, 1) := by decide +kernel
theorem dX7_mouthsThatSay_64 : decode cX7_mouthsThatSay 64 = .ok (.ior, 1) := by decide +kernel
theorem dX7_mouthsThatSay_65 : decode cX7_mouthsThatSay 65 = .ok (.istore_n 3, 1) := by decide +kernel
theorem dX7_mouthsThatSay_66 : decode cX7_mouthsThatSay 66 = .ok (.iinc 4 1, 3) := by decide +kernel
theorem dX7_mouthsThatSay_69 : decode cX7_mouthsThatSay 69 = .ok (.goto (-52), 3) := by decide +kernel
theorem dX7_mouthsThatSay_72 : decode cX7_mouthsThatSay 72 = .ok (.iload_n 3, 1) := by decide +kernel
theorem dX7_mouthsThatSay_73 : decode cX7_mouthsThatSay 73 = .ok (.ireturn, 1) := by decide +kernel
def B7_mouthsThatSay_64 (o1 : Nat) (k17 : Int32 → Int32 → fkS → Option (Int32 × fkS)) (v4 : Int32) (s0 : Int32) (s1 : Int32) (st : fkS) : Option (Int32 × fkS) :=
 k17 (s0 ||| s1) (v4 + (1 : Int32)) st
set_option maxHeartbeats 1000000 in
set_option maxRecDepth 20000 in
theorem T7_mouthsThatSay_64 {g : fkG} {k : fkK} (o1 : Nat) (ho1 : kdC o1 = 5) (hk : fk_ok wC g k RX7 cX7_mouthsThatSay 5 (some (.int)) 3 143) (k17 : Int32 → Int32 → fkS → Option (Int32 × fkS)) (H17 : ∀ (v3 : Int32) (v4 : Int32) (st : fkS), fk_J wC g fk_eI k 17 [(0, fk_r g 0), (1, fk_r g o1), (3, .int v3), (4, .int v4)] [] st (k17 v3 v4 st)) : ∀ (v4 : Int32) (s0 : Int32) (s1 : Int32) (st : fkS), fk_J wC g fk_eI k 64 [(0, fk_r g 0), (1, fk_r g o1), (4, .int v4)] [.int s1, .int s0] st (B7_mouthsThatSay_64 o1 k17 v4 s0 s1 st) := by
  intro v4 s0 s1 st
  unfold B7_mouthsThatSay_64
  refine j_ior (pc := 64) hk dX7_mouthsThatSay_64 ?_
  refine j_istore_n (lv' := ((3, .int (s0 ||| s1)) :: [(0, fk_r g 0), (1, fk_r g o1), (4, .int v4)])) (pc := 65) hk rfl (by decide) rfl dX7_mouthsThatSay_65 ?_
  refine j_sub hk (lv' := [(0, fk_r g 0), (1, fk_r g o1), (3, .int (s0 ||| s1)), (4, .int v4)]) [1, 2, 0, 3] rfl ?_
  refine j_iinc (dd := (1 : Int32)) (lv' := ((4, .int (v4 + (1 : Int32))) :: [(0, fk_r g 0), (1, fk_r g o1), (3, .int (s0 ||| s1))])) (pc := 66) hk 3 rfl (by decide) (by decide) rfl dX7_mouthsThatSay_66 ?_
  refine j_sub hk (lv' := [(0, fk_r g 0), (1, fk_r g o1), (3, .int (s0 ||| s1)), (4, .int (v4 + (1 : Int32)))]) [1, 2, 3, 0] rfl ?_
  refine j_goto (tgt := 17) (pc := 69) hk (by decide) dX7_mouthsThatSay_69 ?_
  exact j_sub hk [0, 1, 2, 3] rfl (H17 (s0 ||| s1) (v4 + (1 : Int32)) st)
def B7_mouthsThatSay_17 (o1 : Nat) (k17 : Int32 → Int32 → fkS → Option (Int32 × fkS)) (v3 : Int32) (v4 : Int32) (st : fkS) : Option (Int32 × fkS) :=
 if (20 : Int32) ≤ v4 then
 (some (v3, st))
 else
 (fk_let (sI st 122 40 v4) <| fun st2 =>
 fk_bind (F6_speak 40 st2) <| fun _ st3 =>
 fk_bind (F6_saysJust 40 o1 st3) <| fun x4 st5 =>
 if x4 = 0 then
 (B7_mouthsThatSay_64 o1 k17 v4 v3 (0 : Int32) st5)
 else
 (B7_mouthsThatSay_64 o1 k17 v4 v3 ((1 : Int32) <<< (v4 &&& 31)) st5))
set_option maxHeartbeats 1000000 in
set_option maxRecDepth 20000 in
theorem T7_mouthsThatSay_17 {g : fkG} {k : fkK} (o1 : Nat) (ho1 : kdC o1 = 5) (hk : fk_ok wC g k RX7 cX7_mouthsThatSay 5 (some (.int)) 3 143) (k17 : Int32 → Int32 → fkS → Option (Int32 × fkS)) (H17 : ∀ (v3 : Int32) (v4 : Int32) (st : fkS), fk_J wC g fk_eI k 17 [(0, fk_r g 0), (1, fk_r g o1), (3, .int v3), (4, .int v4)] [] st (k17 v3 v4 st)) : ∀ (v3 : Int32) (v4 : Int32) (st : fkS), fk_J wC g fk_eI k 17 [(0, fk_r g 0), (1, fk_r g o1), (3, .int v3), (4, .int v4)] [] st (B7_mouthsThatSay_17 o1 k17 v3 v4 st) := by
  intro v3 v4 st
  unfold B7_mouthsThatSay_17
  refine j_iload (pc := 17) hk 3 rfl dX7_mouthsThatSay_17 ?_
  refine j_bipush (pc := 19) hk dX7_mouthsThatSay_19 (v := 20) (by decide) ?_
  refine j_icmp_ge (tgt := 72) (pc := 21) hk (by decide) dX7_mouthsThatSay_21 (fun _ => ?_) (fun _ => ?_)
  · refine j_iload_n (pc := 72) hk 2 rfl dX7_mouthsThatSay_72 ?_
    exact j_iret (pc := 73) hk dX7_mouthsThatSay_73
  · refine j_aload_n (pc := 24) hk 0 rfl ⟨_, rfl⟩ dX7_mouthsThatSay_24 ?_
    refine f_7_56 (pc := 25) hk (rfl) dX7_mouthsThatSay_25 ?_
    refine j_iload (pc := 28) hk 3 rfl dX7_mouthsThatSay_28 ?_
    refine p_7_152 (pc := 30) hk (rfl) dX7_mouthsThatSay_30 (fun st2 => ?_)
    refine j_aload_n (pc := 33) hk 0 rfl ⟨_, rfl⟩ dX7_mouthsThatSay_33 ?_
    refine f_7_56 (pc := 34) hk (rfl) dX7_mouthsThatSay_34 ?_
    refine j_aload_n (pc := 37) hk 0 rfl ⟨_, rfl⟩ dX7_mouthsThatSay_37 ?_
    refine f_7_49 (pc := 38) hk (rfl) dX7_mouthsThatSay_38 ?_
    refine j_callVNv (pc := 41) hk [fk_r g 38] [] rfl (fun l o hq9 => C6_speak 40 (rfl) st2 l o hq9) (rcv_6 (rfl)) yv_X6_speak ml_7_158 rfl (Nat.le_of_ble_eq_true rfl) (Nat.le_of_ble_eq_true rfl) (Nat.le_of_ble_eq_true rfl) dX7_mouthsThatSay_41 (fun _ st3 => ?_)
    refine j_iload_n (pc := 44) hk 2 rfl dX7_mouthsThatSay_44 ?_
    refine j_aload_n (pc := 45) hk 0 rfl ⟨_, rfl⟩ dX7_mouthsThatSay_45 ?_
    refine f_7_56 (pc := 46) hk (rfl) dX7_mouthsThatSay_46 ?_
    refine j_aload_n (pc := 49) hk 1 rfl ⟨_, rfl⟩ dX7_mouthsThatSay_49 ?_
    refine j_callVNi (pc := 50) hk [fk_r g o1] [.int v3] rfl (fun l o hq9 => C6_saysJust 40 o1 (rfl) (ho1) st3 l o hq9) (rcv_6 (rfl)) yv_X6_saysJust ml_7_250 rfl (Nat.le_of_ble_eq_true rfl) (Nat.le_of_ble_eq_true rfl) (Nat.le_of_ble_eq_true rfl) dX7_mouthsThatSay_50 (fun x4 st5 => ?_)
    refine j_if_eq (tgt := 63) (pc := 53) hk (by decide) dX7_mouthsThatSay_53 (fun _ => ?_) (fun _ => ?_)
    · refine j_iconst (pc := 63) hk dX7_mouthsThatSay_63 (v := 0) (by decide) ?_
      exact j_sub hk [0, 1, 3] rfl (T7_mouthsThatSay_64 o1 ho1 hk k17 H17 v4 v3 (0 : Int32) st5)
    · refine j_iconst (pc := 56) hk dX7_mouthsThatSay_56 (v := 1) (by decide) ?_
      refine j_iload (pc := 57) hk 3 rfl dX7_mouthsThatSay_57 ?_
      refine j_ishl (pc := 59) hk dX7_mouthsThatSay_59 ?_
      refine j_goto (tgt := 64) (pc := 60) hk (by decide) dX7_mouthsThatSay_60 ?_
      exact j_sub hk [0, 1, 3] rfl (T7_mouthsThatSay_64 o1 ho1 hk k17 H17 v4 v3 ((1 : Int32) <<< (v4 &&& 31)) st5)
set_option maxHeartbeats 1000000 in
set_option maxRecDepth 20000 in
theorem L7_mouthsThatSay_17 {g : fkG} {k : fkK} (o1 : Nat) (ho1 : kdC o1 = 5) (hk : fk_ok wC g k RX7 cX7_mouthsThatSay 5 (some (.int)) 3 143) (fu : Nat) : ∀ (v3 : Int32) (v4 : Int32) (st : fkS), fk_J wC g fk_eI k 17 [(0, fk_r g 0), (1, fk_r g o1), (3, .int v3), (4, .int v4)] [] st (fk_lp2 (B7_mouthsThatSay_17 o1) fu v3 v4 st) := by
  induction fu with
  | zero =>
    intro v3 v4 st
    exact j_none hk
  | succ fu ih =>
    exact T7_mouthsThatSay_17 o1 ho1 hk _ ih
def F7_mouthsThatSay (o1 : Nat) (p2 : Int32) (st : fkS) : Option (Int32 × fkS) :=
 fk_bind (F6_take 40 19 p2 st) <| fun _ st1 =>
 fk_lp2 (B7_mouthsThatSay_17 o1) fk_fuel (0 : Int32) (0 : Int32) st1
set_option maxHeartbeats 1000000 in
set_option maxRecDepth 20000 in
theorem C7_mouthsThatSay (o1 : Nat) (ho1 : kdC o1 = 5) (p2 : Int32) (st : fkS) {g : fkG} (l : Launch) (o : Int32 × fkS) (hF : F7_mouthsThatSay o1 p2 st = some o) : fk_C wC yX7_mouthsThatSay cX7_mouthsThatSay 5 (some (.int)) 3 143 l g [fk_r g 0, fk_r g o1, .int p2] st (fk_eI o.1) o.2 := by
  refine fk_begin rfl (Nat.le_of_ble_eq_true rfl) (fun k hk => ?_) o hF
  have hk : fk_ok wC g k RX7 cX7_mouthsThatSay 5 (some (.int)) 3 143 := hk
  show fk_J wC g fk_eI k 0 [(0, fk_r g 0), (1, fk_r g o1), (2, .int p2)] [] st (F7_mouthsThatSay o1 p2 st)
  unfold F7_mouthsThatSay
  refine j_aload_n (pc := 0) hk 0 rfl ⟨_, rfl⟩ dX7_mouthsThatSay_0 ?_
  refine f_7_56 (pc := 1) hk (rfl) dX7_mouthsThatSay_1 ?_
  refine j_aload_n (pc := 4) hk 0 rfl ⟨_, rfl⟩ dX7_mouthsThatSay_4 ?_
  refine f_7_18 (pc := 5) hk (rfl) dX7_mouthsThatSay_5 ?_
  refine j_iload_n (pc := 8) hk 2 rfl dX7_mouthsThatSay_8 ?_
  refine j_callVNv (pc := 9) hk [fk_r g 19, .int p2] [] rfl (fun l o hq9 => C6_take 40 19 (rfl) (rfl) p2 st l o hq9) (rcv_6 (rfl)) yv_X6_take ml_7_148 rfl (Nat.le_of_ble_eq_true rfl) (Nat.le_of_ble_eq_true rfl) (Nat.le_of_ble_eq_true rfl) dX7_mouthsThatSay_9 (fun _ st1 => ?_)
  refine j_iconst (pc := 12) hk dX7_mouthsThatSay_12 (v := 0) (by decide) ?_
  refine j_istore_n (lv' := ((3, .int (0 : Int32)) :: [(0, fk_r g 0), (1, fk_r g o1), (2, .int p2)])) (pc := 13) hk rfl (by decide) rfl dX7_mouthsThatSay_13 ?_
  refine j_sub hk (lv' := [(0, fk_r g 0), (1, fk_r g o1), (2, .int p2), (3, .int (0 : Int32))]) [1, 2, 3, 0] rfl ?_
  refine j_iconst (pc := 14) hk dX7_mouthsThatSay_14 (v := 0) (by decide) ?_
  refine j_istore (lv' := ((4, .int (0 : Int32)) :: [(0, fk_r g 0), (1, fk_r g o1), (2, .int p2), (3, .int (0 : Int32))])) (pc := 15) hk (by decide) rfl dX7_mouthsThatSay_15 ?_
  refine j_sub hk (lv' := [(0, fk_r g 0), (1, fk_r g o1), (2, .int p2), (3, .int (0 : Int32)), (4, .int (0 : Int32))]) [1, 2, 3, 4, 0] rfl ?_
  exact j_sub hk [0, 1, 3, 4] rfl (L7_mouthsThatSay_17 o1 ho1 hk fk_fuel (0 : Int32) (0 : Int32) st1)
theorem dX7_fits_0 : decode cX7_fits 0 = .ok (.aload_n 0, 1) := by decide +kernel
theorem dX7_fits_1 : decode cX7_fits 1 = .ok (.iload_n 1, 1) := by decide +kernel
theorem dX7_fits_2 : decode cX7_fits 2 = .ok (.invokevirtual 75, 3) := by decide +kernel
theorem dX7_fits_5 : decode cX7_fits 5 = .ok (.ifCond .ne 22, 3) := by decide +kernel
theorem dX7_fits_8 : decode cX7_fits 8 = .ok (.aload_n 0, 1) := by decide +kernel
theorem dX7_fits_9 : decode cX7_fits 9 = .ok (.iload_n 2, 1) := by decide +kernel
theorem dX7_fits_10 : decode cX7_fits 10 = .ok (.invokevirtual 75, 3) := by decide +kernel
theorem dX7_fits_13 : decode cX7_fits 13 = .ok (.ifCond .ne 14, 3) := by decide +kernel
theorem dX7_fits_16 : decode cX7_fits 16 = .ok (.aload_n 0, 1) := by decide +kernel
theorem dX7_fits_17 : decode cX7_fits 17 = .ok (.getfield 18, 3) := by decide +kernel
theorem dX7_fits_20 : decode cX7_fits 20 = .ok (.iload_n 3, 1) := by decide +kernel
theorem dX7_fits_21 : decode cX7_fits 21 = .ok (.invokevirtual 126, 3) := by decide +kernel
theorem dX7_fits_24 : decode cX7_fits 24 = .ok (.ifCond .eq 9, 3) := by decide +kernel
theorem dX7_fits_27 : decode cX7_fits 27 = .ok (.aload_n 0, 1) := by decide +kernel
theorem dX7_fits_28 : decode cX7_fits 28 = .ok (.iconst (-1), 1) := by decide +kernel
theorem dX7_fits_29 : decode cX7_fits 29 = .ok (.invokevirtual 79, 3) := by decide +kernel
theorem dX7_fits_32 : decode cX7_fits 32 = .ok (.ireturn, 1) := by decide +kernel
theorem dX7_fits_33 : decode cX7_fits 33 = .ok (.aload_n 0, 1) := by decide +kernel
theorem dX7_fits_34 : decode cX7_fits 34 = .ok (.iload_n 1, 1) := by decide +kernel
theorem dX7_fits_35 : decode cX7_fits 35 = .ok (.iload_n 2, 1) := by decide +kernel
theorem dX7_fits_36 : decode cX7_fits 36 = .ok (.invokevirtual 98, 3) := by decide +kernel
theorem dX7_fits_39 : decode cX7_fits 39 = .ok (.istore 5, 2) := by decide +kernel
theorem dX7_fits_41 : decode cX7_fits 41 = .ok (.iload 5, 2) := by decide +kernel
theorem dX7_fits_43 : decode cX7_fits 43 = .ok (.ifCond .eq 10, 3) := by decide +kernel
theorem dX7_fits_46 : decode cX7_fits 46 = .ok (.aload_n 0, 1) := by decide +kernel
theorem dX7_fits_47 : decode cX7_fits 47 = .ok (.iload 5, 2) := by decide +kernel
theorem dX7_fits_49 : decode cX7_fits 49 = .ok (.invokevirtual 79, 3) := by decide +kernel
theorem dX7_fits_52 : decode cX7_fits 52 = .ok (.ireturn, 1) := by decide +kernel
theorem dX7_fits_53 : decode cX7_fits 53 = .ok (.iload 4, 2) := by decide +kernel
theorem dX7_fits_55 : decode cX7_fits 55 = .ok (.ifCond .lt 9, 3) := by decide +kernel
theorem dX7_fits_58 : decode cX7_fits 58 = .ok (.iload 4, 2) := by decide +kernel
theorem dX7_fits_60 : decode cX7_fits 60 = .ok (.iconst 2, 1) := by decide +kernel
theorem dX7_fits_61 : decode cX7_fits 61 = .ok (.if_icmp .le 10, 3) := by decide +kernel
theorem dX7_fits_64 : decode cX7_fits 64 = .ok (.aload_n 0, 1) := by decide +kernel
theorem dX7_fits_65 : decode cX7_fits 65 = .ok (.bipush (-5), 2) := by decide +kernel
theorem dX7_fits_67 : decode cX7_fits 67 = .ok (.invokevirtual 79, 3) := by decide +kernel
theorem dX7_fits_70 : decode cX7_fits 70 = .ok (.ireturn, 1) := by decide +kernel
theorem dX7_fits_71 : decode cX7_fits 71 = .ok (.aload_n 0, 1) := by decide +kernel
theorem dX7_fits_72 : decode cX7_fits 72 = .ok (.getfield 49, 3) := by decide +kernel
theorem dX7_fits_75 : decode cX7_fits 75 = .ok (.aload_n 0, 1) := by decide +kernel
theorem dX7_fits_76 : decode cX7_fits 76 = .ok (.getfield 11, 3) := by decide +kernel
theorem dX7_fits_79 : decode cX7_fits 79 = .ok (.iload_n 1, 1) := by decide +kernel
theorem dX7_fits_80 : decode cX7_fits 80 = .ok (.aaload, 1) := by decide +kernel
theorem dX7_fits_81 : decode cX7_fits 81 = .ok (.iconst 0, 1) := by decide +kernel
theorem dX7_fits_82 : decode cX7_fits 82 = .ok (.invokevirtual 234, 3) := by decide +kernel
theorem dX7_fits_85 : decode cX7_fits 85 = .ok (.ifCond .ne 10, 3) := by decide +kernel
theorem dX7_fits_88 : decode cX7_fits 88 = .ok (.aload_n 0, 1) := by decide +kernel
theorem dX7_fits_89 : decode cX7_fits 89 = .ok (.bipush (-6), 2) := by decide +kernel
theorem dX7_fits_91 : decode cX7_fits 91 = .ok (.invokevirtual 79, 3) := by decide +kernel
theorem dX7_fits_94 : decode cX7_fits 94 = .ok (.ireturn, 1) := by decide +kernel
theorem dX7_fits_95 : decode cX7_fits 95 = .ok (.iload 4, 2) := by decide +kernel
theorem dX7_fits_97 : decode cX7_fits 97 = .ok (.lookupswitch 51 #[(0, 27), (1, 39)], 27) := by decide +kernel
theorem dX7_fits_124 : decode cX7_fits 124 = .ok (.aload_n 0, 1) := by decide +kernel
theorem dX7_fits_125 : decode cX7_fits 125 = .ok (.aload_n 0, 1) := by decide +kernel
theorem dX7_fits_126 : decode cX7_fits 126 = .ok (.getfield 11, 3) := by decide +kernel
theorem dX7_fits_129 : decode cX7_fits 129 = .ok (.iload_n 2, 1) := by decide +kernel
theorem dX7_fits_130 : decode cX7_fits 130 = .ok (.aaload, 1) := by decide +kernel
theorem dX7_fits_131 : decode cX7_fits 131 = .ok (.iload_n 3, 1) := by decide +kernel
theorem dX7_fits_132 : decode cX7_fits 132 = .ok (.invokevirtual 237, 3) := by decide +kernel
theorem dX7_fits_135 : decode cX7_fits 135 = .ok (.ireturn, 1) := by decide +kernel
theorem dX7_fits_136 : decode cX7_fits 136 = .ok (.aload_n 0, 1) := by decide +kernel
theorem dX7_fits_137 : decode cX7_fits 137 = .ok (.aload_n 0, 1) := by decide +kernel
theorem dX7_fits_138 : decode cX7_fits 138 = .ok (.getfield 11, 3) := by decide +kernel
theorem dX7_fits_141 : decode cX7_fits 141 = .ok (.iload_n 2, 1) := by decide +kernel
theorem dX7_fits_142 : decode cX7_fits 142 = .ok (.aaload, 1) := by decide +kernel
theorem dX7_fits_143 : decode cX7_fits 143 = .ok (.iload_n 3, 1) := by decide +kernel
theorem dX7_fits_144 : decode cX7_fits 144 = .ok (.invokevirtual 241, 3) := by decide +kernel
theorem dX7_fits_147 : decode cX7_fits 147 = .ok (.ireturn, 1) := by decide +kernel
theorem dX7_fits_148 : decode cX7_fits 148 = .ok (.aload_n 0, 1) := by decide +kernel
theorem dX7_fits_149 : decode cX7_fits 149 = .ok (.aload_n 0, 1) := by decide +kernel
theorem dX7_fits_150 : decode cX7_fits 150 = .ok (.getfield 11, 3) := by decide +kernel
theorem dX7_fits_153 : decode cX7_fits 153 = .ok (.iload_n 2, 1) := by decide +kernel
theorem dX7_fits_154 : decode cX7_fits 154 = .ok (.aaload, 1) := by decide +kernel
theorem dX7_fits_155 : decode cX7_fits 155 = .ok (.iload_n 3, 1) := by decide +kernel
theorem dX7_fits_156 : decode cX7_fits 156 = .ok (.invokevirtual 244, 3) := by decide +kernel
theorem dX7_fits_159 : decode cX7_fits 159 = .ok (.ireturn, 1) := by decide +kernel
def B7_fits_27 (st : fkS) : Option (Int32 × fkS) :=
 fk_bind (F7_refuse (-1 : Int32) st) <| fun x29 st30 =>
 some (x29, st30)
set_option maxHeartbeats 1000000 in
set_option maxRecDepth 20000 in
theorem T7_fits_27 {g : fkG} {k : fkK} (hk : fk_ok wC g k RX7 cX7_fits 6 (some (.int)) 4 167) : ∀ (st : fkS), fk_J wC g fk_eI k 27 [(0, fk_r g 0)] [] st (B7_fits_27 st) := by
  intro st
  unfold B7_fits_27
  refine j_aload_n (pc := 27) hk 0 rfl ⟨_, rfl⟩ dX7_fits_27 ?_
  refine j_iconst (pc := 28) hk dX7_fits_28 (v := -1) (by decide) ?_
  refine j_callVi (pc := 29) hk [.int (-1 : Int32)] [] rfl (fun l o hq9 => C7_refuse (-1 : Int32) st l o hq9) (rcv_7 (rfl)) yv_X7_refuse ml_7_79 rfl (Nat.le_of_ble_eq_true rfl) (Nat.le_of_ble_eq_true rfl) (Nat.le_of_ble_eq_true rfl) dX7_fits_29 (fun x29 st30 => ?_)
  exact j_iret (pc := 32) hk dX7_fits_32
def B7_fits_64 (st : fkS) : Option (Int32 × fkS) :=
 fk_bind (F7_refuse (-5 : Int32) st) <| fun x27 st28 =>
 some (x27, st28)
set_option maxHeartbeats 1000000 in
set_option maxRecDepth 20000 in
theorem T7_fits_64 {g : fkG} {k : fkK} (hk : fk_ok wC g k RX7 cX7_fits 6 (some (.int)) 4 167) : ∀ (st : fkS), fk_J wC g fk_eI k 64 [(0, fk_r g 0)] [] st (B7_fits_64 st) := by
  intro st
  unfold B7_fits_64
  refine j_aload_n (pc := 64) hk 0 rfl ⟨_, rfl⟩ dX7_fits_64 ?_
  refine j_bipush (pc := 65) hk dX7_fits_65 (v := -5) (by decide) ?_
  refine j_callVi (pc := 67) hk [.int (-5 : Int32)] [] rfl (fun l o hq9 => C7_refuse (-5 : Int32) st l o hq9) (rcv_7 (rfl)) yv_X7_refuse ml_7_79 rfl (Nat.le_of_ble_eq_true rfl) (Nat.le_of_ble_eq_true rfl) (Nat.le_of_ble_eq_true rfl) dX7_fits_67 (fun x27 st28 => ?_)
  exact j_iret (pc := 70) hk dX7_fits_70
def F7_fits (p1 : Int32) (p2 : Int32) (p3 : Int32) (p4 : Int32) (st : fkS) : Option (Int32 × fkS) :=
 fk_bind (F7_noShelf p1 st) <| fun x1 st2 =>
 if x1 = 0 then
 (fk_bind (F7_noShelf p2 st2) <| fun x3 st4 =>
 if x3 = 0 then
 (fk_bind (F0_lacks 19 p3 st4) <| fun x5 st6 =>
 if x5 = 0 then
 (fk_bind (F7_noRows p1 p2 st6) <| fun x7 st8 =>
 if x7 = 0 then
 (if p4 < 0 then
 (B7_fits_64 st8)
 else
 (if p4 ≤ (2 : Int32) then
 (fk_chk (fk_in p1 8) <|
 fk_bind (F3_take (3 + p1.toNatClampNeg) (0 : Int32) st8) <| fun x10 st11 =>
 if x10 = 0 then
 (fk_bind (F7_refuse (-6 : Int32) st11) <| fun x12 st13 =>
 some (x12, st13))
 else
 (if p4 = (0 : Int32) then
 (fk_chk (fk_in p2 8) <|
 fk_bind (F7_kindsThatSay (3 + p2.toNatClampNeg) p3 st11) <| fun x16 st17 =>
 some (x16, st17))
 else
 (if p4 = (1 : Int32) then
 (fk_chk (fk_in p2 8) <|
 fk_bind (F7_heatsThatSay (3 + p2.toNatClampNeg) p3 st11) <| fun x20 st21 =>
 some (x20, st21))
 else
 (fk_chk (fk_in p2 8) <|
 fk_bind (F7_mouthsThatSay (3 + p2.toNatClampNeg) p3 st11) <| fun x23 st24 =>
 some (x23, st24)))))
 else
 (B7_fits_64 st8)))
 else
 (fk_bind (F7_refuse x7 st8) <| fun x25 st26 =>
 some (x25, st26)))
 else
 (B7_fits_27 st6))
 else
 (B7_fits_27 st4))
 else
 (B7_fits_27 st2)
set_option maxHeartbeats 1000000 in
set_option maxRecDepth 20000 in
theorem C7_fits (p1 : Int32) (p2 : Int32) (p3 : Int32) (p4 : Int32) (st : fkS) {g : fkG} (l : Launch) (o : Int32 × fkS) (hF : F7_fits p1 p2 p3 p4 st = some o) : fk_C wC yX7_fits cX7_fits 6 (some (.int)) 4 167 l g [fk_r g 0, .int p1, .int p2, .int p3, .int p4] st (fk_eI o.1) o.2 := by
  refine fk_begin rfl (Nat.le_of_ble_eq_true rfl) (fun k hk => ?_) o hF
  have hk : fk_ok wC g k RX7 cX7_fits 6 (some (.int)) 4 167 := hk
  show fk_J wC g fk_eI k 0 [(0, fk_r g 0), (1, .int p1), (2, .int p2), (3, .int p3), (4, .int p4)] [] st (F7_fits p1 p2 p3 p4 st)
  unfold F7_fits
  refine j_aload_n (pc := 0) hk 0 rfl ⟨_, rfl⟩ dX7_fits_0 ?_
  refine j_iload_n (pc := 1) hk 1 rfl dX7_fits_1 ?_
  refine j_callVi (pc := 2) hk [.int p1] [] rfl (fun l o hq9 => C7_noShelf p1 st l o hq9) (rcv_7 (rfl)) yv_X7_noShelf ml_7_75 rfl (Nat.le_of_ble_eq_true rfl) (Nat.le_of_ble_eq_true rfl) (Nat.le_of_ble_eq_true rfl) dX7_fits_2 (fun x1 st2 => ?_)
  refine j_if_ne (tgt := 27) (pc := 5) hk (by decide) dX7_fits_5 (fun _ => ?_) (fun _ => ?_)
  · refine j_aload_n (pc := 8) hk 0 rfl ⟨_, rfl⟩ dX7_fits_8 ?_
    refine j_iload_n (pc := 9) hk 2 rfl dX7_fits_9 ?_
    refine j_callVi (pc := 10) hk [.int p2] [] rfl (fun l o hq9 => C7_noShelf p2 st2 l o hq9) (rcv_7 (rfl)) yv_X7_noShelf ml_7_75 rfl (Nat.le_of_ble_eq_true rfl) (Nat.le_of_ble_eq_true rfl) (Nat.le_of_ble_eq_true rfl) dX7_fits_10 (fun x3 st4 => ?_)
    refine j_if_ne (tgt := 27) (pc := 13) hk (by decide) dX7_fits_13 (fun _ => ?_) (fun _ => ?_)
    · refine j_aload_n (pc := 16) hk 0 rfl ⟨_, rfl⟩ dX7_fits_16 ?_
      refine f_7_18 (pc := 17) hk (rfl) dX7_fits_17 ?_
      refine j_iload_n (pc := 20) hk 3 rfl dX7_fits_20 ?_
      refine j_callVNi (pc := 21) hk [.int p3] [] rfl (fun l o hq9 => C0_lacks 19 (rfl) p3 st4 l o hq9) (rcv_0 (rfl)) yv_X0_lacks ml_7_126 rfl (Nat.le_of_ble_eq_true rfl) (Nat.le_of_ble_eq_true rfl) (Nat.le_of_ble_eq_true rfl) dX7_fits_21 (fun x5 st6 => ?_)
      refine j_if_eq (tgt := 33) (pc := 24) hk (by decide) dX7_fits_24 (fun _ => ?_) (fun _ => ?_)
      · refine j_aload_n (pc := 33) hk 0 rfl ⟨_, rfl⟩ dX7_fits_33 ?_
        refine j_iload_n (pc := 34) hk 1 rfl dX7_fits_34 ?_
        refine j_iload_n (pc := 35) hk 2 rfl dX7_fits_35 ?_
        refine j_callVi (pc := 36) hk [.int p1, .int p2] [] rfl (fun l o hq9 => C7_noRows p1 p2 st6 l o hq9) (rcv_7 (rfl)) yv_X7_noRows ml_7_98 rfl (Nat.le_of_ble_eq_true rfl) (Nat.le_of_ble_eq_true rfl) (Nat.le_of_ble_eq_true rfl) dX7_fits_36 (fun x7 st8 => ?_)
        refine j_istore (lv' := ((5, .int x7) :: [(0, fk_r g 0), (1, .int p1), (2, .int p2), (3, .int p3), (4, .int p4)])) (pc := 39) hk (by decide) rfl dX7_fits_39 ?_
        refine j_sub hk (lv' := [(0, fk_r g 0), (1, .int p1), (2, .int p2), (3, .int p3), (4, .int p4), (5, .int x7)]) [1, 2, 3, 4, 5, 0] rfl ?_
        refine j_iload (pc := 41) hk 5 rfl dX7_fits_41 ?_
        refine j_if_eq (tgt := 53) (pc := 43) hk (by decide) dX7_fits_43 (fun _ => ?_) (fun _ => ?_)
        · refine j_iload (pc := 53) hk 4 rfl dX7_fits_53 ?_
          refine j_if_lt (tgt := 64) (pc := 55) hk (by decide) dX7_fits_55 (fun _ => ?_) (fun _ => ?_)
          · exact j_sub hk [0] rfl (T7_fits_64 hk st8)
          · refine j_iload (pc := 58) hk 4 rfl dX7_fits_58 ?_
            refine j_iconst (pc := 60) hk dX7_fits_60 (v := 2) (by decide) ?_
            refine j_icmp_le (tgt := 71) (pc := 61) hk (by decide) dX7_fits_61 (fun _ => ?_) (fun _ => ?_)
            · refine j_aload_n (pc := 71) hk 0 rfl ⟨_, rfl⟩ dX7_fits_71 ?_
              refine f_7_49 (pc := 72) hk (rfl) dX7_fits_72 ?_
              refine j_aload_n (pc := 75) hk 0 rfl ⟨_, rfl⟩ dX7_fits_75 ?_
              refine f_7_11 (pc := 76) hk (rfl) dX7_fits_76 ?_
              refine j_iload_n (pc := 79) hk 1 rfl dX7_fits_79 ?_
              refine a_shelf (pc := 80) hk dX7_fits_80 (fun hs9 => ?_)
              refine j_iconst (pc := 81) hk dX7_fits_81 (v := 0) (by decide) ?_
              refine j_callVNi (pc := 82) hk [fk_r g (3 + p1.toNatClampNeg), .int (0 : Int32)] [] rfl (fun l o hq9 => C3_take (3 + p1.toNatClampNeg) (hs9) (0 : Int32) st8 l o hq9) (rcv_3 (rfl)) yv_X3_take ml_7_234 rfl (Nat.le_of_ble_eq_true rfl) (Nat.le_of_ble_eq_true rfl) (Nat.le_of_ble_eq_true rfl) dX7_fits_82 (fun x10 st11 => ?_)
              refine j_if_ne (tgt := 95) (pc := 85) hk (by decide) dX7_fits_85 (fun _ => ?_) (fun _ => ?_)
              · refine j_aload_n (pc := 88) hk 0 rfl ⟨_, rfl⟩ dX7_fits_88 ?_
                refine j_bipush (pc := 89) hk dX7_fits_89 (v := -6) (by decide) ?_
                refine j_callVi (pc := 91) hk [.int (-6 : Int32)] [] rfl (fun l o hq9 => C7_refuse (-6 : Int32) st11 l o hq9) (rcv_7 (rfl)) yv_X7_refuse ml_7_79 rfl (Nat.le_of_ble_eq_true rfl) (Nat.le_of_ble_eq_true rfl) (Nat.le_of_ble_eq_true rfl) dX7_fits_91 (fun x12 st13 => ?_)
                exact j_iret (pc := 94) hk dX7_fits_94
              · refine j_iload (pc := 95) hk 4 rfl dX7_fits_95 ?_
                refine j_case (pc := 97) hk (fun n14 => ?_) (fun n14 => ?_)
                · refine j_lsw (off := 27) (tgt := 124) (pc := 97) hk (by decide) (by rw [n14]; decide) (by decide) dX7_fits_97 ?_
                  refine j_aload_n (pc := 124) hk 0 rfl ⟨_, rfl⟩ dX7_fits_124 ?_
                  refine j_aload_n (pc := 125) hk 0 rfl ⟨_, rfl⟩ dX7_fits_125 ?_
                  refine f_7_11 (pc := 126) hk (rfl) dX7_fits_126 ?_
                  refine j_iload_n (pc := 129) hk 2 rfl dX7_fits_129 ?_
                  refine a_shelf (pc := 130) hk dX7_fits_130 (fun hs15 => ?_)
                  refine j_iload_n (pc := 131) hk 3 rfl dX7_fits_131 ?_
                  refine j_callVi (pc := 132) hk [fk_r g (3 + p2.toNatClampNeg), .int p3] [] rfl (fun l o hq9 => C7_kindsThatSay (3 + p2.toNatClampNeg) (hs15) p3 st11 l o hq9) (rcv_7 (rfl)) yv_X7_kindsThatSay ml_7_237 rfl (Nat.le_of_ble_eq_true rfl) (Nat.le_of_ble_eq_true rfl) (Nat.le_of_ble_eq_true rfl) dX7_fits_132 (fun x16 st17 => ?_)
                  exact j_iret (pc := 135) hk dX7_fits_135
                · refine j_case (pc := 97) hk (fun n18 => ?_) (fun n18 => ?_)
                  · refine j_lsw (off := 39) (tgt := 136) (pc := 97) hk (by decide) (by rw [n18]; decide) (by decide) dX7_fits_97 ?_
                    refine j_aload_n (pc := 136) hk 0 rfl ⟨_, rfl⟩ dX7_fits_136 ?_
                    refine j_aload_n (pc := 137) hk 0 rfl ⟨_, rfl⟩ dX7_fits_137 ?_
                    refine f_7_11 (pc := 138) hk (rfl) dX7_fits_138 ?_
                    refine j_iload_n (pc := 141) hk 2 rfl dX7_fits_141 ?_
                    refine a_shelf (pc := 142) hk dX7_fits_142 (fun hs19 => ?_)
                    refine j_iload_n (pc := 143) hk 3 rfl dX7_fits_143 ?_
                    refine j_callVi (pc := 144) hk [fk_r g (3 + p2.toNatClampNeg), .int p3] [] rfl (fun l o hq9 => C7_heatsThatSay (3 + p2.toNatClampNeg) (hs19) p3 st11 l o hq9) (rcv_7 (rfl)) yv_X7_heatsThatSay ml_7_241 rfl (Nat.le_of_ble_eq_true rfl) (Nat.le_of_ble_eq_true rfl) (Nat.le_of_ble_eq_true rfl) dX7_fits_144 (fun x20 st21 => ?_)
                    exact j_iret (pc := 147) hk dX7_fits_147
                  · have mn14 := lv_neT (a := 0) n14 (by decide)
                    have mn18 := lv_neT (a := 1) n18 (by decide)
                    refine j_lsw (off := 51) (tgt := 148) (pc := 97) hk (by decide) (fk_lsw (by intro q hq; simp only [List.mem_cons, List.not_mem_nil, or_false] at hq; rcases hq with rfl | rfl <;> simpa using by assumption)) (by decide) dX7_fits_97 ?_
                    refine j_aload_n (pc := 148) hk 0 rfl ⟨_, rfl⟩ dX7_fits_148 ?_
                    refine j_aload_n (pc := 149) hk 0 rfl ⟨_, rfl⟩ dX7_fits_149 ?_
                    refine f_7_11 (pc := 150) hk (rfl) dX7_fits_150 ?_
                    refine j_iload_n (pc := 153) hk 2 rfl dX7_fits_153 ?_
                    refine a_shelf (pc := 154) hk dX7_fits_154 (fun hs22 => ?_)
                    refine j_iload_n (pc := 155) hk 3 rfl dX7_fits_155 ?_
                    refine j_callVi (pc := 156) hk [fk_r g (3 + p2.toNatClampNeg), .int p3] [] rfl (fun l o hq9 => C7_mouthsThatSay (3 + p2.toNatClampNeg) (hs22) p3 st11 l o hq9) (rcv_7 (rfl)) yv_X7_mouthsThatSay ml_7_244 rfl (Nat.le_of_ble_eq_true rfl) (Nat.le_of_ble_eq_true rfl) (Nat.le_of_ble_eq_true rfl) dX7_fits_156 (fun x23 st24 => ?_)
                    exact j_iret (pc := 159) hk dX7_fits_159
            · exact j_sub hk [0] rfl (T7_fits_64 hk st8)
        · refine j_aload_n (pc := 46) hk 0 rfl ⟨_, rfl⟩ dX7_fits_46 ?_
          refine j_iload (pc := 47) hk 5 rfl dX7_fits_47 ?_
          refine j_callVi (pc := 49) hk [.int x7] [] rfl (fun l o hq9 => C7_refuse x7 st8 l o hq9) (rcv_7 (rfl)) yv_X7_refuse ml_7_79 rfl (Nat.le_of_ble_eq_true rfl) (Nat.le_of_ble_eq_true rfl) (Nat.le_of_ble_eq_true rfl) dX7_fits_49 (fun x25 st26 => ?_)
          exact j_iret (pc := 52) hk dX7_fits_52
      · exact j_sub hk [0] rfl (T7_fits_27 hk st6)
    · exact j_sub hk [0] rfl (T7_fits_27 hk st4)
  · exact j_sub hk [0] rfl (T7_fits_27 hk st2)
theorem dX7_pies_0 : decode cX7_pies 0 = .ok (.aload_n 0, 1) := by decide +kernel
theorem dX7_pies_1 : decode cX7_pies 1 = .ok (.iload_n 1, 1) := by decide +kernel
theorem dX7_pies_2 : decode cX7_pies 2 = .ok (.invokevirtual 75, 3) := by decide +kernel
theorem dX7_pies_5 : decode cX7_pies 5 = .ok (.ifCond .ne 14, 3) := by decide +kernel
theorem dX7_pies_8 : decode cX7_pies 8 = .ok (.aload_n 0, 1) := by decide +kernel
theorem dX7_pies_9 : decode cX7_pies 9 = .ok (.getfield 18, 3) := by decide +kernel
theorem dX7_pies_12 : decode cX7_pies 12 = .ok (.iload_n 2, 1) := by decide +kernel
theorem dX7_pies_13 : decode cX7_pies 13 = .ok (.invokevirtual 126, 3) := by decide +kernel
theorem dX7_pies_16 : decode cX7_pies 16 = .ok (.ifCond .eq 9, 3) := by decide +kernel
theorem dX7_pies_19 : decode cX7_pies 19 = .ok (.aload_n 0, 1) := by decide +kernel
theorem dX7_pies_20 : decode cX7_pies 20 = .ok (.iconst (-1), 1) := by decide +kernel
theorem dX7_pies_21 : decode cX7_pies 21 = .ok (.invokevirtual 139, 3) := by decide +kernel
theorem dX7_pies_24 : decode cX7_pies 24 = .ok (.ireturn, 1) := by decide +kernel
theorem dX7_pies_25 : decode cX7_pies 25 = .ok (.aload_n 0, 1) := by decide +kernel
theorem dX7_pies_26 : decode cX7_pies 26 = .ok (.iload_n 1, 1) := by decide +kernel
theorem dX7_pies_27 : decode cX7_pies 27 = .ok (.invokevirtual 87, 3) := by decide +kernel
theorem dX7_pies_30 : decode cX7_pies 30 = .ok (.istore 5, 2) := by decide +kernel
theorem dX7_pies_32 : decode cX7_pies 32 = .ok (.iload 5, 2) := by decide +kernel
theorem dX7_pies_34 : decode cX7_pies 34 = .ok (.ifCond .eq 10, 3) := by decide +kernel
theorem dX7_pies_37 : decode cX7_pies 37 = .ok (.aload_n 0, 1) := by decide +kernel
theorem dX7_pies_38 : decode cX7_pies 38 = .ok (.iload 5, 2) := by decide +kernel
theorem dX7_pies_40 : decode cX7_pies 40 = .ok (.invokevirtual 139, 3) := by decide +kernel
theorem dX7_pies_43 : decode cX7_pies 43 = .ok (.ireturn, 1) := by decide +kernel
theorem dX7_pies_44 : decode cX7_pies 44 = .ok (.iload_n 3, 1) := by decide +kernel
theorem dX7_pies_45 : decode cX7_pies 45 = .ok (.ifCond .lt 8, 3) := by decide +kernel
theorem dX7_pies_48 : decode cX7_pies 48 = .ok (.iload_n 3, 1) := by decide +kernel
theorem dX7_pies_49 : decode cX7_pies 49 = .ok (.iconst 3, 1) := by decide +kernel
theorem dX7_pies_50 : decode cX7_pies 50 = .ok (.if_icmp .le 10, 3) := by decide +kernel
theorem dX7_pies_53 : decode cX7_pies 53 = .ok (.aload_n 0, 1) := by decide +kernel
theorem dX7_pies_54 : decode cX7_pies 54 = .ok (.bipush (-6), 2) := by decide +kernel
theorem dX7_pies_56 : decode cX7_pies 56 = .ok (.invokevirtual 139, 3) := by decide +kernel
theorem dX7_pies_59 : decode cX7_pies 59 = .ok (.ireturn, 1) := by decide +kernel
theorem dX7_pies_60 : decode cX7_pies 60 = .ok (.iload 4, 2) := by decide +kernel
theorem dX7_pies_62 : decode cX7_pies 62 = .ok (.iconst (-1), 1) := by decide +kernel
theorem dX7_pies_63 : decode cX7_pies 63 = .ok (.if_icmp .eq 21, 3) := by decide +kernel
theorem dX7_pies_66 : decode cX7_pies 66 = .ok (.iload 4, 2) := by decide +kernel
theorem dX7_pies_68 : decode cX7_pies 68 = .ok (.ifCond .lt 9, 3) := by decide +kernel
theorem dX7_pies_71 : decode cX7_pies 71 = .ok (.iload 4, 2) := by decide +kernel
theorem dX7_pies_73 : decode cX7_pies 73 = .ok (.iload_n 3, 1) := by decide +kernel
theorem dX7_pies_74 : decode cX7_pies 74 = .ok (.if_icmp .lt 10, 3) := by decide +kernel
theorem dX7_pies_77 : decode cX7_pies 77 = .ok (.aload_n 0, 1) := by decide +kernel
theorem dX7_pies_78 : decode cX7_pies 78 = .ok (.bipush (-5), 2) := by decide +kernel
theorem dX7_pies_80 : decode cX7_pies 80 = .ok (.invokevirtual 139, 3) := by decide +kernel
theorem dX7_pies_83 : decode cX7_pies 83 = .ok (.ireturn, 1) := by decide +kernel
theorem dX7_pies_84 : decode cX7_pies 84 = .ok (.aload_n 0, 1) := by decide +kernel
theorem dX7_pies_85 : decode cX7_pies 85 = .ok (.getfield 56, 3) := by decide +kernel
theorem dX7_pies_88 : decode cX7_pies 88 = .ok (.aload_n 0, 1) := by decide +kernel
theorem dX7_pies_89 : decode cX7_pies 89 = .ok (.getfield 18, 3) := by decide +kernel
theorem dX7_pies_92 : decode cX7_pies 92 = .ok (.iload_n 2, 1) := by decide +kernel
theorem dX7_pies_93 : decode cX7_pies 93 = .ok (.invokevirtual 148, 3) := by decide +kernel
theorem dX7_pies_96 : decode cX7_pies 96 = .ok (.iconst 0, 1) := by decide +kernel
theorem dX7_pies_97 : decode cX7_pies 97 = .ok (.istore 6, 2) := by decide +kernel
theorem dX7_pies_99 : decode cX7_pies 99 = .ok (.iconst 0, 1) := by decide +kernel
theorem dX7_pies_100 : decode cX7_pies 100 = .ok (.istore 7, 2) := by decide +kernel
theorem dX7_pies_102 : decode cX7_pies 102 = .ok (.iload 7, 2) := by decide +kernel
theorem dX7_pies_104 : decode cX7_pies 104 = .ok (.iload_n 3, 1) := by decide +kernel
theorem dX7_pies_105 : decode cX7_pies 105 = .ok (.invokestatic 247, 3) := by decide +kernel
theorem dX7_pies_108 : decode cX7_pies 108 = .ok (.if_icmp .ge 65, 3) := by decide +kernel
theorem dX7_pies_111 : decode cX7_pies 111 = .ok (.aload_n 0, 1) := by decide +kernel
theorem dX7_pies_112 : decode cX7_pies 112 = .ok (.getfield 49, 3) := by decide +kernel
theorem dX7_pies_115 : decode cX7_pies 115 = .ok (.iload_n 3, 1) := by decide +kernel
theorem dX7_pies_116 : decode cX7_pies 116 = .ok (.iload 7, 2) := by decide +kernel
theorem dX7_pies_118 : decode cX7_pies 118 = .ok (.invokevirtual 155, 3) := by decide +kernel
theorem dX7_pies_121 : decode cX7_pies 121 = .ok (.aload_n 0, 1) := by decide +kernel
theorem dX7_pies_122 : decode cX7_pies 122 = .ok (.getfield 56, 3) := by decide +kernel
theorem dX7_pies_125 : decode cX7_pies 125 = .ok (.aload_n 0, 1) := by decide +kernel
theorem dX7_pies_126 : decode cX7_pies 126 = .ok (.getfield 49, 3) := by decide +kernel
theorem dX7_pies_129 : decode cX7_pies 129 = .ok (.invokevirtual 158, 3) := by decide +kernel
theorem dX7_pies_132 : decode cX7_pies 132 = .ok (.aload_n 0, 1) := by decide +kernel
theorem dX7_pies_133 : decode cX7_pies 133 = .ok (.getfield 56, 3) := by decide +kernel
theorem dX7_pies_136 : decode cX7_pies 136 = .ok (.aload_n 0, 1) := by decide +kernel
theorem dX7_pies_137 : decode cX7_pies 137 = .ok (.getfield 11, 3) := by decide +kernel
theorem dX7_pies_140 : decode cX7_pies 140 = .ok (.iload_n 1, 1) := by decide +kernel
theorem dX7_pies_141 : decode cX7_pies 141 = .ok (.aaload, 1) := by decide +kernel
theorem dX7_pies_142 : decode cX7_pies 142 = .ok (.invokevirtual 250, 3) := by decide +kernel
theorem dX7_pies_145 : decode cX7_pies 145 = .ok (.ifCond .eq 22, 3) := by decide +kernel
theorem dX7_pies_148 : decode cX7_pies 148 = .ok (.iload 4, 2) := by decide +kernel
theorem dX7_pies_150 : decode cX7_pies 150 = .ok (.iconst (-1), 1) := by decide +kernel
theorem dX7_pies_151 : decode cX7_pies 151 = .ok (.if_icmp .eq 13, 3) := by decide +kernel
theorem dX7_pies_154 : decode cX7_pies 154 = .ok (.aload_n 0, 1) := by decide +kernel
theorem dX7_pies_155 : decode cX7_pies 155 = .ok (.getfield 49, 3) := by decide +kernel
theorem dX7_pies_158 : decode cX7_pies 158 = .ok (.iload 4, 2) := by decide +kernel
theorem dX7_pies_160 : decode cX7_pies 160 = .ok (.invokevirtual 231, 3) := by decide +kernel
theorem dX7_pies_163 : decode cX7_pies 163 = .ok (.ireturn, 1) := by decide +kernel
theorem dX7_pies_164 : decode cX7_pies 164 = .ok (.iinc 6 1, 3) := by decide +kernel
theorem dX7_pies_167 : decode cX7_pies 167 = .ok (.iinc 7 1, 3) := by decide +kernel
theorem dX7_pies_170 : decode cX7_pies 170 = .ok (.goto (-68), 3) := by decide +kernel
theorem dX7_pies_173 : decode cX7_pies 173 = .ok (.iload 4, 2) := by decide +kernel
theorem dX7_pies_175 : decode cX7_pies 175 = .ok (.iconst (-1), 1) := by decide +kernel
theorem dX7_pies_176 : decode cX7_pies 176 = .ok (.if_icmp .ne 8, 3) := by decide +kernel
theorem dX7_pies_179 : decode cX7_pies 179 = .ok (.iload 6, 2) := by decide +kernel
theorem dX7_pies_181 : decode cX7_pies 181 = .ok (.goto 4, 3) := by decide +kernel
theorem dX7_pies_184 : decode cX7_pies 184 = .ok (.iconst (-1), 1) := by decide +kernel
theorem dX7_pies_185 : decode cX7_pies 185 = .ok (.ireturn, 1) := by decide +kernel
def B7_pies_19 (st : fkS) : Option (Int32 × fkS) :=
 fk_bind (F7_refuseFar (-1 : Int32) st) <| fun x14 st15 =>
 some (x14, st15)
set_option maxHeartbeats 1000000 in
set_option maxRecDepth 20000 in
theorem T7_pies_19 {g : fkG} {k : fkK} (hk : fk_ok wC g k RX7 cX7_pies 8 (some (.int)) 3 143) : ∀ (st : fkS), fk_J wC g fk_eI k 19 [(0, fk_r g 0)] [] st (B7_pies_19 st) := by
  intro st
  unfold B7_pies_19
  refine j_aload_n (pc := 19) hk 0 rfl ⟨_, rfl⟩ dX7_pies_19 ?_
  refine j_iconst (pc := 20) hk dX7_pies_20 (v := -1) (by decide) ?_
  refine j_callVi (pc := 21) hk [.int (-1 : Int32)] [] rfl (fun l o hq9 => C7_refuseFar (-1 : Int32) st l o hq9) (rcv_7 (rfl)) yv_X7_refuseFar ml_7_139 rfl (Nat.le_of_ble_eq_true rfl) (Nat.le_of_ble_eq_true rfl) (Nat.le_of_ble_eq_true rfl) dX7_pies_21 (fun x14 st15 => ?_)
  exact j_iret (pc := 24) hk dX7_pies_24
def B7_pies_53 (st : fkS) : Option (Int32 × fkS) :=
 fk_bind (F7_refuseFar (-6 : Int32) st) <| fun x9 st10 =>
 some (x9, st10)
set_option maxHeartbeats 1000000 in
set_option maxRecDepth 20000 in
theorem T7_pies_53 {g : fkG} {k : fkK} (hk : fk_ok wC g k RX7 cX7_pies 8 (some (.int)) 3 143) : ∀ (st : fkS), fk_J wC g fk_eI k 53 [(0, fk_r g 0)] [] st (B7_pies_53 st) := by
  intro st
  unfold B7_pies_53
  refine j_aload_n (pc := 53) hk 0 rfl ⟨_, rfl⟩ dX7_pies_53 ?_
  refine j_bipush (pc := 54) hk dX7_pies_54 (v := -6) (by decide) ?_
  refine j_callVi (pc := 56) hk [.int (-6 : Int32)] [] rfl (fun l o hq9 => C7_refuseFar (-6 : Int32) st l o hq9) (rcv_7 (rfl)) yv_X7_refuseFar ml_7_139 rfl (Nat.le_of_ble_eq_true rfl) (Nat.le_of_ble_eq_true rfl) (Nat.le_of_ble_eq_true rfl) dX7_pies_56 (fun x9 st10 => ?_)
  exact j_iret (pc := 59) hk dX7_pies_59
def B7_pies_77 (st : fkS) : Option (Int32 × fkS) :=
 fk_bind (F7_refuseFar (-5 : Int32) st) <| fun x12 st13 =>
 some (x12, st13)
set_option maxHeartbeats 1000000 in
set_option maxRecDepth 20000 in
theorem T7_pies_77 {g : fkG} {k : fkK} (hk : fk_ok wC g k RX7 cX7_pies 8 (some (.int)) 3 143) : ∀ (st : fkS), fk_J wC g fk_eI k 77 [(0, fk_r g 0)] [] st (B7_pies_77 st) := by
  intro st
  unfold B7_pies_77
  refine j_aload_n (pc := 77) hk 0 rfl ⟨_, rfl⟩ dX7_pies_77 ?_
  refine j_bipush (pc := 78) hk dX7_pies_78 (v := -5) (by decide) ?_
  refine j_callVi (pc := 80) hk [.int (-5 : Int32)] [] rfl (fun l o hq9 => C7_refuseFar (-5 : Int32) st l o hq9) (rcv_7 (rfl)) yv_X7_refuseFar ml_7_139 rfl (Nat.le_of_ble_eq_true rfl) (Nat.le_of_ble_eq_true rfl) (Nat.le_of_ble_eq_true rfl) dX7_pies_80 (fun x12 st13 => ?_)
  exact j_iret (pc := 83) hk dX7_pies_83
def B7_pies_167 (k102 : Int32 → Int32 → Int32 → Int32 → Int32 → fkS → Option (Int32 × fkS)) (v1 : Int32) (v3 : Int32) (v4 : Int32) (v6 : Int32) (v7 : Int32) (st : fkS) : Option (Int32 × fkS) :=
 k102 v1 v3 v4 v6 (v7 + (1 : Int32)) st
set_option maxHeartbeats 1000000 in
set_option maxRecDepth 20000 in
theorem T7_pies_167 {g : fkG} {k : fkK} (hk : fk_ok wC g k RX7 cX7_pies 8 (some (.int)) 3 143) (k102 : Int32 → Int32 → Int32 → Int32 → Int32 → fkS → Option (Int32 × fkS)) (H102 : ∀ (v1 : Int32) (v3 : Int32) (v4 : Int32) (v6 : Int32) (v7 : Int32) (st : fkS), fk_J wC g fk_eI k 102 [(0, fk_r g 0), (1, .int v1), (3, .int v3), (4, .int v4), (6, .int v6), (7, .int v7)] [] st (k102 v1 v3 v4 v6 v7 st)) : ∀ (v1 : Int32) (v3 : Int32) (v4 : Int32) (v6 : Int32) (v7 : Int32) (st : fkS), fk_J wC g fk_eI k 167 [(0, fk_r g 0), (1, .int v1), (3, .int v3), (4, .int v4), (6, .int v6), (7, .int v7)] [] st (B7_pies_167 k102 v1 v3 v4 v6 v7 st) := by
  intro v1 v3 v4 v6 v7 st
  unfold B7_pies_167
  refine j_iinc (dd := (1 : Int32)) (lv' := ((7, .int (v7 + (1 : Int32))) :: [(0, fk_r g 0), (1, .int v1), (3, .int v3), (4, .int v4), (6, .int v6)])) (pc := 167) hk 5 rfl (by decide) (by decide) rfl dX7_pies_167 ?_
  refine j_sub hk (lv' := [(0, fk_r g 0), (1, .int v1), (3, .int v3), (4, .int v4), (6, .int v6), (7, .int (v7 + (1 : Int32)))]) [1, 2, 3, 4, 5, 0] rfl ?_
  refine j_goto (tgt := 102) (pc := 170) hk (by decide) dX7_pies_170 ?_
  exact j_sub hk [0, 1, 2, 3, 4, 5] rfl (H102 v1 v3 v4 v6 (v7 + (1 : Int32)) st)
def B7_pies_102 (k102 : Int32 → Int32 → Int32 → Int32 → Int32 → fkS → Option (Int32 × fkS)) (v1 : Int32) (v3 : Int32) (v4 : Int32) (v6 : Int32) (v7 : Int32) (st : fkS) : Option (Int32 × fkS) :=
 fk_bind (F7_tenTo v3 st) <| fun x16 st17 =>
 if x16 ≤ v7 then
 (if v4 = (-1 : Int32) then
 (some (v6, st17))
 else
 (some ((-1 : Int32), st17)))
 else
 (fk_bind (F3_setByNumber v3 v7 st17) <| fun _ st18 =>
 fk_bind (F6_speak 40 st18) <| fun _ st19 =>
 fk_chk (fk_in v1 8) <|
 fk_bind (F6_saysJust 40 (3 + v1.toNatClampNeg) st19) <| fun x21 st22 =>
 if x21 = 0 then
 (B7_pies_167 k102 v1 v3 v4 v6 v7 st22)
 else
 (if v4 = (-1 : Int32) then
 (B7_pies_167 k102 v1 v3 v4 (v6 + (1 : Int32)) v7 st22)
 else
 (fk_bind (F3_layer v4 st22) <| fun x23 st24 =>
 some (x23, st24))))
set_option maxHeartbeats 1000000 in
set_option maxRecDepth 20000 in
theorem T7_pies_102 {g : fkG} {k : fkK} (hk : fk_ok wC g k RX7 cX7_pies 8 (some (.int)) 3 143) (k102 : Int32 → Int32 → Int32 → Int32 → Int32 → fkS → Option (Int32 × fkS)) (H102 : ∀ (v1 : Int32) (v3 : Int32) (v4 : Int32) (v6 : Int32) (v7 : Int32) (st : fkS), fk_J wC g fk_eI k 102 [(0, fk_r g 0), (1, .int v1), (3, .int v3), (4, .int v4), (6, .int v6), (7, .int v7)] [] st (k102 v1 v3 v4 v6 v7 st)) : ∀ (v1 : Int32) (v3 : Int32) (v4 : Int32) (v6 : Int32) (v7 : Int32) (st : fkS), fk_J wC g fk_eI k 102 [(0, fk_r g 0), (1, .int v1), (3, .int v3), (4, .int v4), (6, .int v6), (7, .int v7)] [] st (B7_pies_102 k102 v1 v3 v4 v6 v7 st) := by
  intro v1 v3 v4 v6 v7 st
  unfold B7_pies_102
  refine j_iload (pc := 102) hk 5 rfl dX7_pies_102 ?_
  refine j_iload_n (pc := 104) hk 2 rfl dX7_pies_104 ?_
  refine j_callSi (pc := 105) hk [.int v3] [.int v7] rfl (fun l o hq9 => C7_tenTo v3 st l o hq9) yv_X7_tenTo ml_7_247 rfl (Nat.le_of_ble_eq_true rfl) (Nat.le_of_ble_eq_true rfl) (Nat.le_of_ble_eq_true rfl) dX7_pies_105 (fun x16 st17 => ?_)
  refine j_icmp_ge (tgt := 173) (pc := 108) hk (by decide) dX7_pies_108 (fun _ => ?_) (fun _ => ?_)
  · refine j_iload (pc := 173) hk 3 rfl dX7_pies_173 ?_
    refine j_iconst (pc := 175) hk dX7_pies_175 (v := -1) (by decide) ?_
    refine j_icmp_ne (tgt := 184) (pc := 176) hk (by decide) dX7_pies_176 (fun _ => ?_) (fun _ => ?_)
    · refine j_iload (pc := 179) hk 4 rfl dX7_pies_179 ?_
      refine j_goto (tgt := 185) (pc := 181) hk (by decide) dX7_pies_181 ?_
      exact j_iret (pc := 185) hk dX7_pies_185
    · refine j_iconst (pc := 184) hk dX7_pies_184 (v := -1) (by decide) ?_
      exact j_iret (pc := 185) hk dX7_pies_185
  · refine j_aload_n (pc := 111) hk 0 rfl ⟨_, rfl⟩ dX7_pies_111 ?_
    refine f_7_49 (pc := 112) hk (rfl) dX7_pies_112 ?_
    refine j_iload_n (pc := 115) hk 2 rfl dX7_pies_115 ?_
    refine j_iload (pc := 116) hk 5 rfl dX7_pies_116 ?_
    refine j_callVNv (pc := 118) hk [.int v3, .int v7] [] rfl (fun l o hq9 => C3_setByNumber v3 v7 st17 l o hq9) (rcv_3 (rfl)) yv_X3_setByNumber ml_7_155 rfl (Nat.le_of_ble_eq_true rfl) (Nat.le_of_ble_eq_true rfl) (Nat.le_of_ble_eq_true rfl) dX7_pies_118 (fun _ st18 => ?_)
    refine j_aload_n (pc := 121) hk 0 rfl ⟨_, rfl⟩ dX7_pies_121 ?_
    refine f_7_56 (pc := 122) hk (rfl) dX7_pies_122 ?_
    refine j_aload_n (pc := 125) hk 0 rfl ⟨_, rfl⟩ dX7_pies_125 ?_
    refine f_7_49 (pc := 126) hk (rfl) dX7_pies_126 ?_
    refine j_callVNv (pc := 129) hk [fk_r g 38] [] rfl (fun l o hq9 => C6_speak 40 (rfl) st18 l o hq9) (rcv_6 (rfl)) yv_X6_speak ml_7_158 rfl (Nat.le_of_ble_eq_true rfl) (Nat.le_of_ble_eq_true rfl) (Nat.le_of_ble_eq_true rfl) dX7_pies_129 (fun _ st19 => ?_)
    refine j_aload_n (pc := 132) hk 0 rfl ⟨_, rfl⟩ dX7_pies_132 ?_
    refine f_7_56 (pc := 133) hk (rfl) dX7_pies_133 ?_
    refine j_aload_n (pc := 136) hk 0 rfl ⟨_, rfl⟩ dX7_pies_136 ?_
    refine f_7_11 (pc := 137) hk (rfl) dX7_pies_137 ?_
    refine j_iload_n (pc := 140) hk 1 rfl dX7_pies_140 ?_
    refine a_shelf (pc := 141) hk dX7_pies_141 (fun hs20 => ?_)
    refine j_callVNi (pc := 142) hk [fk_r g (3 + v1.toNatClampNeg)] [] rfl (fun l o hq9 => C6_saysJust 40 (3 + v1.toNatClampNeg) (rfl) (hs20) st19 l o hq9) (rcv_6 (rfl)) yv_X6_saysJust ml_7_250 rfl (Nat.le_of_ble_eq_true rfl) (Nat.le_of_ble_eq_true rfl) (Nat.le_of_ble_eq_true rfl) dX7_pies_142 (fun x21 st22 => ?_)
    refine j_if_eq (tgt := 167) (pc := 145) hk (by decide) dX7_pies_145 (fun _ => ?_) (fun _ => ?_)
    · exact j_sub hk [0, 1, 2, 3, 4, 5] rfl (T7_pies_167 hk k102 H102 v1 v3 v4 v6 v7 st22)
    · refine j_iload (pc := 148) hk 3 rfl dX7_pies_148 ?_
      refine j_iconst (pc := 150) hk dX7_pies_150 (v := -1) (by decide) ?_
      refine j_icmp_eq (tgt := 164) (pc := 151) hk (by decide) dX7_pies_151 (fun _ => ?_) (fun _ => ?_)
      · refine j_iinc (dd := (1 : Int32)) (lv' := ((6, .int (v6 + (1 : Int32))) :: [(0, fk_r g 0), (1, .int v1), (3, .int v3), (4, .int v4), (7, .int v7)])) (pc := 164) hk 4 rfl (by decide) (by decide) rfl dX7_pies_164 ?_
        refine j_sub hk (lv' := [(0, fk_r g 0), (1, .int v1), (3, .int v3), (4, .int v4), (6, .int (v6 + (1 : Int32))), (7, .int v7)]) [1, 2, 3, 4, 0, 5] rfl ?_
        exact j_sub hk [0, 1, 2, 3, 4, 5] rfl (T7_pies_167 hk k102 H102 v1 v3 v4 (v6 + (1 : Int32)) v7 st22)
      · refine j_aload_n (pc := 154) hk 0 rfl ⟨_, rfl⟩ dX7_pies_154 ?_
        refine f_7_49 (pc := 155) hk (rfl) dX7_pies_155 ?_
        refine j_iload (pc := 158) hk 3 rfl dX7_pies_158 ?_
        refine j_callVNi (pc := 160) hk [.int v4] [] rfl (fun l o hq9 => C3_layer v4 st22 l o hq9) (rcv_3 (rfl)) yv_X3_layer ml_7_231 rfl (Nat.le_of_ble_eq_true rfl) (Nat.le_of_ble_eq_true rfl) (Nat.le_of_ble_eq_true rfl) dX7_pies_160 (fun x23 st24 => ?_)
        exact j_iret (pc := 163) hk dX7_pies_163
set_option maxHeartbeats 1000000 in
set_option maxRecDepth 20000 in
theorem L7_pies_102 {g : fkG} {k : fkK} (hk : fk_ok wC g k RX7 cX7_pies 8 (some (.int)) 3 143) (fu : Nat) : ∀ (v1 : Int32) (v3 : Int32) (v4 : Int32) (v6 : Int32) (v7 : Int32) (st : fkS), fk_J wC g fk_eI k 102 [(0, fk_r g 0), (1, .int v1), (3, .int v3), (4, .int v4), (6, .int v6), (7, .int v7)] [] st (fk_lp5 (B7_pies_102) fu v1 v3 v4 v6 v7 st) := by
  induction fu with
  | zero =>
    intro v1 v3 v4 v6 v7 st
    exact j_none hk
  | succ fu ih =>
    exact T7_pies_102 hk _ ih
def B7_pies_84 (v1 : Int32) (v2 : Int32) (v3 : Int32) (v4 : Int32) (st : fkS) : Option (Int32 × fkS) :=
 fk_bind (F6_take 40 19 v2 st) <| fun _ st11 =>
 fk_lp5 (B7_pies_102) fk_fuel v1 v3 v4 (0 : Int32) (0 : Int32) st11
set_option maxHeartbeats 1000000 in
set_option maxRecDepth 20000 in
theorem T7_pies_84 {g : fkG} {k : fkK} (hk : fk_ok wC g k RX7 cX7_pies 8 (some (.int)) 3 143) : ∀ (v1 : Int32) (v2 : Int32) (v3 : Int32) (v4 : Int32) (st : fkS), fk_J wC g fk_eI k 84 [(0, fk_r g 0), (1, .int v1), (2, .int v2), (3, .int v3), (4, .int v4)] [] st (B7_pies_84 v1 v2 v3 v4 st) := by
  intro v1 v2 v3 v4 st
  unfold B7_pies_84
  refine j_aload_n (pc := 84) hk 0 rfl ⟨_, rfl⟩ dX7_pies_84 ?_
  refine f_7_56 (pc := 85) hk (rfl) dX7_pies_85 ?_
  refine j_aload_n (pc := 88) hk 0 rfl ⟨_, rfl⟩ dX7_pies_88 ?_
  refine f_7_18 (pc := 89) hk (rfl) dX7_pies_89 ?_
  refine j_iload_n (pc := 92) hk 2 rfl dX7_pies_92 ?_
  refine j_callVNv (pc := 93) hk [fk_r g 19, .int v2] [] rfl (fun l o hq9 => C6_take 40 19 (rfl) (rfl) v2 st l o hq9) (rcv_6 (rfl)) yv_X6_take ml_7_148 rfl (Nat.le_of_ble_eq_true rfl) (Nat.le_of_ble_eq_true rfl) (Nat.le_of_ble_eq_true rfl) dX7_pies_93 (fun _ st11 => ?_)
  refine j_iconst (pc := 96) hk dX7_pies_96 (v := 0) (by decide) ?_
  refine j_istore (lv' := ((6, .int (0 : Int32)) :: [(0, fk_r g 0), (1, .int v1), (2, .int v2), (3, .int v3), (4, .int v4)])) (pc := 97) hk (by decide) rfl dX7_pies_97 ?_
  refine j_sub hk (lv' := [(0, fk_r g 0), (1, .int v1), (2, .int v2), (3, .int v3), (4, .int v4), (6, .int (0 : Int32))]) [1, 2, 3, 4, 5, 0] rfl ?_
  refine j_iconst (pc := 99) hk dX7_pies_99 (v := 0) (by decide) ?_
  refine j_istore (lv' := ((7, .int (0 : Int32)) :: [(0, fk_r g 0), (1, .int v1), (2, .int v2), (3, .int v3), (4, .int v4), (6, .int (0 : Int32))])) (pc := 100) hk (by decide) rfl dX7_pies_100 ?_
  refine j_sub hk (lv' := [(0, fk_r g 0), (1, .int v1), (2, .int v2), (3, .int v3), (4, .int v4), (6, .int (0 : Int32)), (7, .int (0 : Int32))]) [1, 2, 3, 4, 5, 6, 0] rfl ?_
  exact j_sub hk [0, 1, 3, 4, 5, 6] rfl (L7_pies_102 hk fk_fuel v1 v3 v4 (0 : Int32) (0 : Int32) st11)
def F7_pies (p1 : Int32) (p2 : Int32) (p3 : Int32) (p4 : Int32) (st : fkS) : Option (Int32 × fkS) :=
 fk_bind (F7_noShelf p1 st) <| fun x1 st2 =>
 if x1 = 0 then
 (fk_bind (F0_lacks 19 p2 st2) <| fun x3 st4 =>
 if x3 = 0 then
 (fk_bind (F7_noRow p1 st4) <| fun x5 st6 =>
 if x5 = 0 then
 (if p3 < 0 then
 (B7_pies_53 st6)
 else
 (if p3 ≤ (3 : Int32) then
 (if p4 = (-1 : Int32) then
 (B7_pies_84 p1 p2 p3 p4 st6)
 else
 (if p4 < 0 then
 (B7_pies_77 st6)
 else
 (if p4 < p3 then
 (B7_pies_84 p1 p2 p3 p4 st6)
 else
 (B7_pies_77 st6))))
 else
 (B7_pies_53 st6)))
 else
 (fk_bind (F7_refuseFar x5 st6) <| fun x7 st8 =>
 some (x7, st8)))
 else
 (B7_pies_19 st4))
 else
 (B7_pies_19 st2)
set_option maxHeartbeats 1000000 in
set_option maxRecDepth 20000 in
theorem C7_pies (p1 : Int32) (p2 : Int32) (p3 : Int32) (p4 : Int32) (st : fkS) {g : fkG} (l : Launch) (o : Int32 × fkS) (hF : F7_pies p1 p2 p3 p4 st = some o) : fk_C wC yX7_pies cX7_pies 8 (some (.int)) 3 143 l g [fk_r g 0, .int p1, .int p2, .int p3, .int p4] st (fk_eI o.1) o.2 := by
  refine fk_begin rfl (Nat.le_of_ble_eq_true rfl) (fun k hk => ?_) o hF
  have hk : fk_ok wC g k RX7 cX7_pies 8 (some (.int)) 3 143 := hk
  show fk_J wC g fk_eI k 0 [(0, fk_r g 0), (1, .int p1), (2, .int p2), (3, .int p3), (4, .int p4)] [] st (F7_pies p1 p2 p3 p4 st)
  unfold F7_pies
  refine j_aload_n (pc := 0) hk 0 rfl ⟨_, rfl⟩ dX7_pies_0 ?_
  refine j_iload_n (pc := 1) hk 1 rfl dX7_pies_1 ?_
  refine j_callVi (pc := 2) hk [.int p1] [] rfl (fun l o hq9 => C7_noShelf p1 st l o hq9) (rcv_7 (rfl)) yv_X7_noShelf ml_7_75 rfl (Nat.le_of_ble_eq_true rfl) (Nat.le_of_ble_eq_true rfl) (Nat.le_of_ble_eq_true rfl) dX7_pies_2 (fun x1 st2 => ?_)
  refine j_if_ne (tgt := 19) (pc := 5) hk (by decide) dX7_pies_5 (fun _ => ?_) (fun _ => ?_)
  · refine j_aload_n (pc := 8) hk 0 rfl ⟨_, rfl⟩ dX7_pies_8 ?_
    refine f_7_18 (pc := 9) hk (rfl) dX7_pies_9 ?_
    refine j_iload_n (pc := 12) hk 2 rfl dX7_pies_12 ?_
    refine j_callVNi (pc := 13) hk [.int p2] [] rfl (fun l o hq9 => C0_lacks 19 (rfl) p2 st2 l o hq9) (rcv_0 (rfl)) yv_X0_lacks ml_7_126 rfl (Nat.le_of_ble_eq_true rfl) (Nat.le_of_ble_eq_true rfl) (Nat.le_of_ble_eq_true rfl) dX7_pies_13 (fun x3 st4 => ?_)
    refine j_if_eq (tgt := 25) (pc := 16) hk (by decide) dX7_pies_16 (fun _ => ?_) (fun _ => ?_)
    · refine j_aload_n (pc := 25) hk 0 rfl ⟨_, rfl⟩ dX7_pies_25 ?_
      refine j_iload_n (pc := 26) hk 1 rfl dX7_pies_26 ?_
      refine j_callVi (pc := 27) hk [.int p1] [] rfl (fun l o hq9 => C7_noRow p1 st4 l o hq9) (rcv_7 (rfl)) yv_X7_noRow ml_7_87 rfl (Nat.le_of_ble_eq_true rfl) (Nat.le_of_ble_eq_true rfl) (Nat.le_of_ble_eq_true rfl) dX7_pies_27 (fun x5 st6 => ?_)
      refine j_istore (lv' := ((5, .int x5) :: [(0, fk_r g 0), (1, .int p1), (2, .int p2), (3, .int p3), (4, .int p4)])) (pc := 30) hk (by decide) rfl dX7_pies_30 ?_
      refine j_sub hk (lv' := [(0, fk_r g 0), (1, .int p1), (2, .int p2), (3, .int p3), (4, .int p4), (5, .int x5)]) [1, 2, 3, 4, 5, 0] rfl ?_
      refine j_iload (pc := 32) hk 5 rfl dX7_pies_32 ?_
      refine j_if_eq (tgt := 44) (pc := 34) hk (by decide) dX7_pies_34 (fun _ => ?_) (fun _ => ?_)
      · refine j_iload_n (pc := 44) hk 3 rfl dX7_pies_44 ?_
        refine j_if_lt (tgt := 53) (pc := 45) hk (by decide) dX7_pies_45 (fun _ => ?_) (fun _ => ?_)
        · exact j_sub hk [0] rfl (T7_pies_53 hk st6)
        · refine j_iload_n (pc := 48) hk 3 rfl dX7_pies_48 ?_
          refine j_iconst (pc := 49) hk dX7_pies_49 (v := 3) (by decide) ?_
          refine j_icmp_le (tgt := 60) (pc := 50) hk (by decide) dX7_pies_50 (fun _ => ?_) (fun _ => ?_)
          · refine j_iload (pc := 60) hk 4 rfl dX7_pies_60 ?_
            refine j_iconst (pc := 62) hk dX7_pies_62 (v := -1) (by decide) ?_
            refine j_icmp_eq (tgt := 84) (pc := 63) hk (by decide) dX7_pies_63 (fun _ => ?_) (fun _ => ?_)
            · exact j_sub hk [0, 1, 2, 3, 4] rfl (T7_pies_84 hk p1 p2 p3 p4 st6)
            · refine j_iload (pc := 66) hk 4 rfl dX7_pies_66 ?_
              refine j_if_lt (tgt := 77) (pc := 68) hk (by decide) dX7_pies_68 (fun _ => ?_) (fun _ => ?_)
              · exact j_sub hk [0] rfl (T7_pies_77 hk st6)
              · refine j_iload (pc := 71) hk 4 rfl dX7_pies_71 ?_
                refine j_iload_n (pc := 73) hk 3 rfl dX7_pies_73 ?_
                refine j_icmp_lt (tgt := 84) (pc := 74) hk (by decide) dX7_pies_74 (fun _ => ?_) (fun _ => ?_)
                · exact j_sub hk [0, 1, 2, 3, 4] rfl (T7_pies_84 hk p1 p2 p3 p4 st6)
                · exact j_sub hk [0] rfl (T7_pies_77 hk st6)
          · exact j_sub hk [0] rfl (T7_pies_53 hk st6)
      · refine j_aload_n (pc := 37) hk 0 rfl ⟨_, rfl⟩ dX7_pies_37 ?_
        refine j_iload (pc := 38) hk 5 rfl dX7_pies_38 ?_
        refine j_callVi (pc := 40) hk [.int x5] [] rfl (fun l o hq9 => C7_refuseFar x5 st6 l o hq9) (rcv_7 (rfl)) yv_X7_refuseFar ml_7_139 rfl (Nat.le_of_ble_eq_true rfl) (Nat.le_of_ble_eq_true rfl) (Nat.le_of_ble_eq_true rfl) dX7_pies_40 (fun x7 st8 => ?_)
        exact j_iret (pc := 43) hk dX7_pies_43
    · exact j_sub hk [0] rfl (T7_pies_19 hk st4)
  · exact j_sub hk [0] rfl (T7_pies_19 hk st2)
theorem dX7_mostLeft_0 : decode cX7_mostLeft 0 = .ok (.aload_n 0, 1) := by decide +kernel
theorem dX7_mostLeft_1 : decode cX7_mostLeft 1 = .ok (.getfield 56, 3) := by decide +kernel
theorem dX7_mostLeft_4 : decode cX7_mostLeft 4 = .ok (.aload_n 0, 1) := by decide +kernel
theorem dX7_mostLeft_5 : decode cX7_mostLeft 5 = .ok (.getfield 18, 3) := by decide +kernel
theorem dX7_mostLeft_8 : decode cX7_mostLeft 8 = .ok (.iload_n 1, 1) := by decide +kernel
theorem dX7_mostLeft_9 : decode cX7_mostLeft 9 = .ok (.invokevirtual 148, 3) := by decide +kernel
theorem dX7_mostLeft_12 : decode cX7_mostLeft 12 = .ok (.aload_n 0, 1) := by decide +kernel
theorem dX7_mostLeft_13 : decode cX7_mostLeft 13 = .ok (.getfield 60, 3) := by decide +kernel
theorem dX7_mostLeft_16 : decode cX7_mostLeft 16 = .ok (.aload_n 0, 1) := by decide +kernel
theorem dX7_mostLeft_17 : decode cX7_mostLeft 17 = .ok (.getfield 18, 3) := by decide +kernel
theorem dX7_mostLeft_20 : decode cX7_mostLeft 20 = .ok (.iload_n 1, 1) := by decide +kernel
theorem dX7_mostLeft_21 : decode cX7_mostLeft 21 = .ok (.invokevirtual 148, 3) := by decide +kernel
theorem dX7_mostLeft_24 : decode cX7_mostLeft 24 = .ok (.iconst 0, 1) := by decide +kernel
theorem dX7_mostLeft_25 : decode cX7_mostLeft 25 = .ok (.istore_n 2, 1) := by decide +kernel
theorem dX7_mostLeft_26 : decode cX7_mostLeft 26 = .ok (.iconst 0, 1) := by decide +kernel
theorem dX7_mostLeft_27 : decode cX7_mostLeft 27 = .ok (.istore_n 3, 1) := by decide +kernel
theorem dX7_mostLeft_28 : decode cX7_mostLeft 28 = .ok (.iload_n 3, 1) := by decide +kernel
theorem dX7_mostLeft_29 : decode cX7_mostLeft 29 = .ok (.bipush 7, 2) := by decide +kernel
theorem dX7_mostLeft_31 : decode cX7_mostLeft 31 = .ok (.if_icmp .ge 98, 3) := by decide +kernel
theorem dX7_mostLeft_34 : decode cX7_mostLeft 34 = .ok (.aload_n 0, 1) := by decide +kernel
theorem dX7_mostLeft_35 : decode cX7_mostLeft 35 = .ok (.getfield 56, 3) := by decide +kernel
theorem dX7_mostLeft_38 : decode cX7_mostLeft 38 = .ok (.iload_n 3, 1) := by decide +kernel
theorem dX7_mostLeft_39 : decode cX7_mostLeft 39 = .ok (.putfield 337, 3) := by decide +kernel
theorem dX7_mostLeft_42 : decode cX7_mostLeft 42 = .ok (.aload_n 0, 1) := by decide +kernel
theorem dX7_mostLeft_43 : decode cX7_mostLeft 43 = .ok (.getfield 56, 3) := by decide +kernel
theorem dX7_mostLeft_46 : decode cX7_mostLeft 46 = .ok (.aload_n 0, 1) := by decide +kernel
theorem dX7_mostLeft_47 : decode cX7_mostLeft 47 = .ok (.getfield 49, 3) := by decide +kernel
theorem dX7_mostLeft_50 : decode cX7_mostLeft 50 = .ok (.invokevirtual 158, 3) := by decide +kernel
theorem dX7_mostLeft_53 : decode cX7_mostLeft 53 = .ok (.iconst 0, 1) := by decide +kernel
theorem dX7_mostLeft_54 : decode cX7_mostLeft 54 = .ok (.istore 4, 2) := by decide +kernel
theorem dX7_mostLeft_56 : decode cX7_mostLeft 56 = .ok (.iconst 0, 1) := by decide +kernel
theorem dX7_mostLeft_57 : decode cX7_mostLeft 57 = .ok (.istore 5, 2) := by decide +kernel
theorem dX7_mostLeft_59 : decode cX7_mostLeft 59 = .ok (.iload 5, 2) := by decide +kernel
theorem dX7_mostLeft_61 : decode cX7_mostLeft 61 = .ok (.bipush 7, 2) := by decide +kernel
theorem dX7_mostLeft_63 : decode cX7_mostLeft 63 = .ok (.if_icmp .ge 53, 3) := by decide +kernel
theorem dX7_mostLeft_66 : decode cX7_mostLeft 66 = .ok (.aload_n 0, 1) := by decide +kernel
theorem dX7_mostLeft_67 : decode cX7_mostLeft 67 = .ok (.getfield 60, 3) := by decide +kernel
theorem dX7_mostLeft_70 : decode cX7_mostLeft 70 = .ok (.iload 5, 2) := by decide +kernel
theorem dX7_mostLeft_72 : decode cX7_mostLeft 72 = .ok (.putfield 337, 3) := by decide +kernel
theorem dX7_mostLeft_75 : decode cX7_mostLeft 75 = .ok (.aload_n 0, 1) := by decide +kernel
theorem dX7_mostLeft_76 : decode cX7_mostLeft 76 = .ok (.getfield 60, 3) := by decide +kernel
theorem dX7_mostLeft_79 : decode cX7_mostLeft 79 = .ok (.aload_n 0, 1) := by decide +kernel
theorem dX7_mostLeft_80 : decode cX7_mostLeft 80 = .ok (.getfield 49, 3) := by decide +kernel
theorem dX7_mostLeft_83 : decode cX7_mostLeft 83 = .ok (.invokevirtual 158, 3) := by decide +kernel
theorem dX7_mostLeft_86 : decode cX7_mostLeft 86 = .ok (.iload 4, 2) := by decide +kernel
theorem dX7_mostLeft_88 : decode cX7_mostLeft 88 = .ok (.aload_n 0, 1) := by decide +kernel
theorem dX7_mostLeft_89 : decode cX7_mostLeft 89 = .ok (.getfield 56, 3) := by decide +kernel
theorem dX7_mostLeft_92 : decode cX7_mostLeft 92 = .ok (.aload_n 0, 1) := by decide +kernel
theorem dX7_mostLeft_93 : decode cX7_mostLeft 93 = .ok (.getfield 60, 3) := by decide +kernel
theorem dX7_mostLeft_96 : decode cX7_mostLeft 96 = .ok (.invokevirtual 292, 3) := by decide +kernel
theorem dX7_mostLeft_99 : decode cX7_mostLeft 99 = .ok (.ifCond .eq 7, 3) := by decide +kernel
theorem dX7_mostLeft_102 : decode cX7_mostLeft 102 = .ok (.iconst 1, 1) := by decide +kernel
theorem dX7_mostLeft_103 : decode cX7_mostLeft 103 = .ok (.goto 4, 3) := by decide +kernel
theorem dX7_mostLeft_106 : decode cX7_mostLeft 106 = .ok (.iconst 0, 1) := by decide +kernel
theorem dX7_mostLeft_107 : decode cX7_mostLeft 107 = .ok (.iadd, 1) := by decide +kernel
theorem dX7_mostLeft_108 : decode cX7_mostLeft 108 = .ok (.istore 4, 2) := by decide +kernel
theorem dX7_mostLeft_110 : decode cX7_mostLeft 110 = .ok (.iinc 5 1, 3) := by decide +kernel
theorem dX7_mostLeft_113 : decode cX7_mostLeft 113 = .ok (.goto (-54), 3) := by decide +kernel
theorem dX7_mostLeft_116 : decode cX7_mostLeft 116 = .ok (.iload_n 2, 1) := by decide +kernel
theorem dX7_mostLeft_117 : decode cX7_mostLeft 117 = .ok (.iload 4, 2) := by decide +kernel
theorem dX7_mostLeft_119 : decode cX7_mostLeft 119 = .ok (.invokestatic 261, 3) := by decide +kernel
theorem dX7_mostLeft_122 : decode cX7_mostLeft 122 = .ok (.istore_n 2, 1) := by decide +kernel
theorem dX7_mostLeft_123 : decode cX7_mostLeft 123 = .ok (.iinc 3 1, 3) := by decide +kernel
theorem dX7_mostLeft_126 : decode cX7_mostLeft 126 = .ok (.goto (-98), 3) := by decide +kernel
theorem dX7_mostLeft_129 : decode cX7_mostLeft 129 = .ok (.iload_n 2, 1) := by decide +kernel
theorem dX7_mostLeft_130 : decode cX7_mostLeft 130 = .ok (.ireturn, 1) := by decide +kernel
def B7_mostLeft_107 (k28 : Int32 → Int32 → fkS → Option (Int32 × fkS)) (k59 : Int32 → Int32 → Int32 → Int32 → fkS → Option (Int32 × fkS)) (v2 : Int32) (v3 : Int32) (v5 : Int32) (s0 : Int32) (s1 : Int32) (st : fkS) : Option (Int32 × fkS) :=
 k59 v2 v3 (s0 + s1) (v5 + (1 : Int32)) st
set_option maxHeartbeats 1000000 in
set_option maxRecDepth 20000 in
theorem T7_mostLeft_107 {g : fkG} {k : fkK} (hk : fk_ok wC g k RX7 cX7_mostLeft 6 (some (.int)) 3 143) (k28 : Int32 → Int32 → fkS → Option (Int32 × fkS)) (H28 : ∀ (v2 : Int32) (v3 : Int32) (st : fkS), fk_J wC g fk_eI k 28 [(0, fk_r g 0), (2, .int v2), (3, .int v3)] [] st (k28 v2 v3 st)) (k59 : Int32 → Int32 → Int32 → Int32 → fkS → Option (Int32 × fkS)) (H59 : ∀ (v2 : Int32) (v3 : Int32) (v4 : Int32) (v5 : Int32) (st : fkS), fk_J wC g fk_eI k 59 [(0, fk_r g 0), (2, .int v2), (3, .int v3), (4, .int v4), (5, .int v5)] [] st (k59 v2 v3 v4 v5 st)) : ∀ (v2 : Int32) (v3 : Int32) (v5 : Int32) (s0 : Int32) (s1 : Int32) (st : fkS), fk_J wC g fk_eI k 107 [(0, fk_r g 0), (2, .int v2), (3, .int v3), (5, .int v5)] [.int s1, .int s0] st (B7_mostLeft_107 k28 k59 v2 v3 v5 s0 s1 st) := by
  intro v2 v3 v5 s0 s1 st
  unfold B7_mostLeft_107
  refine j_iadd (pc := 107) hk dX7_mostLeft_107 ?_
  refine j_istore (lv' := ((4, .int (s0 + s1)) :: [(0, fk_r g 0), (2, .int v2), (3, .int v3), (5, .int v5)])) (pc := 108) hk (by decide) rfl dX7_mostLeft_108 ?_
  refine j_sub hk (lv' := [(0, fk_r g 0), (2, .int v2), (3, .int v3), (4, .int (s0 + s1)), (5, .int v5)]) [1, 2, 3, 0, 4] rfl ?_
  refine j_iinc (dd := (1 : Int32)) (lv' := ((5, .int (v5 + (1 : Int32))) :: [(0, fk_r g 0), (2, .int v2), (3, .int v3), (4, .int (s0 + s1))])) (pc := 110) hk 4 rfl (by decide) (by decide) rfl dX7_mostLeft_110 ?_
  refine j_sub hk (lv' := [(0, fk_r g 0), (2, .int v2), (3, .int v3), (4, .int (s0 + s1)), (5, .int (v5 + (1 : Int32)))]) [1, 2, 3, 4, 0] rfl ?_
  refine j_goto (tgt := 59) (pc := 113) hk (by decide) dX7_mostLeft_113 ?_
  exact j_sub hk [0, 1, 2, 3, 4] rfl (H59 v2 v3 (s0 + s1) (v5 + (1 : Int32)) st)
def B7_mostLeft_59 (k28 : Int32 → Int32 → fkS → Option (Int32 × fkS)) (k59 : Int32 → Int32 → Int32 → Int32 → fkS → Option (Int32 × fkS)) (v2 : Int32) (v3 : Int32) (v4 : Int32) (v5 : Int32) (st : fkS) : Option (Int32 × fkS) :=
 if (7 : Int32) ≤ v5 then
 (k28 (fk_max v2 v4) (v3 + (1 : Int32)) st)
 else
 (fk_let (sI st 120 41 v5) <| fun st5 =>
 fk_bind (F6_speak 41 st5) <| fun _ st6 =>
 fk_bind (F6_saysSame 40 41 st6) <| fun x7 st8 =>
 if x7 = 0 then
 (B7_mostLeft_107 k28 k59 v2 v3 v5 v4 (0 : Int32) st8)
 else
 (B7_mostLeft_107 k28 k59 v2 v3 v5 v4 (1 : Int32) st8))
set_option maxHeartbeats 1000000 in
set_option maxRecDepth 20000 in
theorem T7_mostLeft_59 {g : fkG} {k : fkK} (hk : fk_ok wC g k RX7 cX7_mostLeft 6 (some (.int)) 3 143) (k28 : Int32 → Int32 → fkS → Option (Int32 × fkS)) (H28 : ∀ (v2 : Int32) (v3 : Int32) (st : fkS), fk_J wC g fk_eI k 28 [(0, fk_r g 0), (2, .int v2), (3, .int v3)] [] st (k28 v2 v3 st)) (k59 : Int32 → Int32 → Int32 → Int32 → fkS → Option (Int32 × fkS)) (H59 : ∀ (v2 : Int32) (v3 : Int32) (v4 : Int32) (v5 : Int32) (st : fkS), fk_J wC g fk_eI k 59 [(0, fk_r g 0), (2, .int v2), (3, .int v3), (4, .int v4), (5, .int v5)] [] st (k59 v2 v3 v4 v5 st)) : ∀ (v2 : Int32) (v3 : Int32) (v4 : Int32) (v5 : Int32) (st : fkS), fk_J wC g fk_eI k 59 [(0, fk_r g 0), (2, .int v2), (3, .int v3), (4, .int v4), (5, .int v5)] [] st (B7_mostLeft_59 k28 k59 v2 v3 v4 v5 st) := by
  intro v2 v3 v4 v5 st
  unfold B7_mostLeft_59
  refine j_iload (pc := 59) hk 4 rfl dX7_mostLeft_59 ?_
  refine j_bipush (pc := 61) hk dX7_mostLeft_61 (v := 7) (by decide) ?_
  refine j_icmp_ge (tgt := 116) (pc := 63) hk (by decide) dX7_mostLeft_63 (fun _ => ?_) (fun _ => ?_)
  · refine j_iload_n (pc := 116) hk 1 rfl dX7_mostLeft_116 ?_
    refine j_iload (pc := 117) hk 3 rfl dX7_mostLeft_117 ?_
    refine j_mmax (pc := 119) hk ml_7_261 wd_max1 wd_math wd_max2 (Nat.le_of_ble_eq_true rfl) (Nat.le_of_ble_eq_true rfl) dX7_mostLeft_119 ?_
    refine j_istore_n (lv' := ((2, .int (fk_max v2 v4)) :: [(0, fk_r g 0), (3, .int v3), (4, .int v4), (5, .int v5)])) (pc := 122) hk rfl (by decide) rfl dX7_mostLeft_122 ?_
    refine j_sub hk (lv' := [(0, fk_r g 0), (2, .int (fk_max v2 v4)), (3, .int v3), (4, .int v4), (5, .int v5)]) [1, 0, 2, 3, 4] rfl ?_
    refine j_iinc (dd := (1 : Int32)) (lv' := ((3, .int (v3 + (1 : Int32))) :: [(0, fk_r g 0), (2, .int (fk_max v2 v4)), (4, .int v4), (5, .int v5)])) (pc := 123) hk 2 rfl (by decide) (by decide) rfl dX7_mostLeft_123 ?_
    refine j_sub hk (lv' := [(0, fk_r g 0), (2, .int (fk_max v2 v4)), (3, .int (v3 + (1 : Int32))), (4, .int v4), (5, .int v5)]) [1, 2, 0, 3, 4] rfl ?_
    refine j_goto (tgt := 28) (pc := 126) hk (by decide) dX7_mostLeft_126 ?_
    exact j_sub hk [0, 1, 2] rfl (H28 (fk_max v2 v4) (v3 + (1 : Int32)) st)
  · refine j_aload_n (pc := 66) hk 0 rfl ⟨_, rfl⟩ dX7_mostLeft_66 ?_
    refine f_7_60 (pc := 67) hk (rfl) dX7_mostLeft_67 ?_
    refine j_iload (pc := 70) hk 4 rfl dX7_mostLeft_70 ?_
    refine p_7_337 (pc := 72) hk (rfl) dX7_mostLeft_72 (fun st5 => ?_)
    refine j_aload_n (pc := 75) hk 0 rfl ⟨_, rfl⟩ dX7_mostLeft_75 ?_
    refine f_7_60 (pc := 76) hk (rfl) dX7_mostLeft_76 ?_
    refine j_aload_n (pc := 79) hk 0 rfl ⟨_, rfl⟩ dX7_mostLeft_79 ?_
    refine f_7_49 (pc := 80) hk (rfl) dX7_mostLeft_80 ?_
    refine j_callVNv (pc := 83) hk [fk_r g 38] [] rfl (fun l o hq9 => C6_speak 41 (rfl) st5 l o hq9) (rcv_6 (rfl)) yv_X6_speak ml_7_158 rfl (Nat.le_of_ble_eq_true rfl) (Nat.le_of_ble_eq_true rfl) (Nat.le_of_ble_eq_true rfl) dX7_mostLeft_83 (fun _ st6 => ?_)
    refine j_iload (pc := 86) hk 3 rfl dX7_mostLeft_86 ?_
    refine j_aload_n (pc := 88) hk 0 rfl ⟨_, rfl⟩ dX7_mostLeft_88 ?_
    refine f_7_56 (pc := 89) hk (rfl) dX7_mostLeft_89 ?_
    refine j_aload_n (pc := 92) hk 0 rfl ⟨_, rfl⟩ dX7_mostLeft_92 ?_
    refine f_7_60 (pc := 93) hk (rfl) dX7_mostLeft_93 ?_
    refine j_callVNi (pc := 96) hk [fk_r g 41] [.int v4] rfl (fun l o hq9 => C6_saysSame 40 41 (rfl) (rfl) st6 l o hq9) (rcv_6 (rfl)) yv_X6_saysSame ml_7_292 rfl (Nat.le_of_ble_eq_true rfl) (Nat.le_of_ble_eq_true rfl) (Nat.le_of_ble_eq_true rfl) dX7_mostLeft_96 (fun x7 st8 => ?_)
    refine j_if_eq (tgt := 106) (pc := 99) hk (by decide) dX7_mostLeft_99 (fun _ => ?_) (fun _ => ?_)
    · refine j_iconst (pc := 106) hk dX7_mostLeft_106 (v := 0) (by decide) ?_
      exact j_sub hk [0, 1, 2, 4] rfl (T7_mostLeft_107 hk k28 H28 k59 H59 v2 v3 v5 v4 (0 : Int32) st8)
    · refine j_iconst (pc := 102) hk dX7_mostLeft_102 (v := 1) (by decide) ?_
      refine j_goto (tgt := 107) (pc := 103) hk (by decide) dX7_mostLeft_103 ?_
      exact j_sub hk [0, 1, 2, 4] rfl (T7_mostLeft_107 hk k28 H28 k59 H59 v2 v3 v5 v4 (1 : Int32) st8)
set_option maxHeartbeats 1000000 in
set_option maxRecDepth 20000 in
theorem L7_mostLeft_59 {g : fkG} {k : fkK} (hk : fk_ok wC g k RX7 cX7_mostLeft 6 (some (.int)) 3 143) (k28 : Int32 → Int32 → fkS → Option (Int32 × fkS)) (H28 : ∀ (v2 : Int32) (v3 : Int32) (st : fkS), fk_J wC g fk_eI k 28 [(0, fk_r g 0), (2, .int v2), (3, .int v3)] [] st (k28 v2 v3 st)) (fu : Nat) : ∀ (v2 : Int32) (v3 : Int32) (v4 : Int32) (v5 : Int32) (st : fkS), fk_J wC g fk_eI k 59 [(0, fk_r g 0), (2, .int v2), (3, .int v3), (4, .int v4), (5, .int v5)] [] st (fk_lp4 (B7_mostLeft_59 k28) fu v2 v3 v4 v5 st) := by
  induction fu with
  | zero =>
    intro v2 v3 v4 v5 st
    exact j_none hk
  | succ fu ih =>
    exact T7_mostLeft_59 hk k28 H28 _ ih
def B7_mostLeft_28 (k28 : Int32 → Int32 → fkS → Option (Int32 × fkS)) (v2 : Int32) (v3 : Int32) (st : fkS) : Option (Int32 × fkS) :=
 if (7 : Int32) ≤ v3 then
 (some (v2, st))
 else
 (fk_let (sI st 120 40 v3) <| fun st3 =>
 fk_bind (F6_speak 40 st3) <| fun _ st4 =>
 fk_lp4 (B7_mostLeft_59 k28) fk_fuel v2 v3 (0 : Int32) (0 : Int32) st4)
set_option maxHeartbeats 1000000 in
set_option maxRecDepth 20000 in
theorem T7_mostLeft_28 {g : fkG} {k : fkK} (hk : fk_ok wC g k RX7 cX7_mostLeft 6 (some (.int)) 3 143) (k28 : Int32 → Int32 → fkS → Option (Int32 × fkS)) (H28 : ∀ (v2 : Int32) (v3 : Int32) (st : fkS), fk_J wC g fk_eI k 28 [(0, fk_r g 0), (2, .int v2), (3, .int v3)] [] st (k28 v2 v3 st)) : ∀ (v2 : Int32) (v3 : Int32) (st : fkS), fk_J wC g fk_eI k 28 [(0, fk_r g 0), (2, .int v2), (3, .int v3)] [] st (B7_mostLeft_28 k28 v2 v3 st) := by
  intro v2 v3 st
  unfold B7_mostLeft_28
  refine j_iload_n (pc := 28) hk 2 rfl dX7_mostLeft_28 ?_
  refine j_bipush (pc := 29) hk dX7_mostLeft_29 (v := 7) (by decide) ?_
  refine j_icmp_ge (tgt := 129) (pc := 31) hk (by decide) dX7_mostLeft_31 (fun _ => ?_) (fun _ => ?_)
  · refine j_iload_n (pc := 129) hk 1 rfl dX7_mostLeft_129 ?_
    exact j_iret (pc := 130) hk dX7_mostLeft_130
  · refine j_aload_n (pc := 34) hk 0 rfl ⟨_, rfl⟩ dX7_mostLeft_34 ?_
    refine f_7_56 (pc := 35) hk (rfl) dX7_mostLeft_35 ?_
    refine j_iload_n (pc := 38) hk 2 rfl dX7_mostLeft_38 ?_
    refine p_7_337 (pc := 39) hk (rfl) dX7_mostLeft_39 (fun st3 => ?_)
    refine j_aload_n (pc := 42) hk 0 rfl ⟨_, rfl⟩ dX7_mostLeft_42 ?_
    refine f_7_56 (pc := 43) hk (rfl) dX7_mostLeft_43 ?_
    refine j_aload_n (pc := 46) hk 0 rfl ⟨_, rfl⟩ dX7_mostLeft_46 ?_
    refine f_7_49 (pc := 47) hk (rfl) dX7_mostLeft_47 ?_
    refine j_callVNv (pc := 50) hk [fk_r g 38] [] rfl (fun l o hq9 => C6_speak 40 (rfl) st3 l o hq9) (rcv_6 (rfl)) yv_X6_speak ml_7_158 rfl (Nat.le_of_ble_eq_true rfl) (Nat.le_of_ble_eq_true rfl) (Nat.le_of_ble_eq_true rfl) dX7_mostLeft_50 (fun _ st4 => ?_)
    refine j_iconst (pc := 53) hk dX7_mostLeft_53 (v := 0) (by decide) ?_
    refine j_istore (lv' := ((4, .int (0 : Int32)) :: [(0, fk_r g 0), (2, .int v2), (3, .int v3)])) (pc := 54) hk (by decide) rfl dX7_mostLeft_54 ?_
    refine j_sub hk (lv' := [(0, fk_r g 0), (2, .int v2), (3, .int v3), (4, .int (0 : Int32))]) [1, 2, 3, 0] rfl ?_
    refine j_iconst (pc := 56) hk dX7_mostLeft_56 (v := 0) (by decide) ?_
    refine j_istore (lv' := ((5, .int (0 : Int32)) :: [(0, fk_r g 0), (2, .int v2), (3, .int v3), (4, .int (0 : Int32))])) (pc := 57) hk (by decide) rfl dX7_mostLeft_57 ?_
    refine j_sub hk (lv' := [(0, fk_r g 0), (2, .int v2), (3, .int v3), (4, .int (0 : Int32)), (5, .int (0 : Int32))]) [1, 2, 3, 4, 0] rfl ?_
    exact j_sub hk [0, 1, 2, 3, 4] rfl (L7_mostLeft_59 hk k28 H28 fk_fuel v2 v3 (0 : Int32) (0 : Int32) st4)
set_option maxHeartbeats 1000000 in
set_option maxRecDepth 20000 in
theorem L7_mostLeft_28 {g : fkG} {k : fkK} (hk : fk_ok wC g k RX7 cX7_mostLeft 6 (some (.int)) 3 143) (fu : Nat) : ∀ (v2 : Int32) (v3 : Int32) (st : fkS), fk_J wC g fk_eI k 28 [(0, fk_r g 0), (2, .int v2), (3, .int v3)] [] st (fk_lp2 (B7_mostLeft_28) fu v2 v3 st) := by
  induction fu with
  | zero =>
    intro v2 v3 st
    exact j_none hk
  | succ fu ih =>
    exact T7_mostLeft_28 hk _ ih
def F7_mostLeft (p1 : Int32) (st : fkS) : Option (Int32 × fkS) :=
 fk_bind (F6_take 40 19 p1 st) <| fun _ st1 =>
 fk_bind (F6_take 41 19 p1 st1) <| fun _ st2 =>
 fk_lp2 (B7_mostLeft_28) fk_fuel (0 : Int32) (0 : Int32) st2
set_option maxHeartbeats 1000000 in
set_option maxRecDepth 20000 in
theorem C7_mostLeft (p1 : Int32) (st : fkS) {g : fkG} (l : Launch) (o : Int32 × fkS) (hF : F7_mostLeft p1 st = some o) : fk_C wC yX7_mostLeft cX7_mostLeft 6 (some (.int)) 3 143 l g [fk_r g 0, .int p1] st (fk_eI o.1) o.2 := by
  refine fk_begin rfl (Nat.le_of_ble_eq_true rfl) (fun k hk => ?_) o hF
  have hk : fk_ok wC g k RX7 cX7_mostLeft 6 (some (.int)) 3 143 := hk
  show fk_J wC g fk_eI k 0 [(0, fk_r g 0), (1, .int p1)] [] st (F7_mostLeft p1 st)
  unfold F7_mostLeft
  refine j_aload_n (pc := 0) hk 0 rfl ⟨_, rfl⟩ dX7_mostLeft_0 ?_
  refine f_7_56 (pc := 1) hk (rfl) dX7_mostLeft_1 ?_
  refine j_aload_n (pc := 4) hk 0 rfl ⟨_, rfl⟩ dX7_mostLeft_4 ?_
  refine f_7_18 (pc := 5) hk (rfl) dX7_mostLeft_5 ?_
  refine j_iload_n (pc := 8) hk 1 rfl dX7_mostLeft_8 ?_
  refine j_callVNv (pc := 9) hk [fk_r g 19, .int p1] [] rfl (fun l o hq9 => C6_take 40 19 (rfl) (rfl) p1 st l o hq9) (rcv_6 (rfl)) yv_X6_take ml_7_148 rfl (Nat.le_of_ble_eq_true rfl) (Nat.le_of_ble_eq_true rfl) (Nat.le_of_ble_eq_true rfl) dX7_mostLeft_9 (fun _ st1 => ?_)
  refine j_aload_n (pc := 12) hk 0 rfl ⟨_, rfl⟩ dX7_mostLeft_12 ?_
  refine f_7_60 (pc := 13) hk (rfl) dX7_mostLeft_13 ?_
  refine j_aload_n (pc := 16) hk 0 rfl ⟨_, rfl⟩ dX7_mostLeft_16 ?_
  refine f_7_18 (pc := 17) hk (rfl) dX7_mostLeft_17 ?_
  refine j_iload_n (pc := 20) hk 1 rfl dX7_mostLeft_20 ?_
  refine j_callVNv (pc := 21) hk [fk_r g 19, .int p1] [] rfl (fun l o hq9 => C6_take 41 19 (rfl) (rfl) p1 st1 l o hq9) (rcv_6 (rfl)) yv_X6_take ml_7_148 rfl (Nat.le_of_ble_eq_true rfl) (Nat.le_of_ble_eq_true rfl) (Nat.le_of_ble_eq_true rfl) dX7_mostLeft_21 (fun _ st2 => ?_)
  refine j_iconst (pc := 24) hk dX7_mostLeft_24 (v := 0) (by decide) ?_
  refine j_istore_n (lv' := ((2, .int (0 : Int32)) :: [(0, fk_r g 0), (1, .int p1)])) (pc := 25) hk rfl (by decide) rfl dX7_mostLeft_25 ?_
  refine j_sub hk (lv' := [(0, fk_r g 0), (1, .int p1), (2, .int (0 : Int32))]) [1, 2, 0] rfl ?_
  refine j_iconst (pc := 26) hk dX7_mostLeft_26 (v := 0) (by decide) ?_
  refine j_istore_n (lv' := ((3, .int (0 : Int32)) :: [(0, fk_r g 0), (1, .int p1), (2, .int (0 : Int32))])) (pc := 27) hk rfl (by decide) rfl dX7_mostLeft_27 ?_
  refine j_sub hk (lv' := [(0, fk_r g 0), (1, .int p1), (2, .int (0 : Int32)), (3, .int (0 : Int32))]) [1, 2, 3, 0] rfl ?_
  exact j_sub hk [0, 2, 3] rfl (L7_mostLeft_28 hk fk_fuel (0 : Int32) (0 : Int32) st2)
theorem dX7_next_0 : decode cX7_next 0 = .ok (.aload_n 0, 1) := by decide +kernel
theorem dX7_next_1 : decode cX7_next 1 = .ok (.getfield 18, 3) := by decide +kernel
theorem dX7_next_4 : decode cX7_next 4 = .ok (.iload_n 1, 1) := by decide +kernel
theorem dX7_next_5 : decode cX7_next 5 = .ok (.invokevirtual 126, 3) := by decide +kernel
theorem dX7_next_8 : decode cX7_next 8 = .ok (.ifCond .eq 9, 3) := by decide +kernel
theorem dX7_next_11 : decode cX7_next 11 = .ok (.aload_n 0, 1) := by decide +kernel
theorem dX7_next_12 : decode cX7_next 12 = .ok (.iconst (-1), 1) := by decide +kernel
theorem dX7_next_13 : decode cX7_next 13 = .ok (.invokevirtual 139, 3) := by decide +kernel
theorem dX7_next_16 : decode cX7_next 16 = .ok (.ireturn, 1) := by decide +kernel
theorem dX7_next_17 : decode cX7_next 17 = .ok (.iconst (-1), 1) := by decide +kernel
theorem dX7_next_18 : decode cX7_next 18 = .ok (.istore_n 2, 1) := by decide +kernel
theorem dX7_next_19 : decode cX7_next 19 = .ok (.bipush 7, 2) := by decide +kernel
theorem dX7_next_21 : decode cX7_next 21 = .ok (.istore_n 3, 1) := by decide +kernel
theorem dX7_next_22 : decode cX7_next 22 = .ok (.iconst 0, 1) := by decide +kernel
theorem dX7_next_23 : decode cX7_next 23 = .ok (.istore 4, 2) := by decide +kernel
theorem dX7_next_25 : decode cX7_next 25 = .ok (.iload 4, 2) := by decide +kernel
theorem dX7_next_27 : decode cX7_next 27 = .ok (.bipush 10, 2) := by decide +kernel
theorem dX7_next_29 : decode cX7_next 29 = .ok (.if_icmp .ge 38, 3) := by decide +kernel
theorem dX7_next_32 : decode cX7_next 32 = .ok (.aload_n 0, 1) := by decide +kernel
theorem dX7_next_33 : decode cX7_next 33 = .ok (.getfield 49, 3) := by decide +kernel
theorem dX7_next_36 : decode cX7_next 36 = .ok (.iconst 1, 1) := by decide +kernel
theorem dX7_next_37 : decode cX7_next 37 = .ok (.iload 4, 2) := by decide +kernel
theorem dX7_next_39 : decode cX7_next 39 = .ok (.invokevirtual 155, 3) := by decide +kernel
theorem dX7_next_42 : decode cX7_next 42 = .ok (.aload_n 0, 1) := by decide +kernel
theorem dX7_next_43 : decode cX7_next 43 = .ok (.iload_n 1, 1) := by decide +kernel
theorem dX7_next_44 : decode cX7_next 44 = .ok (.invokevirtual 254, 3) := by decide +kernel
theorem dX7_next_47 : decode cX7_next 47 = .ok (.istore 5, 2) := by decide +kernel
theorem dX7_next_49 : decode cX7_next 49 = .ok (.iload 5, 2) := by decide +kernel
theorem dX7_next_51 : decode cX7_next 51 = .ok (.iload_n 3, 1) := by decide +kernel
theorem dX7_next_52 : decode cX7_next 52 = .ok (.if_icmp .ge 9, 3) := by decide +kernel
theorem dX7_next_55 : decode cX7_next 55 = .ok (.iload 5, 2) := by decide +kernel
theorem dX7_next_57 : decode cX7_next 57 = .ok (.istore_n 3, 1) := by decide +kernel
theorem dX7_next_58 : decode cX7_next 58 = .ok (.iload 4, 2) := by decide +kernel
theorem dX7_next_60 : decode cX7_next 60 = .ok (.istore_n 2, 1) := by decide +kernel
theorem dX7_next_61 : decode cX7_next 61 = .ok (.iinc 4 1, 3) := by decide +kernel
theorem dX7_next_64 : decode cX7_next 64 = .ok (.goto (-39), 3) := by decide +kernel
theorem dX7_next_67 : decode cX7_next 67 = .ok (.iload_n 2, 1) := by decide +kernel
theorem dX7_next_68 : decode cX7_next 68 = .ok (.ireturn, 1) := by decide +kernel
def B7_next_61 (k25 : Int32 → Int32 → Int32 → Int32 → fkS → Option (Int32 × fkS)) (v1 : Int32) (v2 : Int32) (v3 : Int32) (v4 : Int32) (st : fkS) : Option (Int32 × fkS) :=
 k25 v1 v2 v3 (v4 + (1 : Int32)) st
set_option maxHeartbeats 1000000 in
set_option maxRecDepth 20000 in
theorem T7_next_61 {g : fkG} {k : fkK} (hk : fk_ok wC g k RX7 cX7_next 6 (some (.int)) 4 168) (k25 : Int32 → Int32 → Int32 → Int32 → fkS → Option (Int32 × fkS)) (H25 : ∀ (v1 : Int32) (v2 : Int32) (v3 : Int32) (v4 : Int32) (st : fkS), fk_J wC g fk_eI k 25 [(0, fk_r g 0), (1, .int v1), (2, .int v2), (3, .int v3), (4, .int v4)] [] st (k25 v1 v2 v3 v4 st)) : ∀ (v1 : Int32) (v2 : Int32) (v3 : Int32) (v4 : Int32) (st : fkS), fk_J wC g fk_eI k 61 [(0, fk_r g 0), (1, .int v1), (2, .int v2), (3, .int v3), (4, .int v4)] [] st (B7_next_61 k25 v1 v2 v3 v4 st) := by
  intro v1 v2 v3 v4 st
  unfold B7_next_61
  refine j_iinc (dd := (1 : Int32)) (lv' := ((4, .int (v4 + (1 : Int32))) :: [(0, fk_r g 0), (1, .int v1), (2, .int v2), (3, .int v3)])) (pc := 61) hk 4 rfl (by decide) (by decide) rfl dX7_next_61 ?_
  refine j_sub hk (lv' := [(0, fk_r g 0), (1, .int v1), (2, .int v2), (3, .int v3), (4, .int (v4 + (1 : Int32)))]) [1, 2, 3, 4, 0] rfl ?_
  refine j_goto (tgt := 25) (pc := 64) hk (by decide) dX7_next_64 ?_
  exact j_sub hk [0, 1, 2, 3, 4] rfl (H25 v1 v2 v3 (v4 + (1 : Int32)) st)
def B7_next_25 (k25 : Int32 → Int32 → Int32 → Int32 → fkS → Option (Int32 × fkS)) (v1 : Int32) (v2 : Int32) (v3 : Int32) (v4 : Int32) (st : fkS) : Option (Int32 × fkS) :=
 if (10 : Int32) ≤ v4 then
 (some (v2, st))
 else
 (fk_bind (F3_setByNumber (1 : Int32) v4 st) <| fun _ st5 =>
 fk_bind (F7_mostLeft v1 st5) <| fun x6 st7 =>
 if v3 ≤ x6 then
 (B7_next_61 k25 v1 v2 v3 v4 st7)
 else
 (B7_next_61 k25 v1 v4 x6 v4 st7))
set_option maxHeartbeats 1000000 in
set_option maxRecDepth 20000 in
theorem T7_next_25 {g : fkG} {k : fkK} (hk : fk_ok wC g k RX7 cX7_next 6 (some (.int)) 4 168) (k25 : Int32 → Int32 → Int32 → Int32 → fkS → Option (Int32 × fkS)) (H25 : ∀ (v1 : Int32) (v2 : Int32) (v3 : Int32) (v4 : Int32) (st : fkS), fk_J wC g fk_eI k 25 [(0, fk_r g 0), (1, .int v1), (2, .int v2), (3, .int v3), (4, .int v4)] [] st (k25 v1 v2 v3 v4 st)) : ∀ (v1 : Int32) (v2 : Int32) (v3 : Int32) (v4 : Int32) (st : fkS), fk_J wC g fk_eI k 25 [(0, fk_r g 0), (1, .int v1), (2, .int v2), (3, .int v3), (4, .int v4)] [] st (B7_next_25 k25 v1 v2 v3 v4 st) := by
  intro v1 v2 v3 v4 st
  unfold B7_next_25
  refine j_iload (pc := 25) hk 4 rfl dX7_next_25 ?_
  refine j_bipush (pc := 27) hk dX7_next_27 (v := 10) (by decide) ?_
  refine j_icmp_ge (tgt := 67) (pc := 29) hk (by decide) dX7_next_29 (fun _ => ?_) (fun _ => ?_)
  · refine j_iload_n (pc := 67) hk 2 rfl dX7_next_67 ?_
    exact j_iret (pc := 68) hk dX7_next_68
  · refine j_aload_n (pc := 32) hk 0 rfl ⟨_, rfl⟩ dX7_next_32 ?_
    refine f_7_49 (pc := 33) hk (rfl) dX7_next_33 ?_
    refine j_iconst (pc := 36) hk dX7_next_36 (v := 1) (by decide) ?_
    refine j_iload (pc := 37) hk 4 rfl dX7_next_37 ?_
    refine j_callVNv (pc := 39) hk [.int (1 : Int32), .int v4] [] rfl (fun l o hq9 => C3_setByNumber (1 : Int32) v4 st l o hq9) (rcv_3 (rfl)) yv_X3_setByNumber ml_7_155 rfl (Nat.le_of_ble_eq_true rfl) (Nat.le_of_ble_eq_true rfl) (Nat.le_of_ble_eq_true rfl) dX7_next_39 (fun _ st5 => ?_)
    refine j_aload_n (pc := 42) hk 0 rfl ⟨_, rfl⟩ dX7_next_42 ?_
    refine j_iload_n (pc := 43) hk 1 rfl dX7_next_43 ?_
    refine j_callVi (pc := 44) hk [.int v1] [] rfl (fun l o hq9 => C7_mostLeft v1 st5 l o hq9) (rcv_7 (rfl)) yv_X7_mostLeft ml_7_254 rfl (Nat.le_of_ble_eq_true rfl) (Nat.le_of_ble_eq_true rfl) (Nat.le_of_ble_eq_true rfl) dX7_next_44 (fun x6 st7 => ?_)
    refine j_istore (lv' := ((5, .int x6) :: [(0, fk_r g 0), (1, .int v1), (2, .int v2), (3, .int v3), (4, .int v4)])) (pc := 47) hk (by decide) rfl dX7_next_47 ?_
    refine j_sub hk (lv' := [(0, fk_r g 0), (1, .int v1), (2, .int v2), (3, .int v3), (4, .int v4), (5, .int x6)]) [1, 2, 3, 4, 5, 0] rfl ?_
    refine j_iload (pc := 49) hk 5 rfl dX7_next_49 ?_
    refine j_iload_n (pc := 51) hk 3 rfl dX7_next_51 ?_
    refine j_icmp_ge (tgt := 61) (pc := 52) hk (by decide) dX7_next_52 (fun _ => ?_) (fun _ => ?_)
    · exact j_sub hk [0, 1, 2, 3, 4] rfl (T7_next_61 hk k25 H25 v1 v2 v3 v4 st7)
    · refine j_iload (pc := 55) hk 5 rfl dX7_next_55 ?_
      refine j_istore_n (lv' := ((3, .int x6) :: [(0, fk_r g 0), (1, .int v1), (2, .int v2), (4, .int v4), (5, .int x6)])) (pc := 57) hk rfl (by decide) rfl dX7_next_57 ?_
      refine j_sub hk (lv' := [(0, fk_r g 0), (1, .int v1), (2, .int v2), (3, .int x6), (4, .int v4), (5, .int x6)]) [1, 2, 3, 0, 4, 5] rfl ?_
      refine j_iload (pc := 58) hk 4 rfl dX7_next_58 ?_
      refine j_istore_n (lv' := ((2, .int v4) :: [(0, fk_r g 0), (1, .int v1), (3, .int x6), (4, .int v4), (5, .int x6)])) (pc := 60) hk rfl (by decide) rfl dX7_next_60 ?_
      refine j_sub hk (lv' := [(0, fk_r g 0), (1, .int v1), (2, .int v4), (3, .int x6), (4, .int v4), (5, .int x6)]) [1, 2, 0, 3, 4, 5] rfl ?_
      exact j_sub hk [0, 1, 2, 3, 4] rfl (T7_next_61 hk k25 H25 v1 v4 x6 v4 st7)
set_option maxHeartbeats 1000000 in
set_option maxRecDepth 20000 in
theorem L7_next_25 {g : fkG} {k : fkK} (hk : fk_ok wC g k RX7 cX7_next 6 (some (.int)) 4 168) (fu : Nat) : ∀ (v1 : Int32) (v2 : Int32) (v3 : Int32) (v4 : Int32) (st : fkS), fk_J wC g fk_eI k 25 [(0, fk_r g 0), (1, .int v1), (2, .int v2), (3, .int v3), (4, .int v4)] [] st (fk_lp4 (B7_next_25) fu v1 v2 v3 v4 st) := by
  induction fu with
  | zero =>
    intro v1 v2 v3 v4 st
    exact j_none hk
  | succ fu ih =>
    exact T7_next_25 hk _ ih
def F7_next (p1 : Int32) (st : fkS) : Option (Int32 × fkS) :=
 fk_bind (F0_lacks 19 p1 st) <| fun x1 st2 =>
 if x1 = 0 then
 (fk_lp4 (B7_next_25) fk_fuel p1 (-1 : Int32) (7 : Int32) (0 : Int32) st2)
 else
 (fk_bind (F7_refuseFar (-1 : Int32) st2) <| fun x3 st4 =>
 some (x3, st4))
set_option maxHeartbeats 1000000 in
set_option maxRecDepth 20000 in
theorem C7_next (p1 : Int32) (st : fkS) {g : fkG} (l : Launch) (o : Int32 × fkS) (hF : F7_next p1 st = some o) : fk_C wC yX7_next cX7_next 6 (some (.int)) 4 168 l g [fk_r g 0, .int p1] st (fk_eI o.1) o.2 := by
  refine fk_begin rfl (Nat.le_of_ble_eq_true rfl) (fun k hk => ?_) o hF
  have hk : fk_ok wC g k RX7 cX7_next 6 (some (.int)) 4 168 := hk
  show fk_J wC g fk_eI k 0 [(0, fk_r g 0), (1, .int p1)] [] st (F7_next p1 st)
  unfold F7_next
  refine j_aload_n (pc := 0) hk 0 rfl ⟨_, rfl⟩ dX7_next_0 ?_
  refine f_7_18 (pc := 1) hk (rfl) dX7_next_1 ?_
  refine j_iload_n (pc := 4) hk 1 rfl dX7_next_4 ?_
  refine j_callVNi (pc := 5) hk [.int p1] [] rfl (fun l o hq9 => C0_lacks 19 (rfl) p1 st l o hq9) (rcv_0 (rfl)) yv_X0_lacks ml_7_126 rfl (Nat.le_of_ble_eq_true rfl) (Nat.le_of_ble_eq_true rfl) (Nat.le_of_ble_eq_true rfl) dX7_next_5 (fun x1 st2 => ?_)
  refine j_if_eq (tgt := 17) (pc := 8) hk (by decide) dX7_next_8 (fun _ => ?_) (fun _ => ?_)
  · refine j_iconst (pc := 17) hk dX7_next_17 (v := -1) (by decide) ?_
    refine j_istore_n (lv' := ((2, .int (-1 : Int32)) :: [(0, fk_r g 0), (1, .int p1)])) (pc := 18) hk rfl (by decide) rfl dX7_next_18 ?_
    refine j_sub hk (lv' := [(0, fk_r g 0), (1, .int p1), (2, .int (-1 : Int32))]) [1, 2, 0] rfl ?_
    refine j_bipush (pc := 19) hk dX7_next_19 (v := 7) (by decide) ?_
    refine j_istore_n (lv' := ((3, .int (7 : Int32)) :: [(0, fk_r g 0), (1, .int p1), (2, .int (-1 : Int32))])) (pc := 21) hk rfl (by decide) rfl dX7_next_21 ?_
    refine j_sub hk (lv' := [(0, fk_r g 0), (1, .int p1), (2, .int (-1 : Int32)), (3, .int (7 : Int32))]) [1, 2, 3, 0] rfl ?_
    refine j_iconst (pc := 22) hk dX7_next_22 (v := 0) (by decide) ?_
    refine j_istore (lv' := ((4, .int (0 : Int32)) :: [(0, fk_r g 0), (1, .int p1), (2, .int (-1 : Int32)), (3, .int (7 : Int32))])) (pc := 23) hk (by decide) rfl dX7_next_23 ?_
    refine j_sub hk (lv' := [(0, fk_r g 0), (1, .int p1), (2, .int (-1 : Int32)), (3, .int (7 : Int32)), (4, .int (0 : Int32))]) [1, 2, 3, 4, 0] rfl ?_
    exact j_sub hk [0, 1, 2, 3, 4] rfl (L7_next_25 hk fk_fuel p1 (-1 : Int32) (7 : Int32) (0 : Int32) st2)
  · refine j_aload_n (pc := 11) hk 0 rfl ⟨_, rfl⟩ dX7_next_11 ?_
    refine j_iconst (pc := 12) hk dX7_next_12 (v := -1) (by decide) ?_
    refine j_callVi (pc := 13) hk [.int (-1 : Int32)] [] rfl (fun l o hq9 => C7_refuseFar (-1 : Int32) st2 l o hq9) (rcv_7 (rfl)) yv_X7_refuseFar ml_7_139 rfl (Nat.le_of_ble_eq_true rfl) (Nat.le_of_ble_eq_true rfl) (Nat.le_of_ble_eq_true rfl) dX7_next_13 (fun x3 st4 => ?_)
    exact j_iret (pc := 16) hk dX7_next_16
