theorem dX8_no_0 : decode cX8_no 0 = .ok (.aload_n 0, 1) := by decide +kernel
theorem dX8_no_1 : decode cX8_no 1 = .ok (.getfield 44, 3) := by decide +kernel
theorem dX8_no_4 : decode cX8_no 4 = .ok (.iload_n 1, 1) := by decide +kernel
theorem dX8_no_5 : decode cX8_no 5 = .ok (.ineg, 1) := by decide +kernel
theorem dX8_no_6 : decode cX8_no 6 = .ok (.dup2, 1) := by decide +kernel
theorem dX8_no_7 : decode cX8_no 7 = .ok (.iaload, 1) := by decide +kernel
theorem dX8_no_8 : decode cX8_no 8 = .ok (.iconst 1, 1) := by decide +kernel
theorem dX8_no_9 : decode cX8_no 9 = .ok (.iadd, 1) := by decide +kernel
theorem dX8_no_10 : decode cX8_no 10 = .ok (.iastore, 1) := by decide +kernel
theorem dX8_no_11 : decode cX8_no 11 = .ok (.iload_n 1, 1) := by decide +kernel
theorem dX8_no_12 : decode cX8_no 12 = .ok (.ireturn, 1) := by decide +kernel
def F8_no (p1 : Int32) (st : fkS) : Option (Int32 × fkS) :=
 fk_chk (fk_in (-p1) 8) <| fk_let (gA st 12 (-p1).toNatClampNeg) <| fun x1 =>
 fk_chk (fk_in (-p1) 8) <| fk_let (sA st 12 (-p1).toNatClampNeg (x1 + (1 : Int32))) <| fun st2 =>
 some (p1, st2)
set_option maxHeartbeats 1000000 in
set_option maxRecDepth 20000 in
theorem C8_no (p1 : Int32) (st : fkS) {g : fkG} (l : Launch) (o : Int32 × fkS) (hF : F8_no p1 st = some o) : fk_C wM yX8_no cX8_no 2 (some (.int)) 0 0 l g [fk_r g 0, .int p1] st (fk_eI o.1) o.2 := by
  refine fk_begin rfl (Nat.le_of_ble_eq_true rfl) (fun k hk => ?_) o hF
  have hk : fk_ok wM g k RX8 cX8_no 2 (some (.int)) 0 0 := hk
  show fk_J wM g fk_eI k 0 [(0, fk_r g 0), (1, .int p1)] [] st (F8_no p1 st)
  unfold F8_no
  refine j_aload_n (pc := 0) hk 0 rfl ⟨_, rfl⟩ dX8_no_0 ?_
  refine f_8_44 (pc := 1) hk (rfl) dX8_no_1 ?_
  refine j_iload_n (pc := 4) hk 1 rfl dX8_no_4 ?_
  refine j_ineg (pc := 5) hk dX8_no_5 ?_
  refine j_dup2 (pc := 6) hk rfl rfl dX8_no_6 ?_
  refine a_iload (pc := 7) hk (isI_8_19) dX8_no_7 (fun x1 => ?_)
  refine j_iconst (pc := 8) hk dX8_no_8 (v := 1) (by decide) ?_
  refine j_iadd (pc := 9) hk dX8_no_9 ?_
  refine a_istore (pc := 10) hk (isI_8_19) dX8_no_10 (fun st2 => ?_)
  refine j_iload_n (pc := 11) hk 1 rfl dX8_no_11 ?_
  exact j_iret (pc := 12) hk dX8_no_12
theorem dX8_no10_0 : decode cX8_no10 0 = .ok (.aload_n 0, 1) := by decide +kernel
theorem dX8_no10_1 : decode cX8_no10 1 = .ok (.iload_n 1, 1) := by decide +kernel
theorem dX8_no10_2 : decode cX8_no10 2 = .ok (.invokevirtual 81, 3) := by decide +kernel
theorem dX8_no10_5 : decode cX8_no10 5 = .ok (.bipush 10, 2) := by decide +kernel
theorem dX8_no10_7 : decode cX8_no10 7 = .ok (.isub, 1) := by decide +kernel
theorem dX8_no10_8 : decode cX8_no10 8 = .ok (.ireturn, 1) := by decide +kernel
def F8_no10 (p1 : Int32) (st : fkS) : Option (Int32 × fkS) :=
 fk_bind (F8_no p1 st) <| fun x1 st2 =>
 some ((x1 - (10 : Int32)), st2)
set_option maxHeartbeats 1000000 in
set_option maxRecDepth 20000 in
theorem C8_no10 (p1 : Int32) (st : fkS) {g : fkG} (l : Launch) (o : Int32 × fkS) (hF : F8_no10 p1 st = some o) : fk_C wM yX8_no10 cX8_no10 2 (some (.int)) 1 21 l g [fk_r g 0, .int p1] st (fk_eI o.1) o.2 := by
  refine fk_begin rfl (Nat.le_of_ble_eq_true rfl) (fun k hk => ?_) o hF
  have hk : fk_ok wM g k RX8 cX8_no10 2 (some (.int)) 1 21 := hk
  show fk_J wM g fk_eI k 0 [(0, fk_r g 0), (1, .int p1)] [] st (F8_no10 p1 st)
  unfold F8_no10
  refine j_aload_n (pc := 0) hk 0 rfl ⟨_, rfl⟩ dX8_no10_0 ?_
  refine j_iload_n (pc := 1) hk 1 rfl dX8_no10_1 ?_
  refine j_callVi (pc := 2) hk [.int p1] [] rfl (fun l o hq9 => C8_no p1 st l o hq9) (rcv_8 (rfl)) yv_X8_no ml_8_81 rfl (Nat.le_of_ble_eq_true rfl) (Nat.le_of_ble_eq_true rfl) (Nat.le_of_ble_eq_true rfl) dX8_no10_2 (fun x1 st2 => ?_)
  refine j_bipush (pc := 5) hk dX8_no10_5 (v := 10) (by decide) ?_
  refine j_isub (pc := 7) hk dX8_no10_7 ?_
  exact j_iret (pc := 8) hk dX8_no10_8
theorem dX8_within_0 : decode cX8_within 0 = .ok (.iload_n 0, 1) := by decide +kernel
theorem dX8_within_1 : decode cX8_within 1 = .ok (.iload_n 1, 1) := by decide +kernel
theorem dX8_within_2 : decode cX8_within 2 = .ok (.if_icmp .lt 12, 3) := by decide +kernel
theorem dX8_within_5 : decode cX8_within 5 = .ok (.iload_n 0, 1) := by decide +kernel
theorem dX8_within_6 : decode cX8_within 6 = .ok (.iload_n 2, 1) := by decide +kernel
theorem dX8_within_7 : decode cX8_within 7 = .ok (.if_icmp .gt 7, 3) := by decide +kernel
theorem dX8_within_10 : decode cX8_within 10 = .ok (.iconst 1, 1) := by decide +kernel
theorem dX8_within_11 : decode cX8_within 11 = .ok (.goto 4, 3) := by decide +kernel
theorem dX8_within_14 : decode cX8_within 14 = .ok (.iconst 0, 1) := by decide +kernel
theorem dX8_within_15 : decode cX8_within 15 = .ok (.ireturn, 1) := by decide +kernel
def F8_within (p0 : Int32) (p1 : Int32) (p2 : Int32) (st : fkS) : Option (Int32 × fkS) :=
 if p0 < p1 then
 (some ((0 : Int32), st))
 else
 (if p2 < p0 then
 (some ((0 : Int32), st))
 else
 (some ((1 : Int32), st)))
set_option maxHeartbeats 1000000 in
set_option maxRecDepth 20000 in
theorem C8_within (p0 : Int32) (p1 : Int32) (p2 : Int32) (st : fkS) {g : fkG} (l : Launch) (o : Int32 × fkS) (hF : F8_within p0 p1 p2 st = some o) : fk_C wM yX8_within cX8_within 3 (some (.boolean)) 0 0 l g [.int p0, .int p1, .int p2] st (fk_eI o.1) o.2 := by
  refine fk_begin rfl (Nat.le_of_ble_eq_true rfl) (fun k hk => ?_) o hF
  have hk : fk_ok wM g k RX8 cX8_within 3 (some (.boolean)) 0 0 := hk
  show fk_J wM g fk_eI k 0 [(0, .int p0), (1, .int p1), (2, .int p2)] [] st (F8_within p0 p1 p2 st)
  unfold F8_within
  refine j_iload_n (pc := 0) hk 0 rfl dX8_within_0 ?_
  refine j_iload_n (pc := 1) hk 1 rfl dX8_within_1 ?_
  refine j_icmp_lt (tgt := 14) (pc := 2) hk (by decide) dX8_within_2 (fun _ => ?_) (fun _ => ?_)
  · refine j_iconst (pc := 14) hk dX8_within_14 (v := 0) (by decide) ?_
    exact j_zret (pc := 15) hk rfl dX8_within_15
  · refine j_iload_n (pc := 5) hk 0 rfl dX8_within_5 ?_
    refine j_iload_n (pc := 6) hk 2 rfl dX8_within_6 ?_
    refine j_icmp_gt (tgt := 14) (pc := 7) hk (by decide) dX8_within_7 (fun _ => ?_) (fun _ => ?_)
    · refine j_iconst (pc := 14) hk dX8_within_14 (v := 0) (by decide) ?_
      exact j_zret (pc := 15) hk rfl dX8_within_15
    · refine j_iconst (pc := 10) hk dX8_within_10 (v := 1) (by decide) ?_
      refine j_goto (tgt := 15) (pc := 11) hk (by decide) dX8_within_11 ?_
      exact j_zret (pc := 15) hk rfl dX8_within_15
theorem dX8_isBird_0 : decode cX8_isBird 0 = .ok (.iload_n 1, 1) := by decide +kernel
theorem dX8_isBird_1 : decode cX8_isBird 1 = .ok (.iconst 0, 1) := by decide +kernel
theorem dX8_isBird_2 : decode cX8_isBird 2 = .ok (.aload_n 0, 1) := by decide +kernel
theorem dX8_isBird_3 : decode cX8_isBird 3 = .ok (.getfield 85, 3) := by decide +kernel
theorem dX8_isBird_6 : decode cX8_isBird 6 = .ok (.iconst 1, 1) := by decide +kernel
theorem dX8_isBird_7 : decode cX8_isBird 7 = .ok (.isub, 1) := by decide +kernel
theorem dX8_isBird_8 : decode cX8_isBird 8 = .ok (.invokestatic 88, 3) := by decide +kernel
theorem dX8_isBird_11 : decode cX8_isBird 11 = .ok (.ireturn, 1) := by decide +kernel
def F8_isBird (p1 : Int32) (st : fkS) : Option (Int32 × fkS) :=
 fk_let (gI st 0 0) <| fun x1 =>
 fk_bind (F8_within p1 (0 : Int32) (x1 - (1 : Int32)) st) <| fun x2 st3 =>
 fk_chk (fk_bool x2) (some (x2, st3))
set_option maxHeartbeats 1000000 in
set_option maxRecDepth 20000 in
theorem C8_isBird (p1 : Int32) (st : fkS) {g : fkG} (l : Launch) (o : Int32 × fkS) (hF : F8_isBird p1 st = some o) : fk_C wM yX8_isBird cX8_isBird 2 (some (.boolean)) 1 22 l g [fk_r g 0, .int p1] st (fk_eI o.1) o.2 := by
  refine fk_begin rfl (Nat.le_of_ble_eq_true rfl) (fun k hk => ?_) o hF
  have hk : fk_ok wM g k RX8 cX8_isBird 2 (some (.boolean)) 1 22 := hk
  show fk_J wM g fk_eI k 0 [(0, fk_r g 0), (1, .int p1)] [] st (F8_isBird p1 st)
  unfold F8_isBird
  refine j_iload_n (pc := 0) hk 1 rfl dX8_isBird_0 ?_
  refine j_iconst (pc := 1) hk dX8_isBird_1 (v := 0) (by decide) ?_
  refine j_aload_n (pc := 2) hk 0 rfl ⟨_, rfl⟩ dX8_isBird_2 ?_
  refine f_8_85 (pc := 3) hk (rfl) dX8_isBird_3 (fun x1 => ?_)
  refine j_iconst (pc := 6) hk dX8_isBird_6 (v := 1) (by decide) ?_
  refine j_isub (pc := 7) hk dX8_isBird_7 ?_
  refine j_callSi (pc := 8) hk [.int p1, .int (0 : Int32), .int (x1 - (1 : Int32))] [] rfl (fun l o hq9 => C8_within p1 (0 : Int32) (x1 - (1 : Int32)) st l o hq9) yv_X8_within ml_8_88 rfl (Nat.le_of_ble_eq_true rfl) (Nat.le_of_ble_eq_true rfl) (Nat.le_of_ble_eq_true rfl) dX8_isBird_8 (fun x2 st3 => ?_)
  refine j_chk (pc := 11) hk (fun hb4 => ?_)
  exact j_zret (pc := 11) hk (fk_bool_n hb4) dX8_isBird_11
theorem dX8_isState_0 : decode cX8_isState 0 = .ok (.iload_n 0, 1) := by decide +kernel
theorem dX8_isState_1 : decode cX8_isState 1 = .ok (.iconst 0, 1) := by decide +kernel
theorem dX8_isState_2 : decode cX8_isState 2 = .ok (.bipush 7, 2) := by decide +kernel
theorem dX8_isState_4 : decode cX8_isState 4 = .ok (.invokestatic 88, 3) := by decide +kernel
theorem dX8_isState_7 : decode cX8_isState 7 = .ok (.ireturn, 1) := by decide +kernel
def F8_isState (p0 : Int32) (st : fkS) : Option (Int32 × fkS) :=
 fk_bind (F8_within p0 (0 : Int32) (7 : Int32) st) <| fun x1 st2 =>
 fk_chk (fk_bool x1) (some (x1, st2))
set_option maxHeartbeats 1000000 in
set_option maxRecDepth 20000 in
theorem C8_isState (p0 : Int32) (st : fkS) {g : fkG} (l : Launch) (o : Int32 × fkS) (hF : F8_isState p0 st = some o) : fk_C wM yX8_isState cX8_isState 1 (some (.boolean)) 1 22 l g [.int p0] st (fk_eI o.1) o.2 := by
  refine fk_begin rfl (Nat.le_of_ble_eq_true rfl) (fun k hk => ?_) o hF
  have hk : fk_ok wM g k RX8 cX8_isState 1 (some (.boolean)) 1 22 := hk
  show fk_J wM g fk_eI k 0 [(0, .int p0)] [] st (F8_isState p0 st)
  unfold F8_isState
  refine j_iload_n (pc := 0) hk 0 rfl dX8_isState_0 ?_
  refine j_iconst (pc := 1) hk dX8_isState_1 (v := 0) (by decide) ?_
  refine j_bipush (pc := 2) hk dX8_isState_2 (v := 7) (by decide) ?_
  refine j_callSi (pc := 4) hk [.int p0, .int (0 : Int32), .int (7 : Int32)] [] rfl (fun l o hq9 => C8_within p0 (0 : Int32) (7 : Int32) st l o hq9) yv_X8_within ml_8_88 rfl (Nat.le_of_ble_eq_true rfl) (Nat.le_of_ble_eq_true rfl) (Nat.le_of_ble_eq_true rfl) dX8_isState_4 (fun x1 st2 => ?_)
  refine j_chk (pc := 7) hk (fun hb3 => ?_)
  exact j_zret (pc := 7) hk (fk_bool_n hb3) dX8_isState_7
theorem dX8_isRow_0 : decode cX8_isRow 0 = .ok (.aload_n 0, 1) := by decide +kernel
theorem dX8_isRow_1 : decode cX8_isRow 1 = .ok (.getfield 25, 3) := by decide +kernel
theorem dX8_isRow_4 : decode cX8_isRow 4 = .ok (.iload_n 1, 1) := by decide +kernel
theorem dX8_isRow_5 : decode cX8_isRow 5 = .ok (.iaload, 1) := by decide +kernel
theorem dX8_isRow_6 : decode cX8_isRow 6 = .ok (.bipush 100, 2) := by decide +kernel
theorem dX8_isRow_8 : decode cX8_isRow 8 = .ok (.if_icmp .lt 7, 3) := by decide +kernel
theorem dX8_isRow_11 : decode cX8_isRow 11 = .ok (.iconst 1, 1) := by decide +kernel
theorem dX8_isRow_12 : decode cX8_isRow 12 = .ok (.goto 4, 3) := by decide +kernel
theorem dX8_isRow_15 : decode cX8_isRow 15 = .ok (.iconst 0, 1) := by decide +kernel
theorem dX8_isRow_16 : decode cX8_isRow 16 = .ok (.ireturn, 1) := by decide +kernel
def F8_isRow (p1 : Int32) (st : fkS) : Option (Int32 × fkS) :=
 fk_chk (fk_in p1 8) <| fk_let (gA st 6 p1.toNatClampNeg) <| fun x1 =>
 if x1 < (100 : Int32) then
 (some ((0 : Int32), st))
 else
 (some ((1 : Int32), st))
set_option maxHeartbeats 1000000 in
set_option maxRecDepth 20000 in
theorem C8_isRow (p1 : Int32) (st : fkS) {g : fkG} (l : Launch) (o : Int32 × fkS) (hF : F8_isRow p1 st = some o) : fk_C wM yX8_isRow cX8_isRow 2 (some (.boolean)) 0 0 l g [fk_r g 0, .int p1] st (fk_eI o.1) o.2 := by
  refine fk_begin rfl (Nat.le_of_ble_eq_true rfl) (fun k hk => ?_) o hF
  have hk : fk_ok wM g k RX8 cX8_isRow 2 (some (.boolean)) 0 0 := hk
  show fk_J wM g fk_eI k 0 [(0, fk_r g 0), (1, .int p1)] [] st (F8_isRow p1 st)
  unfold F8_isRow
  refine j_aload_n (pc := 0) hk 0 rfl ⟨_, rfl⟩ dX8_isRow_0 ?_
  refine f_8_25 (pc := 1) hk (rfl) dX8_isRow_1 ?_
  refine j_iload_n (pc := 4) hk 1 rfl dX8_isRow_4 ?_
  refine a_iload (pc := 5) hk (isI_8_9) dX8_isRow_5 (fun x1 => ?_)
  refine j_bipush (pc := 6) hk dX8_isRow_6 (v := 100) (by decide) ?_
  refine j_icmp_lt (tgt := 15) (pc := 8) hk (by decide) dX8_isRow_8 (fun _ => ?_) (fun _ => ?_)
  · refine j_iconst (pc := 15) hk dX8_isRow_15 (v := 0) (by decide) ?_
    exact j_zret (pc := 16) hk rfl dX8_isRow_16
  · refine j_iconst (pc := 11) hk dX8_isRow_11 (v := 1) (by decide) ?_
    refine j_goto (tgt := 16) (pc := 12) hk (by decide) dX8_isRow_12 ?_
    exact j_zret (pc := 16) hk rfl dX8_isRow_16
theorem dX8_row_0 : decode cX8_row 0 = .ok (.iload_n 1, 1) := by decide +kernel
theorem dX8_row_1 : decode cX8_row 1 = .ok (.iconst 0, 1) := by decide +kernel
theorem dX8_row_2 : decode cX8_row 2 = .ok (.bipush 7, 2) := by decide +kernel
theorem dX8_row_4 : decode cX8_row 4 = .ok (.invokestatic 88, 3) := by decide +kernel
theorem dX8_row_7 : decode cX8_row 7 = .ok (.ifCond .ne 9, 3) := by decide +kernel
theorem dX8_row_10 : decode cX8_row 10 = .ok (.aload_n 0, 1) := by decide +kernel
theorem dX8_row_11 : decode cX8_row 11 = .ok (.iconst (-1), 1) := by decide +kernel
theorem dX8_row_12 : decode cX8_row 12 = .ok (.invokevirtual 81, 3) := by decide +kernel
theorem dX8_row_15 : decode cX8_row 15 = .ok (.ireturn, 1) := by decide +kernel
theorem dX8_row_16 : decode cX8_row 16 = .ok (.iload_n 3, 1) := by decide +kernel
theorem dX8_row_17 : decode cX8_row 17 = .ok (.ifCond .ge 10, 3) := by decide +kernel
theorem dX8_row_20 : decode cX8_row 20 = .ok (.aload_n 0, 1) := by decide +kernel
theorem dX8_row_21 : decode cX8_row 21 = .ok (.bipush (-4), 2) := by decide +kernel
theorem dX8_row_23 : decode cX8_row 23 = .ok (.invokevirtual 81, 3) := by decide +kernel
theorem dX8_row_26 : decode cX8_row 26 = .ok (.ireturn, 1) := by decide +kernel
theorem dX8_row_27 : decode cX8_row 27 = .ok (.iload_n 2, 1) := by decide +kernel
theorem dX8_row_28 : decode cX8_row 28 = .ok (.iconst 0, 1) := by decide +kernel
theorem dX8_row_29 : decode cX8_row 29 = .ok (.iconst 3, 1) := by decide +kernel
theorem dX8_row_30 : decode cX8_row 30 = .ok (.invokestatic 88, 3) := by decide +kernel
theorem dX8_row_33 : decode cX8_row 33 = .ok (.ifCond .ne 10, 3) := by decide +kernel
theorem dX8_row_36 : decode cX8_row 36 = .ok (.aload_n 0, 1) := by decide +kernel
theorem dX8_row_37 : decode cX8_row 37 = .ok (.bipush (-6), 2) := by decide +kernel
theorem dX8_row_39 : decode cX8_row 39 = .ok (.invokevirtual 81, 3) := by decide +kernel
theorem dX8_row_42 : decode cX8_row 42 = .ok (.ireturn, 1) := by decide +kernel
theorem dX8_row_43 : decode cX8_row 43 = .ok (.iload_n 3, 1) := by decide +kernel
theorem dX8_row_44 : decode cX8_row 44 = .ok (.sipush 160, 3) := by decide +kernel
theorem dX8_row_47 : decode cX8_row 47 = .ok (.if_icmp .le 10, 3) := by decide +kernel
theorem dX8_row_50 : decode cX8_row 50 = .ok (.aload_n 0, 1) := by decide +kernel
theorem dX8_row_51 : decode cX8_row 51 = .ok (.bipush (-7), 2) := by decide +kernel
theorem dX8_row_53 : decode cX8_row 53 = .ok (.invokevirtual 81, 3) := by decide +kernel
theorem dX8_row_56 : decode cX8_row 56 = .ok (.ireturn, 1) := by decide +kernel
theorem dX8_row_57 : decode cX8_row 57 = .ok (.aload_n 0, 1) := by decide +kernel
theorem dX8_row_58 : decode cX8_row 58 = .ok (.getfield 25, 3) := by decide +kernel
theorem dX8_row_61 : decode cX8_row 61 = .ok (.iload_n 1, 1) := by decide +kernel
theorem dX8_row_62 : decode cX8_row 62 = .ok (.bipush 100, 2) := by decide +kernel
theorem dX8_row_64 : decode cX8_row 64 = .ok (.iload_n 2, 1) := by decide +kernel
theorem dX8_row_65 : decode cX8_row 65 = .ok (.iadd, 1) := by decide +kernel
theorem dX8_row_66 : decode cX8_row 66 = .ok (.iastore, 1) := by decide +kernel
theorem dX8_row_67 : decode cX8_row 67 = .ok (.aload_n 0, 1) := by decide +kernel
theorem dX8_row_68 : decode cX8_row 68 = .ok (.getfield 28, 3) := by decide +kernel
theorem dX8_row_71 : decode cX8_row 71 = .ok (.iload_n 1, 1) := by decide +kernel
theorem dX8_row_72 : decode cX8_row 72 = .ok (.iload_n 3, 1) := by decide +kernel
theorem dX8_row_73 : decode cX8_row 73 = .ok (.iastore, 1) := by decide +kernel
theorem dX8_row_74 : decode cX8_row 74 = .ok (.iconst 0, 1) := by decide +kernel
theorem dX8_row_75 : decode cX8_row 75 = .ok (.istore 4, 2) := by decide +kernel
theorem dX8_row_77 : decode cX8_row 77 = .ok (.iload 4, 2) := by decide +kernel
theorem dX8_row_79 : decode cX8_row 79 = .ok (.sipush 160, 3) := by decide +kernel
theorem dX8_row_82 : decode cX8_row 82 = .ok (.if_icmp .ge 23, 3) := by decide +kernel
theorem dX8_row_85 : decode cX8_row 85 = .ok (.aload_n 0, 1) := by decide +kernel
theorem dX8_row_86 : decode cX8_row 86 = .ok (.getfield 31, 3) := by decide +kernel
theorem dX8_row_89 : decode cX8_row 89 = .ok (.sipush 160, 3) := by decide +kernel
theorem dX8_row_92 : decode cX8_row 92 = .ok (.iload_n 1, 1) := by decide +kernel
theorem dX8_row_93 : decode cX8_row 93 = .ok (.imul, 1) := by decide +kernel
theorem dX8_row_94 : decode cX8_row 94 = .ok (.iload 4, 2) := by decide +kernel
theorem dX8_row_96 : decode cX8_row 96 = .ok (.iadd, 1) := by decide +kernel
theorem dX8_row_97 : decode cX8_row 97 = .ok (.lconst 0, 1) := by decide +kernel
theorem dX8_row_98 : decode cX8_row 98 = .ok (.lastore, 1) := by decide +kernel
theorem dX8_row_99 : decode cX8_row 99 = .ok (.iinc 4 1, 3) := by decide +kernel
theorem dX8_row_102 : decode cX8_row 102 = .ok (.goto (-25), 3) := by decide +kernel
theorem dX8_row_105 : decode cX8_row 105 = .ok (.iconst 1, 1) := by decide +kernel
theorem dX8_row_106 : decode cX8_row 106 = .ok (.ireturn, 1) := by decide +kernel
def B8_row_77 (k77 : Int32 → Int32 → fkS → Option (Int32 × fkS)) (v1 : Int32) (v4 : Int32) (st : fkS) : Option (Int32 × fkS) :=
 if (160 : Int32) ≤ v4 then
 (some ((1 : Int32), st))
 else
 (fk_chk (fk_in (((160 : Int32) * v1) + v4) 1280) <| fk_let (sL st 8 (((160 : Int32) * v1) + v4).toNatClampNeg (0 : Int64)) <| fun st15 =>
 k77 v1 (v4 + (1 : Int32)) st15)
set_option maxHeartbeats 1000000 in
set_option maxRecDepth 20000 in
theorem T8_row_77 {g : fkG} {k : fkK} (hk : fk_ok wM g k RX8 cX8_row 5 (some (.int)) 1 22) (k77 : Int32 → Int32 → fkS → Option (Int32 × fkS)) (H77 : ∀ (v1 : Int32) (v4 : Int32) (st : fkS), fk_J wM g fk_eI k 77 [(0, fk_r g 0), (1, .int v1), (4, .int v4)] [] st (k77 v1 v4 st)) : ∀ (v1 : Int32) (v4 : Int32) (st : fkS), fk_J wM g fk_eI k 77 [(0, fk_r g 0), (1, .int v1), (4, .int v4)] [] st (B8_row_77 k77 v1 v4 st) := by
  intro v1 v4 st
  unfold B8_row_77
  refine j_iload (pc := 77) hk 2 rfl dX8_row_77 ?_
  refine j_sipush (pc := 79) hk dX8_row_79 (v := 160) (by decide) ?_
  refine j_icmp_ge (tgt := 105) (pc := 82) hk (by decide) dX8_row_82 (fun _ => ?_) (fun _ => ?_)
  · refine j_iconst (pc := 105) hk dX8_row_105 (v := 1) (by decide) ?_
    exact j_iret (pc := 106) hk dX8_row_106
  · refine j_aload_n (pc := 85) hk 0 rfl ⟨_, rfl⟩ dX8_row_85 ?_
    refine f_8_31 (pc := 86) hk (rfl) dX8_row_86 ?_
    refine j_sipush (pc := 89) hk dX8_row_89 (v := 160) (by decide) ?_
    refine j_iload_n (pc := 92) hk 1 rfl dX8_row_92 ?_
    refine j_imul (pc := 93) hk dX8_row_93 ?_
    refine j_iload (pc := 94) hk 2 rfl dX8_row_94 ?_
    refine j_iadd (pc := 96) hk dX8_row_96 ?_
    refine j_lconst (pc := 97) hk dX8_row_97 (v := 0) (by decide) ?_
    refine a_lstore (pc := 98) hk (isL_8_11) dX8_row_98 (fun st15 => ?_)
    refine j_iinc (dd := (1 : Int32)) (lv' := ((4, .int (v4 + (1 : Int32))) :: [(0, fk_r g 0), (1, .int v1)])) (pc := 99) hk 2 rfl (by decide) (by decide) rfl dX8_row_99 ?_
    refine j_sub hk (lv' := [(0, fk_r g 0), (1, .int v1), (4, .int (v4 + (1 : Int32)))]) [1, 2, 0] rfl ?_
    refine j_goto (tgt := 77) (pc := 102) hk (by decide) dX8_row_102 ?_
    exact j_sub hk [0, 1, 2] rfl (H77 v1 (v4 + (1 : Int32)) st15)
set_option maxHeartbeats 1000000 in
set_option maxRecDepth 20000 in
theorem L8_row_77 {g : fkG} {k : fkK} (hk : fk_ok wM g k RX8 cX8_row 5 (some (.int)) 1 22) (fu : Nat) : ∀ (v1 : Int32) (v4 : Int32) (st : fkS), fk_J wM g fk_eI k 77 [(0, fk_r g 0), (1, .int v1), (4, .int v4)] [] st (fk_lp2 (B8_row_77) fu v1 v4 st) := by
  induction fu with
  | zero =>
    intro v1 v4 st
    exact j_none hk
  | succ fu ih =>
    exact T8_row_77 hk _ ih
def F8_row (p1 : Int32) (p2 : Int32) (p3 : Int32) (st : fkS) : Option (Int32 × fkS) :=
 fk_bind (F8_within p1 (0 : Int32) (7 : Int32) st) <| fun x1 st2 =>
 if x1 = 0 then
 (fk_bind (F8_no (-1 : Int32) st2) <| fun x3 st4 =>
 some (x3, st4))
 else
 (if 0 ≤ p3 then
 (fk_bind (F8_within p2 (0 : Int32) (3 : Int32) st2) <| fun x5 st6 =>
 if x5 = 0 then
 (fk_bind (F8_no (-6 : Int32) st6) <| fun x7 st8 =>
 some (x7, st8))
 else
 (if p3 ≤ (160 : Int32) then
 (fk_chk (fk_in p1 8) <| fk_let (sA st6 6 p1.toNatClampNeg ((100 : Int32) + p2)) <| fun st9 =>
 fk_chk (fk_in p1 8) <| fk_let (sA st9 7 p1.toNatClampNeg p3) <| fun st10 =>
 fk_lp2 (B8_row_77) fk_fuel p1 (0 : Int32) st10)
 else
 (fk_bind (F8_no (-7 : Int32) st6) <| fun x11 st12 =>
 some (x11, st12))))
 else
 (fk_bind (F8_no (-4 : Int32) st2) <| fun x13 st14 =>
 some (x13, st14)))
set_option maxHeartbeats 1000000 in
set_option maxRecDepth 20000 in
theorem C8_row (p1 : Int32) (p2 : Int32) (p3 : Int32) (st : fkS) {g : fkG} (l : Launch) (o : Int32 × fkS) (hF : F8_row p1 p2 p3 st = some o) : fk_C wM yX8_row cX8_row 5 (some (.int)) 1 22 l g [fk_r g 0, .int p1, .int p2, .int p3] st (fk_eI o.1) o.2 := by
  refine fk_begin rfl (Nat.le_of_ble_eq_true rfl) (fun k hk => ?_) o hF
  have hk : fk_ok wM g k RX8 cX8_row 5 (some (.int)) 1 22 := hk
  show fk_J wM g fk_eI k 0 [(0, fk_r g 0), (1, .int p1), (2, .int p2), (3, .int p3)] [] st (F8_row p1 p2 p3 st)
  unfold F8_row
  refine j_iload_n (pc := 0) hk 1 rfl dX8_row_0 ?_
  refine j_iconst (pc := 1) hk dX8_row_1 (v := 0) (by decide) ?_
  refine j_bipush (pc := 2) hk dX8_row_2 (v := 7) (by decide) ?_
  refine j_callSi (pc := 4) hk [.int p1, .int (0 : Int32), .int (7 : Int32)] [] rfl (fun l o hq9 => C8_within p1 (0 : Int32) (7 : Int32) st l o hq9) yv_X8_within ml_8_88 rfl (Nat.le_of_ble_eq_true rfl) (Nat.le_of_ble_eq_true rfl) (Nat.le_of_ble_eq_true rfl) dX8_row_4 (fun x1 st2 => ?_)
  refine j_if_ne (tgt := 16) (pc := 7) hk (by decide) dX8_row_7 (fun _ => ?_) (fun _ => ?_)
  · refine j_aload_n (pc := 10) hk 0 rfl ⟨_, rfl⟩ dX8_row_10 ?_
    refine j_iconst (pc := 11) hk dX8_row_11 (v := -1) (by decide) ?_
    refine j_callVi (pc := 12) hk [.int (-1 : Int32)] [] rfl (fun l o hq9 => C8_no (-1 : Int32) st2 l o hq9) (rcv_8 (rfl)) yv_X8_no ml_8_81 rfl (Nat.le_of_ble_eq_true rfl) (Nat.le_of_ble_eq_true rfl) (Nat.le_of_ble_eq_true rfl) dX8_row_12 (fun x3 st4 => ?_)
    exact j_iret (pc := 15) hk dX8_row_15
  · refine j_iload_n (pc := 16) hk 3 rfl dX8_row_16 ?_
    refine j_if_ge (tgt := 27) (pc := 17) hk (by decide) dX8_row_17 (fun _ => ?_) (fun _ => ?_)
    · refine j_iload_n (pc := 27) hk 2 rfl dX8_row_27 ?_
      refine j_iconst (pc := 28) hk dX8_row_28 (v := 0) (by decide) ?_
      refine j_iconst (pc := 29) hk dX8_row_29 (v := 3) (by decide) ?_
      refine j_callSi (pc := 30) hk [.int p2, .int (0 : Int32), .int (3 : Int32)] [] rfl (fun l o hq9 => C8_within p2 (0 : Int32) (3 : Int32) st2 l o hq9) yv_X8_within ml_8_88 rfl (Nat.le_of_ble_eq_true rfl) (Nat.le_of_ble_eq_true rfl) (Nat.le_of_ble_eq_true rfl) dX8_row_30 (fun x5 st6 => ?_)
      refine j_if_ne (tgt := 43) (pc := 33) hk (by decide) dX8_row_33 (fun _ => ?_) (fun _ => ?_)
      · refine j_aload_n (pc := 36) hk 0 rfl ⟨_, rfl⟩ dX8_row_36 ?_
        refine j_bipush (pc := 37) hk dX8_row_37 (v := -6) (by decide) ?_
        refine j_callVi (pc := 39) hk [.int (-6 : Int32)] [] rfl (fun l o hq9 => C8_no (-6 : Int32) st6 l o hq9) (rcv_8 (rfl)) yv_X8_no ml_8_81 rfl (Nat.le_of_ble_eq_true rfl) (Nat.le_of_ble_eq_true rfl) (Nat.le_of_ble_eq_true rfl) dX8_row_39 (fun x7 st8 => ?_)
        exact j_iret (pc := 42) hk dX8_row_42
      · refine j_iload_n (pc := 43) hk 3 rfl dX8_row_43 ?_
        refine j_sipush (pc := 44) hk dX8_row_44 (v := 160) (by decide) ?_
        refine j_icmp_le (tgt := 57) (pc := 47) hk (by decide) dX8_row_47 (fun _ => ?_) (fun _ => ?_)
        · refine j_aload_n (pc := 57) hk 0 rfl ⟨_, rfl⟩ dX8_row_57 ?_
          refine f_8_25 (pc := 58) hk (rfl) dX8_row_58 ?_
          refine j_iload_n (pc := 61) hk 1 rfl dX8_row_61 ?_
          refine j_bipush (pc := 62) hk dX8_row_62 (v := 100) (by decide) ?_
          refine j_iload_n (pc := 64) hk 2 rfl dX8_row_64 ?_
          refine j_iadd (pc := 65) hk dX8_row_65 ?_
          refine a_istore (pc := 66) hk (isI_8_9) dX8_row_66 (fun st9 => ?_)
          refine j_aload_n (pc := 67) hk 0 rfl ⟨_, rfl⟩ dX8_row_67 ?_
          refine f_8_28 (pc := 68) hk (rfl) dX8_row_68 ?_
          refine j_iload_n (pc := 71) hk 1 rfl dX8_row_71 ?_
          refine j_iload_n (pc := 72) hk 3 rfl dX8_row_72 ?_
          refine a_istore (pc := 73) hk (isI_8_10) dX8_row_73 (fun st10 => ?_)
          refine j_iconst (pc := 74) hk dX8_row_74 (v := 0) (by decide) ?_
          refine j_istore (lv' := ((4, .int (0 : Int32)) :: [(0, fk_r g 0), (1, .int p1), (2, .int p2), (3, .int p3)])) (pc := 75) hk (by decide) rfl dX8_row_75 ?_
          refine j_sub hk (lv' := [(0, fk_r g 0), (1, .int p1), (2, .int p2), (3, .int p3), (4, .int (0 : Int32))]) [1, 2, 3, 4, 0] rfl ?_
          exact j_sub hk [0, 1, 4] rfl (L8_row_77 hk fk_fuel p1 (0 : Int32) st10)
        · refine j_aload_n (pc := 50) hk 0 rfl ⟨_, rfl⟩ dX8_row_50 ?_
          refine j_bipush (pc := 51) hk dX8_row_51 (v := -7) (by decide) ?_
          refine j_callVi (pc := 53) hk [.int (-7 : Int32)] [] rfl (fun l o hq9 => C8_no (-7 : Int32) st6 l o hq9) (rcv_8 (rfl)) yv_X8_no ml_8_81 rfl (Nat.le_of_ble_eq_true rfl) (Nat.le_of_ble_eq_true rfl) (Nat.le_of_ble_eq_true rfl) dX8_row_53 (fun x11 st12 => ?_)
          exact j_iret (pc := 56) hk dX8_row_56
    · refine j_aload_n (pc := 20) hk 0 rfl ⟨_, rfl⟩ dX8_row_20 ?_
      refine j_bipush (pc := 21) hk dX8_row_21 (v := -4) (by decide) ?_
      refine j_callVi (pc := 23) hk [.int (-4 : Int32)] [] rfl (fun l o hq9 => C8_no (-4 : Int32) st2 l o hq9) (rcv_8 (rfl)) yv_X8_no ml_8_81 rfl (Nat.le_of_ble_eq_true rfl) (Nat.le_of_ble_eq_true rfl) (Nat.le_of_ble_eq_true rfl) dX8_row_23 (fun x13 st14 => ?_)
      exact j_iret (pc := 26) hk dX8_row_26
theorem dX8_noRow_0 : decode cX8_noRow 0 = .ok (.iload_n 1, 1) := by decide +kernel
theorem dX8_noRow_1 : decode cX8_noRow 1 = .ok (.iconst 0, 1) := by decide +kernel
theorem dX8_noRow_2 : decode cX8_noRow 2 = .ok (.bipush 7, 2) := by decide +kernel
theorem dX8_noRow_4 : decode cX8_noRow 4 = .ok (.invokestatic 88, 3) := by decide +kernel
theorem dX8_noRow_7 : decode cX8_noRow 7 = .ok (.ifCond .ne 5, 3) := by decide +kernel
theorem dX8_noRow_10 : decode cX8_noRow 10 = .ok (.iconst (-1), 1) := by decide +kernel
theorem dX8_noRow_11 : decode cX8_noRow 11 = .ok (.ireturn, 1) := by decide +kernel
theorem dX8_noRow_12 : decode cX8_noRow 12 = .ok (.aload_n 0, 1) := by decide +kernel
theorem dX8_noRow_13 : decode cX8_noRow 13 = .ok (.getfield 25, 3) := by decide +kernel
theorem dX8_noRow_16 : decode cX8_noRow 16 = .ok (.iload_n 1, 1) := by decide +kernel
theorem dX8_noRow_17 : decode cX8_noRow 17 = .ok (.iaload, 1) := by decide +kernel
theorem dX8_noRow_18 : decode cX8_noRow 18 = .ok (.ifCond .lt 14, 3) := by decide +kernel
theorem dX8_noRow_21 : decode cX8_noRow 21 = .ok (.aload_n 0, 1) := by decide +kernel
theorem dX8_noRow_22 : decode cX8_noRow 22 = .ok (.iload_n 1, 1) := by decide +kernel
theorem dX8_noRow_23 : decode cX8_noRow 23 = .ok (.invokevirtual 92, 3) := by decide +kernel
theorem dX8_noRow_26 : decode cX8_noRow 26 = .ok (.ifCond .ne 6, 3) := by decide +kernel
theorem dX8_noRow_29 : decode cX8_noRow 29 = .ok (.bipush (-2), 2) := by decide +kernel
theorem dX8_noRow_31 : decode cX8_noRow 31 = .ok (.ireturn, 1) := by decide +kernel
theorem dX8_noRow_32 : decode cX8_noRow 32 = .ok (.aload_n 0, 1) := by decide +kernel
theorem dX8_noRow_33 : decode cX8_noRow 33 = .ok (.getfield 25, 3) := by decide +kernel
theorem dX8_noRow_36 : decode cX8_noRow 36 = .ok (.iload_n 1, 1) := by decide +kernel
theorem dX8_noRow_37 : decode cX8_noRow 37 = .ok (.iaload, 1) := by decide +kernel
theorem dX8_noRow_38 : decode cX8_noRow 38 = .ok (.ifCond .ge 8, 3) := by decide +kernel
theorem dX8_noRow_41 : decode cX8_noRow 41 = .ok (.bipush (-3), 2) := by decide +kernel
theorem dX8_noRow_43 : decode cX8_noRow 43 = .ok (.goto 4, 3) := by decide +kernel
theorem dX8_noRow_46 : decode cX8_noRow 46 = .ok (.iconst 0, 1) := by decide +kernel
theorem dX8_noRow_47 : decode cX8_noRow 47 = .ok (.ireturn, 1) := by decide +kernel
def B8_noRow_32 (v1 : Int32) (st : fkS) : Option (Int32 × fkS) :=
 fk_chk (fk_in v1 8) <| fk_let (gA st 6 v1.toNatClampNeg) <| fun x6 =>
 if 0 ≤ x6 then
 (some ((0 : Int32), st))
 else
 (some ((-3 : Int32), st))
set_option maxHeartbeats 1000000 in
set_option maxRecDepth 20000 in
theorem T8_noRow_32 {g : fkG} {k : fkK} (hk : fk_ok wM g k RX8 cX8_noRow 2 (some (.int)) 1 22) : ∀ (v1 : Int32) (st : fkS), fk_J wM g fk_eI k 32 [(0, fk_r g 0), (1, .int v1)] [] st (B8_noRow_32 v1 st) := by
  intro v1 st
  unfold B8_noRow_32
  refine j_aload_n (pc := 32) hk 0 rfl ⟨_, rfl⟩ dX8_noRow_32 ?_
  refine f_8_25 (pc := 33) hk (rfl) dX8_noRow_33 ?_
  refine j_iload_n (pc := 36) hk 1 rfl dX8_noRow_36 ?_
  refine a_iload (pc := 37) hk (isI_8_9) dX8_noRow_37 (fun x6 => ?_)
  refine j_if_ge (tgt := 46) (pc := 38) hk (by decide) dX8_noRow_38 (fun _ => ?_) (fun _ => ?_)
  · refine j_iconst (pc := 46) hk dX8_noRow_46 (v := 0) (by decide) ?_
    exact j_iret (pc := 47) hk dX8_noRow_47
  · refine j_bipush (pc := 41) hk dX8_noRow_41 (v := -3) (by decide) ?_
    refine j_goto (tgt := 47) (pc := 43) hk (by decide) dX8_noRow_43 ?_
    exact j_iret (pc := 47) hk dX8_noRow_47
def F8_noRow (p1 : Int32) (st : fkS) : Option (Int32 × fkS) :=
 fk_bind (F8_within p1 (0 : Int32) (7 : Int32) st) <| fun x1 st2 =>
 if x1 = 0 then
 (some ((-1 : Int32), st2))
 else
 (fk_chk (fk_in p1 8) <| fk_let (gA st2 6 p1.toNatClampNeg) <| fun x3 =>
 if x3 < 0 then
 (B8_noRow_32 p1 st2)
 else
 (fk_bind (F8_isRow p1 st2) <| fun x4 st5 =>
 if x4 = 0 then
 (some ((-2 : Int32), st5))
 else
 (B8_noRow_32 p1 st5)))
set_option maxHeartbeats 1000000 in
set_option maxRecDepth 20000 in
theorem C8_noRow (p1 : Int32) (st : fkS) {g : fkG} (l : Launch) (o : Int32 × fkS) (hF : F8_noRow p1 st = some o) : fk_C wM yX8_noRow cX8_noRow 2 (some (.int)) 1 22 l g [fk_r g 0, .int p1] st (fk_eI o.1) o.2 := by
  refine fk_begin rfl (Nat.le_of_ble_eq_true rfl) (fun k hk => ?_) o hF
  have hk : fk_ok wM g k RX8 cX8_noRow 2 (some (.int)) 1 22 := hk
  show fk_J wM g fk_eI k 0 [(0, fk_r g 0), (1, .int p1)] [] st (F8_noRow p1 st)
  unfold F8_noRow
  refine j_iload_n (pc := 0) hk 1 rfl dX8_noRow_0 ?_
  refine j_iconst (pc := 1) hk dX8_noRow_1 (v := 0) (by decide) ?_
  refine j_bipush (pc := 2) hk dX8_noRow_2 (v := 7) (by decide) ?_
  refine j_callSi (pc := 4) hk [.int p1, .int (0 : Int32), .int (7 : Int32)] [] rfl (fun l o hq9 => C8_within p1 (0 : Int32) (7 : Int32) st l o hq9) yv_X8_within ml_8_88 rfl (Nat.le_of_ble_eq_true rfl) (Nat.le_of_ble_eq_true rfl) (Nat.le_of_ble_eq_true rfl) dX8_noRow_4 (fun x1 st2 => ?_)
  refine j_if_ne (tgt := 12) (pc := 7) hk (by decide) dX8_noRow_7 (fun _ => ?_) (fun _ => ?_)
  · refine j_iconst (pc := 10) hk dX8_noRow_10 (v := -1) (by decide) ?_
    exact j_iret (pc := 11) hk dX8_noRow_11
  · refine j_aload_n (pc := 12) hk 0 rfl ⟨_, rfl⟩ dX8_noRow_12 ?_
    refine f_8_25 (pc := 13) hk (rfl) dX8_noRow_13 ?_
    refine j_iload_n (pc := 16) hk 1 rfl dX8_noRow_16 ?_
    refine a_iload (pc := 17) hk (isI_8_9) dX8_noRow_17 (fun x3 => ?_)
    refine j_if_lt (tgt := 32) (pc := 18) hk (by decide) dX8_noRow_18 (fun _ => ?_) (fun _ => ?_)
    · exact j_sub hk [0, 1] rfl (T8_noRow_32 hk p1 st2)
    · refine j_aload_n (pc := 21) hk 0 rfl ⟨_, rfl⟩ dX8_noRow_21 ?_
      refine j_iload_n (pc := 22) hk 1 rfl dX8_noRow_22 ?_
      refine j_callVi (pc := 23) hk [.int p1] [] rfl (fun l o hq9 => C8_isRow p1 st2 l o hq9) (rcv_8 (rfl)) yv_X8_isRow ml_8_92 rfl (Nat.le_of_ble_eq_true rfl) (Nat.le_of_ble_eq_true rfl) (Nat.le_of_ble_eq_true rfl) dX8_noRow_23 (fun x4 st5 => ?_)
      refine j_if_ne (tgt := 32) (pc := 26) hk (by decide) dX8_noRow_26 (fun _ => ?_) (fun _ => ?_)
      · refine j_bipush (pc := 29) hk dX8_noRow_29 (v := -2) (by decide) ?_
        exact j_iret (pc := 31) hk dX8_noRow_31
      · exact j_sub hk [0, 1] rfl (T8_noRow_32 hk p1 st5)
theorem dX8_set_0 : decode cX8_set 0 = .ok (.aload_n 0, 1) := by decide +kernel
theorem dX8_set_1 : decode cX8_set 1 = .ok (.iload_n 1, 1) := by decide +kernel
theorem dX8_set_2 : decode cX8_set 2 = .ok (.invokevirtual 96, 3) := by decide +kernel
theorem dX8_set_5 : decode cX8_set 5 = .ok (.istore 5, 2) := by decide +kernel
theorem dX8_set_7 : decode cX8_set 7 = .ok (.iload 5, 2) := by decide +kernel
theorem dX8_set_9 : decode cX8_set 9 = .ok (.ifCond .ge 10, 3) := by decide +kernel
theorem dX8_set_12 : decode cX8_set 12 = .ok (.aload_n 0, 1) := by decide +kernel
theorem dX8_set_13 : decode cX8_set 13 = .ok (.iload 5, 2) := by decide +kernel
theorem dX8_set_15 : decode cX8_set 15 = .ok (.invokevirtual 81, 3) := by decide +kernel
theorem dX8_set_18 : decode cX8_set 18 = .ok (.ireturn, 1) := by decide +kernel
theorem dX8_set_19 : decode cX8_set 19 = .ok (.iload_n 2, 1) := by decide +kernel
theorem dX8_set_20 : decode cX8_set 20 = .ok (.iconst 0, 1) := by decide +kernel
theorem dX8_set_21 : decode cX8_set 21 = .ok (.aload_n 0, 1) := by decide +kernel
theorem dX8_set_22 : decode cX8_set 22 = .ok (.getfield 28, 3) := by decide +kernel
theorem dX8_set_25 : decode cX8_set 25 = .ok (.iload_n 1, 1) := by decide +kernel
theorem dX8_set_26 : decode cX8_set 26 = .ok (.iaload, 1) := by decide +kernel
theorem dX8_set_27 : decode cX8_set 27 = .ok (.iconst 1, 1) := by decide +kernel
theorem dX8_set_28 : decode cX8_set 28 = .ok (.isub, 1) := by decide +kernel
theorem dX8_set_29 : decode cX8_set 29 = .ok (.invokestatic 88, 3) := by decide +kernel
theorem dX8_set_32 : decode cX8_set 32 = .ok (.ifCond .ne 10, 3) := by decide +kernel
theorem dX8_set_35 : decode cX8_set 35 = .ok (.aload_n 0, 1) := by decide +kernel
theorem dX8_set_36 : decode cX8_set 36 = .ok (.bipush (-5), 2) := by decide +kernel
theorem dX8_set_38 : decode cX8_set 38 = .ok (.invokevirtual 81, 3) := by decide +kernel
theorem dX8_set_41 : decode cX8_set 41 = .ok (.ireturn, 1) := by decide +kernel
theorem dX8_set_42 : decode cX8_set 42 = .ok (.aload_n 0, 1) := by decide +kernel
theorem dX8_set_43 : decode cX8_set 43 = .ok (.getfield 25, 3) := by decide +kernel
theorem dX8_set_46 : decode cX8_set 46 = .ok (.iload_n 1, 1) := by decide +kernel
theorem dX8_set_47 : decode cX8_set 47 = .ok (.iaload, 1) := by decide +kernel
theorem dX8_set_48 : decode cX8_set 48 = .ok (.bipush 100, 2) := by decide +kernel
theorem dX8_set_50 : decode cX8_set 50 = .ok (.isub, 1) := by decide +kernel
theorem dX8_set_51 : decode cX8_set 51 = .ok (.istore 6, 2) := by decide +kernel
theorem dX8_set_53 : decode cX8_set 53 = .ok (.aload_n 0, 1) := by decide +kernel
theorem dX8_set_54 : decode cX8_set 54 = .ok (.getfield 31, 3) := by decide +kernel
theorem dX8_set_57 : decode cX8_set 57 = .ok (.sipush 160, 3) := by decide +kernel
theorem dX8_set_60 : decode cX8_set 60 = .ok (.iload_n 1, 1) := by decide +kernel
theorem dX8_set_61 : decode cX8_set 61 = .ok (.imul, 1) := by decide +kernel
theorem dX8_set_62 : decode cX8_set 62 = .ok (.iload_n 2, 1) := by decide +kernel
theorem dX8_set_63 : decode cX8_set 63 = .ok (.iadd, 1) := by decide +kernel
theorem dX8_set_64 : decode cX8_set 64 = .ok (.iload 6, 2) := by decide +kernel
theorem dX8_set_66 : decode cX8_set 66 = .ok (.ifCond .ne 10, 3) := by decide +kernel
theorem dX8_set_69 : decode cX8_set 69 = .ok (.lload_n 3, 1) := by decide +kernel
theorem dX8_set_70 : decode cX8_set 70 = .ok (.l2i, 1) := by decide +kernel
theorem dX8_set_71 : decode cX8_set 71 = .ok (.i2b, 1) := by decide +kernel
theorem dX8_set_72 : decode cX8_set 72 = .ok (.i2l, 1) := by decide +kernel
theorem dX8_set_73 : decode cX8_set 73 = .ok (.goto 29, 3) := by decide +kernel
theorem dX8_set_76 : decode cX8_set 76 = .ok (.iload 6, 2) := by decide +kernel
theorem dX8_set_78 : decode cX8_set 78 = .ok (.iconst 1, 1) := by decide +kernel
theorem dX8_set_79 : decode cX8_set 79 = .ok (.if_icmp .ne 10, 3) := by decide +kernel
theorem dX8_set_82 : decode cX8_set 82 = .ok (.lload_n 3, 1) := by decide +kernel
theorem dX8_set_83 : decode cX8_set 83 = .ok (.l2i, 1) := by decide +kernel
theorem dX8_set_84 : decode cX8_set 84 = .ok (.i2s, 1) := by decide +kernel
theorem dX8_set_85 : decode cX8_set 85 = .ok (.i2l, 1) := by decide +kernel
theorem dX8_set_86 : decode cX8_set 86 = .ok (.goto 16, 3) := by decide +kernel
theorem dX8_set_89 : decode cX8_set 89 = .ok (.iload 6, 2) := by decide +kernel
theorem dX8_set_91 : decode cX8_set 91 = .ok (.iconst 2, 1) := by decide +kernel
theorem dX8_set_92 : decode cX8_set 92 = .ok (.if_icmp .ne 9, 3) := by decide +kernel
theorem dX8_set_95 : decode cX8_set 95 = .ok (.lload_n 3, 1) := by decide +kernel
theorem dX8_set_96 : decode cX8_set 96 = .ok (.l2i, 1) := by decide +kernel
theorem dX8_set_97 : decode cX8_set 97 = .ok (.i2l, 1) := by decide +kernel
theorem dX8_set_98 : decode cX8_set 98 = .ok (.goto 4, 3) := by decide +kernel
theorem dX8_set_101 : decode cX8_set 101 = .ok (.lload_n 3, 1) := by decide +kernel
theorem dX8_set_102 : decode cX8_set 102 = .ok (.lastore, 1) := by decide +kernel
theorem dX8_set_103 : decode cX8_set 103 = .ok (.iconst 1, 1) := by decide +kernel
theorem dX8_set_104 : decode cX8_set 104 = .ok (.ireturn, 1) := by decide +kernel
def B8_set_102 (s1 : Int32) (s2 : Int64) (st : fkS) : Option (Int32 × fkS) :=
 fk_chk (fk_in s1 1280) <| fk_let (sL st 8 s1.toNatClampNeg s2) <| fun st11 =>
 some ((1 : Int32), st11)
set_option maxHeartbeats 1000000 in
set_option maxRecDepth 20000 in
theorem T8_set_102 {g : fkG} {k : fkK} (hk : fk_ok wM g k RX8 cX8_set 7 (some (.int)) 2 43) : ∀ (s1 : Int32) (s2 : Int64) (st : fkS), fk_J wM g fk_eI k 102 [] [.long s2, .int s1, fk_r g 8] st (B8_set_102 s1 s2 st) := by
  intro s1 s2 st
  unfold B8_set_102
  refine a_lstore (pc := 102) hk (isL_8_11) dX8_set_102 (fun st11 => ?_)
  refine j_iconst (pc := 103) hk dX8_set_103 (v := 1) (by decide) ?_
  exact j_iret (pc := 104) hk dX8_set_104
def F8_set (p1 : Int32) (p2 : Int32) (p3 : Int64) (st : fkS) : Option (Int32 × fkS) :=
 fk_bind (F8_noRow p1 st) <| fun x1 st2 =>
 if 0 ≤ x1 then
 (fk_chk (fk_in p1 8) <| fk_let (gA st2 7 p1.toNatClampNeg) <| fun x3 =>
 fk_bind (F8_within p2 (0 : Int32) (x3 - (1 : Int32)) st2) <| fun x4 st5 =>
 if x4 = 0 then
 (fk_bind (F8_no (-5 : Int32) st5) <| fun x6 st7 =>
 some (x6, st7))
 else
 (fk_chk (fk_in p1 8) <| fk_let (gA st5 6 p1.toNatClampNeg) <| fun x8 =>
 if (x8 - (100 : Int32)) = 0 then
 (B8_set_102 (((160 : Int32) * p1) + p2) p3.toInt32.toInt8.toInt32.toInt64 st5)
 else
 (if (x8 - (100 : Int32)) = (1 : Int32) then
 (B8_set_102 (((160 : Int32) * p1) + p2) p3.toInt32.toInt16.toInt32.toInt64 st5)
 else
 (if (x8 - (100 : Int32)) = (2 : Int32) then
 (B8_set_102 (((160 : Int32) * p1) + p2) p3.toInt32.toInt64 st5)
 else
 (B8_set_102 (((160 : Int32) * p1) + p2) p3 st5)))))
 else
 (fk_bind (F8_no x1 st2) <| fun x9 st10 =>
 some (x9, st10))
set_option maxHeartbeats 1000000 in
set_option maxRecDepth 20000 in
theorem C8_set (p1 : Int32) (p2 : Int32) (p3 : Int64) (st : fkS) {g : fkG} (l : Launch) (o : Int32 × fkS) (hF : F8_set p1 p2 p3 st = some o) : fk_C wM yX8_set cX8_set 7 (some (.int)) 2 43 l g [fk_r g 0, .int p1, .int p2, .long p3] st (fk_eI o.1) o.2 := by
  refine fk_begin rfl (Nat.le_of_ble_eq_true rfl) (fun k hk => ?_) o hF
  have hk : fk_ok wM g k RX8 cX8_set 7 (some (.int)) 2 43 := hk
  show fk_J wM g fk_eI k 0 [(0, fk_r g 0), (1, .int p1), (2, .int p2), (3, .long p3)] [] st (F8_set p1 p2 p3 st)
  unfold F8_set
  refine j_aload_n (pc := 0) hk 0 rfl ⟨_, rfl⟩ dX8_set_0 ?_
  refine j_iload_n (pc := 1) hk 1 rfl dX8_set_1 ?_
  refine j_callVi (pc := 2) hk [.int p1] [] rfl (fun l o hq9 => C8_noRow p1 st l o hq9) (rcv_8 (rfl)) yv_X8_noRow ml_8_96 rfl (Nat.le_of_ble_eq_true rfl) (Nat.le_of_ble_eq_true rfl) (Nat.le_of_ble_eq_true rfl) dX8_set_2 (fun x1 st2 => ?_)
  refine j_istore (lv' := ((5, .int x1) :: [(0, fk_r g 0), (1, .int p1), (2, .int p2), (3, .long p3)])) (pc := 5) hk (by decide) rfl dX8_set_5 ?_
  refine j_sub hk (lv' := [(0, fk_r g 0), (1, .int p1), (2, .int p2), (3, .long p3), (5, .int x1)]) [1, 2, 3, 4, 0] rfl ?_
  refine j_iload (pc := 7) hk 4 rfl dX8_set_7 ?_
  refine j_if_ge (tgt := 19) (pc := 9) hk (by decide) dX8_set_9 (fun _ => ?_) (fun _ => ?_)
  · refine j_iload_n (pc := 19) hk 2 rfl dX8_set_19 ?_
    refine j_iconst (pc := 20) hk dX8_set_20 (v := 0) (by decide) ?_
    refine j_aload_n (pc := 21) hk 0 rfl ⟨_, rfl⟩ dX8_set_21 ?_
    refine f_8_28 (pc := 22) hk (rfl) dX8_set_22 ?_
    refine j_iload_n (pc := 25) hk 1 rfl dX8_set_25 ?_
    refine a_iload (pc := 26) hk (isI_8_10) dX8_set_26 (fun x3 => ?_)
    refine j_iconst (pc := 27) hk dX8_set_27 (v := 1) (by decide) ?_
    refine j_isub (pc := 28) hk dX8_set_28 ?_
    refine j_callSi (pc := 29) hk [.int p2, .int (0 : Int32), .int (x3 - (1 : Int32))] [] rfl (fun l o hq9 => C8_within p2 (0 : Int32) (x3 - (1 : Int32)) st2 l o hq9) yv_X8_within ml_8_88 rfl (Nat.le_of_ble_eq_true rfl) (Nat.le_of_ble_eq_true rfl) (Nat.le_of_ble_eq_true rfl) dX8_set_29 (fun x4 st5 => ?_)
    refine j_if_ne (tgt := 42) (pc := 32) hk (by decide) dX8_set_32 (fun _ => ?_) (fun _ => ?_)
    · refine j_aload_n (pc := 35) hk 0 rfl ⟨_, rfl⟩ dX8_set_35 ?_
      refine j_bipush (pc := 36) hk dX8_set_36 (v := -5) (by decide) ?_
      refine j_callVi (pc := 38) hk [.int (-5 : Int32)] [] rfl (fun l o hq9 => C8_no (-5 : Int32) st5 l o hq9) (rcv_8 (rfl)) yv_X8_no ml_8_81 rfl (Nat.le_of_ble_eq_true rfl) (Nat.le_of_ble_eq_true rfl) (Nat.le_of_ble_eq_true rfl) dX8_set_38 (fun x6 st7 => ?_)
      exact j_iret (pc := 41) hk dX8_set_41
    · refine j_aload_n (pc := 42) hk 0 rfl ⟨_, rfl⟩ dX8_set_42 ?_
      refine f_8_25 (pc := 43) hk (rfl) dX8_set_43 ?_
      refine j_iload_n (pc := 46) hk 1 rfl dX8_set_46 ?_
      refine a_iload (pc := 47) hk (isI_8_9) dX8_set_47 (fun x8 => ?_)
      refine j_bipush (pc := 48) hk dX8_set_48 (v := 100) (by decide) ?_
      refine j_isub (pc := 50) hk dX8_set_50 ?_
      refine j_istore (lv' := ((6, .int (x8 - (100 : Int32))) :: [(0, fk_r g 0), (1, .int p1), (2, .int p2), (3, .long p3), (5, .int x1)])) (pc := 51) hk (by decide) rfl dX8_set_51 ?_
      refine j_sub hk (lv' := [(0, fk_r g 0), (1, .int p1), (2, .int p2), (3, .long p3), (5, .int x1), (6, .int (x8 - (100 : Int32)))]) [1, 2, 3, 4, 5, 0] rfl ?_
      refine j_aload_n (pc := 53) hk 0 rfl ⟨_, rfl⟩ dX8_set_53 ?_
      refine f_8_31 (pc := 54) hk (rfl) dX8_set_54 ?_
      refine j_sipush (pc := 57) hk dX8_set_57 (v := 160) (by decide) ?_
      refine j_iload_n (pc := 60) hk 1 rfl dX8_set_60 ?_
      refine j_imul (pc := 61) hk dX8_set_61 ?_
      refine j_iload_n (pc := 62) hk 2 rfl dX8_set_62 ?_
      refine j_iadd (pc := 63) hk dX8_set_63 ?_
      refine j_iload (pc := 64) hk 5 rfl dX8_set_64 ?_
      refine j_if_ne (tgt := 76) (pc := 66) hk (by decide) dX8_set_66 (fun _ => ?_) (fun _ => ?_)
      · refine j_lload_n (pc := 69) hk 3 rfl dX8_set_69 ?_
        refine j_l2i (pc := 70) hk dX8_set_70 ?_
        refine j_i2b (pc := 71) hk dX8_set_71 ?_
        refine j_i2l (pc := 72) hk dX8_set_72 ?_
        refine j_goto (tgt := 102) (pc := 73) hk (by decide) dX8_set_73 ?_
        exact j_sub hk [] rfl (T8_set_102 hk (((160 : Int32) * p1) + p2) p3.toInt32.toInt8.toInt32.toInt64 st5)
      · refine j_iload (pc := 76) hk 5 rfl dX8_set_76 ?_
        refine j_iconst (pc := 78) hk dX8_set_78 (v := 1) (by decide) ?_
        refine j_icmp_ne (tgt := 89) (pc := 79) hk (by decide) dX8_set_79 (fun _ => ?_) (fun _ => ?_)
        · refine j_lload_n (pc := 82) hk 3 rfl dX8_set_82 ?_
          refine j_l2i (pc := 83) hk dX8_set_83 ?_
          refine j_i2s (pc := 84) hk dX8_set_84 ?_
          refine j_i2l (pc := 85) hk dX8_set_85 ?_
          refine j_goto (tgt := 102) (pc := 86) hk (by decide) dX8_set_86 ?_
          exact j_sub hk [] rfl (T8_set_102 hk (((160 : Int32) * p1) + p2) p3.toInt32.toInt16.toInt32.toInt64 st5)
        · refine j_iload (pc := 89) hk 5 rfl dX8_set_89 ?_
          refine j_iconst (pc := 91) hk dX8_set_91 (v := 2) (by decide) ?_
          refine j_icmp_ne (tgt := 101) (pc := 92) hk (by decide) dX8_set_92 (fun _ => ?_) (fun _ => ?_)
          · refine j_lload_n (pc := 95) hk 3 rfl dX8_set_95 ?_
            refine j_l2i (pc := 96) hk dX8_set_96 ?_
            refine j_i2l (pc := 97) hk dX8_set_97 ?_
            refine j_goto (tgt := 102) (pc := 98) hk (by decide) dX8_set_98 ?_
            exact j_sub hk [] rfl (T8_set_102 hk (((160 : Int32) * p1) + p2) p3.toInt32.toInt64 st5)
          · refine j_lload_n (pc := 101) hk 3 rfl dX8_set_101 ?_
            exact j_sub hk [] rfl (T8_set_102 hk (((160 : Int32) * p1) + p2) p3 st5)
  · refine j_aload_n (pc := 12) hk 0 rfl ⟨_, rfl⟩ dX8_set_12 ?_
    refine j_iload (pc := 13) hk 4 rfl dX8_set_13 ?_
    refine j_callVi (pc := 15) hk [.int x1] [] rfl (fun l o hq9 => C8_no x1 st2 l o hq9) (rcv_8 (rfl)) yv_X8_no ml_8_81 rfl (Nat.le_of_ble_eq_true rfl) (Nat.le_of_ble_eq_true rfl) (Nat.le_of_ble_eq_true rfl) dX8_set_15 (fun x9 st10 => ?_)
    exact j_iret (pc := 18) hk dX8_set_18
theorem dX8_copy_0 : decode cX8_copy 0 = .ok (.iload_n 1, 1) := by decide +kernel
theorem dX8_copy_1 : decode cX8_copy 1 = .ok (.iconst 0, 1) := by decide +kernel
theorem dX8_copy_2 : decode cX8_copy 2 = .ok (.bipush 7, 2) := by decide +kernel
theorem dX8_copy_4 : decode cX8_copy 4 = .ok (.invokestatic 88, 3) := by decide +kernel
theorem dX8_copy_7 : decode cX8_copy 7 = .ok (.ifCond .eq 13, 3) := by decide +kernel
theorem dX8_copy_10 : decode cX8_copy 10 = .ok (.iload_n 2, 1) := by decide +kernel
theorem dX8_copy_11 : decode cX8_copy 11 = .ok (.iconst 0, 1) := by decide +kernel
theorem dX8_copy_12 : decode cX8_copy 12 = .ok (.bipush 7, 2) := by decide +kernel
theorem dX8_copy_14 : decode cX8_copy 14 = .ok (.invokestatic 88, 3) := by decide +kernel
theorem dX8_copy_17 : decode cX8_copy 17 = .ok (.ifCond .ne 9, 3) := by decide +kernel
theorem dX8_copy_20 : decode cX8_copy 20 = .ok (.aload_n 0, 1) := by decide +kernel
theorem dX8_copy_21 : decode cX8_copy 21 = .ok (.iconst (-1), 1) := by decide +kernel
theorem dX8_copy_22 : decode cX8_copy 22 = .ok (.invokevirtual 81, 3) := by decide +kernel
theorem dX8_copy_25 : decode cX8_copy 25 = .ok (.ireturn, 1) := by decide +kernel
theorem dX8_copy_26 : decode cX8_copy 26 = .ok (.aload_n 0, 1) := by decide +kernel
theorem dX8_copy_27 : decode cX8_copy 27 = .ok (.getfield 25, 3) := by decide +kernel
theorem dX8_copy_30 : decode cX8_copy 30 = .ok (.iload_n 1, 1) := by decide +kernel
theorem dX8_copy_31 : decode cX8_copy 31 = .ok (.iaload, 1) := by decide +kernel
theorem dX8_copy_32 : decode cX8_copy 32 = .ok (.ifCond .lt 11, 3) := by decide +kernel
theorem dX8_copy_35 : decode cX8_copy 35 = .ok (.aload_n 0, 1) := by decide +kernel
theorem dX8_copy_36 : decode cX8_copy 36 = .ok (.iload_n 1, 1) := by decide +kernel
theorem dX8_copy_37 : decode cX8_copy 37 = .ok (.invokevirtual 92, 3) := by decide +kernel
theorem dX8_copy_40 : decode cX8_copy 40 = .ok (.ifCond .eq 51, 3) := by decide +kernel
theorem dX8_copy_43 : decode cX8_copy 43 = .ok (.aload_n 0, 1) := by decide +kernel
theorem dX8_copy_44 : decode cX8_copy 44 = .ok (.getfield 25, 3) := by decide +kernel
theorem dX8_copy_47 : decode cX8_copy 47 = .ok (.iload_n 2, 1) := by decide +kernel
theorem dX8_copy_48 : decode cX8_copy 48 = .ok (.iaload, 1) := by decide +kernel
theorem dX8_copy_49 : decode cX8_copy 49 = .ok (.ifCond .lt 11, 3) := by decide +kernel
theorem dX8_copy_52 : decode cX8_copy 52 = .ok (.aload_n 0, 1) := by decide +kernel
theorem dX8_copy_53 : decode cX8_copy 53 = .ok (.iload_n 2, 1) := by decide +kernel
theorem dX8_copy_54 : decode cX8_copy 54 = .ok (.invokevirtual 92, 3) := by decide +kernel
theorem dX8_copy_57 : decode cX8_copy 57 = .ok (.ifCond .eq 34, 3) := by decide +kernel
theorem dX8_copy_60 : decode cX8_copy 60 = .ok (.aload_n 0, 1) := by decide +kernel
theorem dX8_copy_61 : decode cX8_copy 61 = .ok (.iload_n 1, 1) := by decide +kernel
theorem dX8_copy_62 : decode cX8_copy 62 = .ok (.invokevirtual 92, 3) := by decide +kernel
theorem dX8_copy_65 : decode cX8_copy 65 = .ok (.ifCond .eq 33, 3) := by decide +kernel
theorem dX8_copy_68 : decode cX8_copy 68 = .ok (.aload_n 0, 1) := by decide +kernel
theorem dX8_copy_69 : decode cX8_copy 69 = .ok (.iload_n 2, 1) := by decide +kernel
theorem dX8_copy_70 : decode cX8_copy 70 = .ok (.invokevirtual 92, 3) := by decide +kernel
theorem dX8_copy_73 : decode cX8_copy 73 = .ok (.ifCond .eq 25, 3) := by decide +kernel
theorem dX8_copy_76 : decode cX8_copy 76 = .ok (.aload_n 0, 1) := by decide +kernel
theorem dX8_copy_77 : decode cX8_copy 77 = .ok (.getfield 25, 3) := by decide +kernel
theorem dX8_copy_80 : decode cX8_copy 80 = .ok (.iload_n 1, 1) := by decide +kernel
theorem dX8_copy_81 : decode cX8_copy 81 = .ok (.iaload, 1) := by decide +kernel
theorem dX8_copy_82 : decode cX8_copy 82 = .ok (.aload_n 0, 1) := by decide +kernel
theorem dX8_copy_83 : decode cX8_copy 83 = .ok (.getfield 25, 3) := by decide +kernel
theorem dX8_copy_86 : decode cX8_copy 86 = .ok (.iload_n 2, 1) := by decide +kernel
theorem dX8_copy_87 : decode cX8_copy 87 = .ok (.iaload, 1) := by decide +kernel
theorem dX8_copy_88 : decode cX8_copy 88 = .ok (.if_icmp .eq 10, 3) := by decide +kernel
theorem dX8_copy_91 : decode cX8_copy 91 = .ok (.aload_n 0, 1) := by decide +kernel
theorem dX8_copy_92 : decode cX8_copy 92 = .ok (.bipush (-2), 2) := by decide +kernel
theorem dX8_copy_94 : decode cX8_copy 94 = .ok (.invokevirtual 81, 3) := by decide +kernel
theorem dX8_copy_97 : decode cX8_copy 97 = .ok (.ireturn, 1) := by decide +kernel
theorem dX8_copy_98 : decode cX8_copy 98 = .ok (.aload_n 0, 1) := by decide +kernel
theorem dX8_copy_99 : decode cX8_copy 99 = .ok (.getfield 25, 3) := by decide +kernel
theorem dX8_copy_102 : decode cX8_copy 102 = .ok (.iload_n 1, 1) := by decide +kernel
theorem dX8_copy_103 : decode cX8_copy 103 = .ok (.iaload, 1) := by decide +kernel
theorem dX8_copy_104 : decode cX8_copy 104 = .ok (.ifCond .lt 12, 3) := by decide +kernel
theorem dX8_copy_107 : decode cX8_copy 107 = .ok (.aload_n 0, 1) := by decide +kernel
theorem dX8_copy_108 : decode cX8_copy 108 = .ok (.getfield 25, 3) := by decide +kernel
theorem dX8_copy_111 : decode cX8_copy 111 = .ok (.iload_n 2, 1) := by decide +kernel
theorem dX8_copy_112 : decode cX8_copy 112 = .ok (.iaload, 1) := by decide +kernel
theorem dX8_copy_113 : decode cX8_copy 113 = .ok (.ifCond .ge 10, 3) := by decide +kernel
theorem dX8_copy_116 : decode cX8_copy 116 = .ok (.aload_n 0, 1) := by decide +kernel
theorem dX8_copy_117 : decode cX8_copy 117 = .ok (.bipush (-3), 2) := by decide +kernel
theorem dX8_copy_119 : decode cX8_copy 119 = .ok (.invokevirtual 81, 3) := by decide +kernel
theorem dX8_copy_122 : decode cX8_copy 122 = .ok (.ireturn, 1) := by decide +kernel
theorem dX8_copy_123 : decode cX8_copy 123 = .ok (.iload 5, 2) := by decide +kernel
theorem dX8_copy_125 : decode cX8_copy 125 = .ok (.ifCond .ge 10, 3) := by decide +kernel
theorem dX8_copy_128 : decode cX8_copy 128 = .ok (.aload_n 0, 1) := by decide +kernel
theorem dX8_copy_129 : decode cX8_copy 129 = .ok (.bipush (-4), 2) := by decide +kernel
theorem dX8_copy_131 : decode cX8_copy 131 = .ok (.invokevirtual 81, 3) := by decide +kernel
theorem dX8_copy_134 : decode cX8_copy 134 = .ok (.ireturn, 1) := by decide +kernel
theorem dX8_copy_135 : decode cX8_copy 135 = .ok (.iload_n 3, 1) := by decide +kernel
theorem dX8_copy_136 : decode cX8_copy 136 = .ok (.ifCond .lt 43, 3) := by decide +kernel
theorem dX8_copy_139 : decode cX8_copy 139 = .ok (.iload 4, 2) := by decide +kernel
theorem dX8_copy_141 : decode cX8_copy 141 = .ok (.ifCond .lt 38, 3) := by decide +kernel
theorem dX8_copy_144 : decode cX8_copy 144 = .ok (.iload_n 3, 1) := by decide +kernel
theorem dX8_copy_145 : decode cX8_copy 145 = .ok (.i2l, 1) := by decide +kernel
theorem dX8_copy_146 : decode cX8_copy 146 = .ok (.iload 5, 2) := by decide +kernel
theorem dX8_copy_148 : decode cX8_copy 148 = .ok (.i2l, 1) := by decide +kernel
theorem dX8_copy_149 : decode cX8_copy 149 = .ok (.ladd, 1) := by decide +kernel
theorem dX8_copy_150 : decode cX8_copy 150 = .ok (.aload_n 0, 1) := by decide +kernel
theorem dX8_copy_151 : decode cX8_copy 151 = .ok (.getfield 28, 3) := by decide +kernel
theorem dX8_copy_154 : decode cX8_copy 154 = .ok (.iload_n 1, 1) := by decide +kernel
theorem dX8_copy_155 : decode cX8_copy 155 = .ok (.iaload, 1) := by decide +kernel
theorem dX8_copy_156 : decode cX8_copy 156 = .ok (.i2l, 1) := by decide +kernel
theorem dX8_copy_157 : decode cX8_copy 157 = .ok (.lcmp, 1) := by decide +kernel
theorem dX8_copy_158 : decode cX8_copy 158 = .ok (.ifCond .gt 21, 3) := by decide +kernel
theorem dX8_copy_161 : decode cX8_copy 161 = .ok (.iload 4, 2) := by decide +kernel
theorem dX8_copy_163 : decode cX8_copy 163 = .ok (.i2l, 1) := by decide +kernel
theorem dX8_copy_164 : decode cX8_copy 164 = .ok (.iload 5, 2) := by decide +kernel
theorem dX8_copy_166 : decode cX8_copy 166 = .ok (.i2l, 1) := by decide +kernel
theorem dX8_copy_167 : decode cX8_copy 167 = .ok (.ladd, 1) := by decide +kernel
theorem dX8_copy_168 : decode cX8_copy 168 = .ok (.aload_n 0, 1) := by decide +kernel
theorem dX8_copy_169 : decode cX8_copy 169 = .ok (.getfield 28, 3) := by decide +kernel
theorem dX8_copy_172 : decode cX8_copy 172 = .ok (.iload_n 2, 1) := by decide +kernel
theorem dX8_copy_173 : decode cX8_copy 173 = .ok (.iaload, 1) := by decide +kernel
theorem dX8_copy_174 : decode cX8_copy 174 = .ok (.i2l, 1) := by decide +kernel
theorem dX8_copy_175 : decode cX8_copy 175 = .ok (.lcmp, 1) := by decide +kernel
theorem dX8_copy_176 : decode cX8_copy 176 = .ok (.ifCond .le 10, 3) := by decide +kernel
theorem dX8_copy_179 : decode cX8_copy 179 = .ok (.aload_n 0, 1) := by decide +kernel
theorem dX8_copy_180 : decode cX8_copy 180 = .ok (.bipush (-5), 2) := by decide +kernel
theorem dX8_copy_182 : decode cX8_copy 182 = .ok (.invokevirtual 81, 3) := by decide +kernel
theorem dX8_copy_185 : decode cX8_copy 185 = .ok (.ireturn, 1) := by decide +kernel
theorem dX8_copy_186 : decode cX8_copy 186 = .ok (.iload_n 1, 1) := by decide +kernel
theorem dX8_copy_187 : decode cX8_copy 187 = .ok (.iload_n 2, 1) := by decide +kernel
theorem dX8_copy_188 : decode cX8_copy 188 = .ok (.if_icmp .ne 60, 3) := by decide +kernel
theorem dX8_copy_191 : decode cX8_copy 191 = .ok (.iload_n 3, 1) := by decide +kernel
theorem dX8_copy_192 : decode cX8_copy 192 = .ok (.iload 4, 2) := by decide +kernel
theorem dX8_copy_194 : decode cX8_copy 194 = .ok (.if_icmp .ge 54, 3) := by decide +kernel
theorem dX8_copy_197 : decode cX8_copy 197 = .ok (.iload 5, 2) := by decide +kernel
theorem dX8_copy_199 : decode cX8_copy 199 = .ok (.iconst 1, 1) := by decide +kernel
theorem dX8_copy_200 : decode cX8_copy 200 = .ok (.isub, 1) := by decide +kernel
theorem dX8_copy_201 : decode cX8_copy 201 = .ok (.istore 6, 2) := by decide +kernel
theorem dX8_copy_203 : decode cX8_copy 203 = .ok (.iload 6, 2) := by decide +kernel
theorem dX8_copy_205 : decode cX8_copy 205 = .ok (.ifCond .lt 40, 3) := by decide +kernel
theorem dX8_copy_208 : decode cX8_copy 208 = .ok (.aload_n 0, 1) := by decide +kernel
theorem dX8_copy_209 : decode cX8_copy 209 = .ok (.getfield 31, 3) := by decide +kernel
theorem dX8_copy_212 : decode cX8_copy 212 = .ok (.sipush 160, 3) := by decide +kernel
theorem dX8_copy_215 : decode cX8_copy 215 = .ok (.iload_n 2, 1) := by decide +kernel
theorem dX8_copy_216 : decode cX8_copy 216 = .ok (.imul, 1) := by decide +kernel
theorem dX8_copy_217 : decode cX8_copy 217 = .ok (.iload 4, 2) := by decide +kernel
theorem dX8_copy_219 : decode cX8_copy 219 = .ok (.iadd, 1) := by decide +kernel
theorem dX8_copy_220 : decode cX8_copy 220 = .ok (.iload 6, 2) := by decide +kernel
theorem dX8_copy_222 : decode cX8_copy 222 = .ok (.iadd, 1) := by decide +kernel
theorem dX8_copy_223 : decode cX8_copy 223 = .ok (.aload_n 0, 1) := by decide +kernel
theorem dX8_copy_224 : decode cX8_copy 224 = .ok (.getfield 31, 3) := by decide +kernel
theorem dX8_copy_227 : decode cX8_copy 227 = .ok (.sipush 160, 3) := by decide +kernel
theorem dX8_copy_230 : decode cX8_copy 230 = .ok (.iload_n 1, 1) := by decide +kernel
theorem dX8_copy_231 : decode cX8_copy 231 = .ok (.imul, 1) := by decide +kernel
theorem dX8_copy_232 : decode cX8_copy 232 = .ok (.iload_n 3, 1) := by decide +kernel
theorem dX8_copy_233 : decode cX8_copy 233 = .ok (.iadd, 1) := by decide +kernel
theorem dX8_copy_234 : decode cX8_copy 234 = .ok (.iload 6, 2) := by decide +kernel
theorem dX8_copy_236 : decode cX8_copy 236 = .ok (.iadd, 1) := by decide +kernel
theorem dX8_copy_237 : decode cX8_copy 237 = .ok (.laload, 1) := by decide +kernel
theorem dX8_copy_238 : decode cX8_copy 238 = .ok (.lastore, 1) := by decide +kernel
theorem dX8_copy_239 : decode cX8_copy 239 = .ok (.iinc 6 (-1), 3) := by decide +kernel
theorem dX8_copy_242 : decode cX8_copy 242 = .ok (.goto (-39), 3) := by decide +kernel
theorem dX8_copy_245 : decode cX8_copy 245 = .ok (.goto 50, 3) := by decide +kernel
theorem dX8_copy_248 : decode cX8_copy 248 = .ok (.iconst 0, 1) := by decide +kernel
theorem dX8_copy_249 : decode cX8_copy 249 = .ok (.istore 6, 2) := by decide +kernel
theorem dX8_copy_251 : decode cX8_copy 251 = .ok (.iload 6, 2) := by decide +kernel
theorem dX8_copy_253 : decode cX8_copy 253 = .ok (.iload 5, 2) := by decide +kernel
theorem dX8_copy_255 : decode cX8_copy 255 = .ok (.if_icmp .ge 40, 3) := by decide +kernel
theorem dX8_copy_258 : decode cX8_copy 258 = .ok (.aload_n 0, 1) := by decide +kernel
theorem dX8_copy_259 : decode cX8_copy 259 = .ok (.getfield 31, 3) := by decide +kernel
theorem dX8_copy_262 : decode cX8_copy 262 = .ok (.sipush 160, 3) := by decide +kernel
theorem dX8_copy_265 : decode cX8_copy 265 = .ok (.iload_n 2, 1) := by decide +kernel
theorem dX8_copy_266 : decode cX8_copy 266 = .ok (.imul, 1) := by decide +kernel
theorem dX8_copy_267 : decode cX8_copy 267 = .ok (.iload 4, 2) := by decide +kernel
theorem dX8_copy_269 : decode cX8_copy 269 = .ok (.iadd, 1) := by decide +kernel
theorem dX8_copy_270 : decode cX8_copy 270 = .ok (.iload 6, 2) := by decide +kernel
theorem dX8_copy_272 : decode cX8_copy 272 = .ok (.iadd, 1) := by decide +kernel
theorem dX8_copy_273 : decode cX8_copy 273 = .ok (.aload_n 0, 1) := by decide +kernel
theorem dX8_copy_274 : decode cX8_copy 274 = .ok (.getfield 31, 3) := by decide +kernel
theorem dX8_copy_277 : decode cX8_copy 277 = .ok (.sipush 160, 3) := by decide +kernel
theorem dX8_copy_280 : decode cX8_copy 280 = .ok (.iload_n 1, 1) := by decide +kernel
theorem dX8_copy_281 : decode cX8_copy 281 = .ok (.imul, 1) := by decide +kernel
theorem dX8_copy_282 : decode cX8_copy 282 = .ok (.iload_n 3, 1) := by decide +kernel
theorem dX8_copy_283 : decode cX8_copy 283 = .ok (.iadd, 1) := by decide +kernel
theorem dX8_copy_284 : decode cX8_copy 284 = .ok (.iload 6, 2) := by decide +kernel
theorem dX8_copy_286 : decode cX8_copy 286 = .ok (.iadd, 1) := by decide +kernel
theorem dX8_copy_287 : decode cX8_copy 287 = .ok (.laload, 1) := by decide +kernel
theorem dX8_copy_288 : decode cX8_copy 288 = .ok (.lastore, 1) := by decide +kernel
theorem dX8_copy_289 : decode cX8_copy 289 = .ok (.iinc 6 1, 3) := by decide +kernel
theorem dX8_copy_292 : decode cX8_copy 292 = .ok (.goto (-41), 3) := by decide +kernel
theorem dX8_copy_295 : decode cX8_copy 295 = .ok (.iconst 1, 1) := by decide +kernel
theorem dX8_copy_296 : decode cX8_copy 296 = .ok (.ireturn, 1) := by decide +kernel
def B8_copy_20 (st : fkS) : Option (Int32 × fkS) :=
 fk_bind (F8_no (-1 : Int32) st) <| fun x8 st9 =>
 some (x8, st9)
set_option maxHeartbeats 1000000 in
set_option maxRecDepth 20000 in
theorem T8_copy_20 {g : fkG} {k : fkK} (hk : fk_ok wM g k RX8 cX8_copy 7 (some (.int)) 1 22) : ∀ (st : fkS), fk_J wM g fk_eI k 20 [(0, fk_r g 0)] [] st (B8_copy_20 st) := by
  intro st
  unfold B8_copy_20
  refine j_aload_n (pc := 20) hk 0 rfl ⟨_, rfl⟩ dX8_copy_20 ?_
  refine j_iconst (pc := 21) hk dX8_copy_21 (v := -1) (by decide) ?_
  refine j_callVi (pc := 22) hk [.int (-1 : Int32)] [] rfl (fun l o hq9 => C8_no (-1 : Int32) st l o hq9) (rcv_8 (rfl)) yv_X8_no ml_8_81 rfl (Nat.le_of_ble_eq_true rfl) (Nat.le_of_ble_eq_true rfl) (Nat.le_of_ble_eq_true rfl) dX8_copy_22 (fun x8 st9 => ?_)
  exact j_iret (pc := 25) hk dX8_copy_25
def B8_copy_91 (st : fkS) : Option (Int32 × fkS) :=
 fk_bind (F8_no (-2 : Int32) st) <| fun x13 st14 =>
 some (x13, st14)
set_option maxHeartbeats 1000000 in
set_option maxRecDepth 20000 in
theorem T8_copy_91 {g : fkG} {k : fkK} (hk : fk_ok wM g k RX8 cX8_copy 7 (some (.int)) 1 22) : ∀ (st : fkS), fk_J wM g fk_eI k 91 [(0, fk_r g 0)] [] st (B8_copy_91 st) := by
  intro st
  unfold B8_copy_91
  refine j_aload_n (pc := 91) hk 0 rfl ⟨_, rfl⟩ dX8_copy_91 ?_
  refine j_bipush (pc := 92) hk dX8_copy_92 (v := -2) (by decide) ?_
  refine j_callVi (pc := 94) hk [.int (-2 : Int32)] [] rfl (fun l o hq9 => C8_no (-2 : Int32) st l o hq9) (rcv_8 (rfl)) yv_X8_no ml_8_81 rfl (Nat.le_of_ble_eq_true rfl) (Nat.le_of_ble_eq_true rfl) (Nat.le_of_ble_eq_true rfl) dX8_copy_94 (fun x13 st14 => ?_)
  exact j_iret (pc := 97) hk dX8_copy_97
def B8_copy_116 (st : fkS) : Option (Int32 × fkS) :=
 fk_bind (F8_no (-3 : Int32) st) <| fun x27 st28 =>
 some (x27, st28)
set_option maxHeartbeats 1000000 in
set_option maxRecDepth 20000 in
theorem T8_copy_116 {g : fkG} {k : fkK} (hk : fk_ok wM g k RX8 cX8_copy 7 (some (.int)) 1 22) : ∀ (st : fkS), fk_J wM g fk_eI k 116 [(0, fk_r g 0)] [] st (B8_copy_116 st) := by
  intro st
  unfold B8_copy_116
  refine j_aload_n (pc := 116) hk 0 rfl ⟨_, rfl⟩ dX8_copy_116 ?_
  refine j_bipush (pc := 117) hk dX8_copy_117 (v := -3) (by decide) ?_
  refine j_callVi (pc := 119) hk [.int (-3 : Int32)] [] rfl (fun l o hq9 => C8_no (-3 : Int32) st l o hq9) (rcv_8 (rfl)) yv_X8_no ml_8_81 rfl (Nat.le_of_ble_eq_true rfl) (Nat.le_of_ble_eq_true rfl) (Nat.le_of_ble_eq_true rfl) dX8_copy_119 (fun x27 st28 => ?_)
  exact j_iret (pc := 122) hk dX8_copy_122
def B8_copy_179 (st : fkS) : Option (Int32 × fkS) :=
 fk_bind (F8_no (-5 : Int32) st) <| fun x29 st30 =>
 some (x29, st30)
set_option maxHeartbeats 1000000 in
set_option maxRecDepth 20000 in
theorem T8_copy_179 {g : fkG} {k : fkK} (hk : fk_ok wM g k RX8 cX8_copy 7 (some (.int)) 1 22) : ∀ (st : fkS), fk_J wM g fk_eI k 179 [(0, fk_r g 0)] [] st (B8_copy_179 st) := by
  intro st
  unfold B8_copy_179
  refine j_aload_n (pc := 179) hk 0 rfl ⟨_, rfl⟩ dX8_copy_179 ?_
  refine j_bipush (pc := 180) hk dX8_copy_180 (v := -5) (by decide) ?_
  refine j_callVi (pc := 182) hk [.int (-5 : Int32)] [] rfl (fun l o hq9 => C8_no (-5 : Int32) st l o hq9) (rcv_8 (rfl)) yv_X8_no ml_8_81 rfl (Nat.le_of_ble_eq_true rfl) (Nat.le_of_ble_eq_true rfl) (Nat.le_of_ble_eq_true rfl) dX8_copy_182 (fun x29 st30 => ?_)
  exact j_iret (pc := 185) hk dX8_copy_185
def B8_copy_203 (k203 : Int32 → Int32 → Int32 → Int32 → Int32 → fkS → Option (Int32 × fkS)) (v1 : Int32) (v2 : Int32) (v3 : Int32) (v4 : Int32) (v6 : Int32) (st : fkS) : Option (Int32 × fkS) :=
 if v6 < 0 then
 (some ((1 : Int32), st))
 else
 (fk_chk (fk_in ((((160 : Int32) * v1) + v3) + v6) 1280) <| fk_let (gL st 8 ((((160 : Int32) * v1) + v3) + v6).toNatClampNeg) <| fun x31 =>
 fk_chk (fk_in ((((160 : Int32) * v2) + v4) + v6) 1280) <| fk_let (sL st 8 ((((160 : Int32) * v2) + v4) + v6).toNatClampNeg x31) <| fun st32 =>
 k203 v1 v2 v3 v4 (v6 + (-1 : Int32)) st32)
set_option maxHeartbeats 1000000 in
set_option maxRecDepth 20000 in
theorem T8_copy_203 {g : fkG} {k : fkK} (hk : fk_ok wM g k RX8 cX8_copy 7 (some (.int)) 1 22) (k203 : Int32 → Int32 → Int32 → Int32 → Int32 → fkS → Option (Int32 × fkS)) (H203 : ∀ (v1 : Int32) (v2 : Int32) (v3 : Int32) (v4 : Int32) (v6 : Int32) (st : fkS), fk_J wM g fk_eI k 203 [(0, fk_r g 0), (1, .int v1), (2, .int v2), (3, .int v3), (4, .int v4), (6, .int v6)] [] st (k203 v1 v2 v3 v4 v6 st)) : ∀ (v1 : Int32) (v2 : Int32) (v3 : Int32) (v4 : Int32) (v6 : Int32) (st : fkS), fk_J wM g fk_eI k 203 [(0, fk_r g 0), (1, .int v1), (2, .int v2), (3, .int v3), (4, .int v4), (6, .int v6)] [] st (B8_copy_203 k203 v1 v2 v3 v4 v6 st) := by
  intro v1 v2 v3 v4 v6 st
  unfold B8_copy_203
  refine j_iload (pc := 203) hk 5 rfl dX8_copy_203 ?_
  refine j_if_lt (tgt := 245) (pc := 205) hk (by decide) dX8_copy_205 (fun _ => ?_) (fun _ => ?_)
  · refine j_goto (tgt := 295) (pc := 245) hk (by decide) dX8_copy_245 ?_
    refine j_iconst (pc := 295) hk dX8_copy_295 (v := 1) (by decide) ?_
    exact j_iret (pc := 296) hk dX8_copy_296
  · refine j_aload_n (pc := 208) hk 0 rfl ⟨_, rfl⟩ dX8_copy_208 ?_
    refine f_8_31 (pc := 209) hk (rfl) dX8_copy_209 ?_
    refine j_sipush (pc := 212) hk dX8_copy_212 (v := 160) (by decide) ?_
    refine j_iload_n (pc := 215) hk 2 rfl dX8_copy_215 ?_
    refine j_imul (pc := 216) hk dX8_copy_216 ?_
    refine j_iload (pc := 217) hk 4 rfl dX8_copy_217 ?_
    refine j_iadd (pc := 219) hk dX8_copy_219 ?_
    refine j_iload (pc := 220) hk 5 rfl dX8_copy_220 ?_
    refine j_iadd (pc := 222) hk dX8_copy_222 ?_
    refine j_aload_n (pc := 223) hk 0 rfl ⟨_, rfl⟩ dX8_copy_223 ?_
    refine f_8_31 (pc := 224) hk (rfl) dX8_copy_224 ?_
    refine j_sipush (pc := 227) hk dX8_copy_227 (v := 160) (by decide) ?_
    refine j_iload_n (pc := 230) hk 1 rfl dX8_copy_230 ?_
    refine j_imul (pc := 231) hk dX8_copy_231 ?_
    refine j_iload_n (pc := 232) hk 3 rfl dX8_copy_232 ?_
    refine j_iadd (pc := 233) hk dX8_copy_233 ?_
    refine j_iload (pc := 234) hk 5 rfl dX8_copy_234 ?_
    refine j_iadd (pc := 236) hk dX8_copy_236 ?_
    refine a_lload (pc := 237) hk (isL_8_11) dX8_copy_237 (fun x31 => ?_)
    refine a_lstore (pc := 238) hk (isL_8_11) dX8_copy_238 (fun st32 => ?_)
    refine j_iinc (dd := (-1 : Int32)) (lv' := ((6, .int (v6 + (-1 : Int32))) :: [(0, fk_r g 0), (1, .int v1), (2, .int v2), (3, .int v3), (4, .int v4)])) (pc := 239) hk 5 rfl (by decide) (by decide) rfl dX8_copy_239 ?_
    refine j_sub hk (lv' := [(0, fk_r g 0), (1, .int v1), (2, .int v2), (3, .int v3), (4, .int v4), (6, .int (v6 + (-1 : Int32)))]) [1, 2, 3, 4, 5, 0] rfl ?_
    refine j_goto (tgt := 203) (pc := 242) hk (by decide) dX8_copy_242 ?_
    exact j_sub hk [0, 1, 2, 3, 4, 5] rfl (H203 v1 v2 v3 v4 (v6 + (-1 : Int32)) st32)
set_option maxHeartbeats 1000000 in
set_option maxRecDepth 20000 in
theorem L8_copy_203 {g : fkG} {k : fkK} (hk : fk_ok wM g k RX8 cX8_copy 7 (some (.int)) 1 22) (fu : Nat) : ∀ (v1 : Int32) (v2 : Int32) (v3 : Int32) (v4 : Int32) (v6 : Int32) (st : fkS), fk_J wM g fk_eI k 203 [(0, fk_r g 0), (1, .int v1), (2, .int v2), (3, .int v3), (4, .int v4), (6, .int v6)] [] st (fk_lp5 (B8_copy_203) fu v1 v2 v3 v4 v6 st) := by
  induction fu with
  | zero =>
    intro v1 v2 v3 v4 v6 st
    exact j_none hk
  | succ fu ih =>
    exact T8_copy_203 hk _ ih
def B8_copy_251 (k251 : Int32 → Int32 → Int32 → Int32 → Int32 → Int32 → fkS → Option (Int32 × fkS)) (v1 : Int32) (v2 : Int32) (v3 : Int32) (v4 : Int32) (v5 : Int32) (v6 : Int32) (st : fkS) : Option (Int32 × fkS) :=
 if v5 ≤ v6 then
 (some ((1 : Int32), st))
 else
 (fk_chk (fk_in ((((160 : Int32) * v1) + v3) + v6) 1280) <| fk_let (gL st 8 ((((160 : Int32) * v1) + v3) + v6).toNatClampNeg) <| fun x33 =>
 fk_chk (fk_in ((((160 : Int32) * v2) + v4) + v6) 1280) <| fk_let (sL st 8 ((((160 : Int32) * v2) + v4) + v6).toNatClampNeg x33) <| fun st34 =>
 k251 v1 v2 v3 v4 v5 (v6 + (1 : Int32)) st34)
set_option maxHeartbeats 1000000 in
set_option maxRecDepth 20000 in
theorem T8_copy_251 {g : fkG} {k : fkK} (hk : fk_ok wM g k RX8 cX8_copy 7 (some (.int)) 1 22) (k251 : Int32 → Int32 → Int32 → Int32 → Int32 → Int32 → fkS → Option (Int32 × fkS)) (H251 : ∀ (v1 : Int32) (v2 : Int32) (v3 : Int32) (v4 : Int32) (v5 : Int32) (v6 : Int32) (st : fkS), fk_J wM g fk_eI k 251 [(0, fk_r g 0), (1, .int v1), (2, .int v2), (3, .int v3), (4, .int v4), (5, .int v5), (6, .int v6)] [] st (k251 v1 v2 v3 v4 v5 v6 st)) : ∀ (v1 : Int32) (v2 : Int32) (v3 : Int32) (v4 : Int32) (v5 : Int32) (v6 : Int32) (st : fkS), fk_J wM g fk_eI k 251 [(0, fk_r g 0), (1, .int v1), (2, .int v2), (3, .int v3), (4, .int v4), (5, .int v5), (6, .int v6)] [] st (B8_copy_251 k251 v1 v2 v3 v4 v5 v6 st) := by
  intro v1 v2 v3 v4 v5 v6 st
  unfold B8_copy_251
  refine j_iload (pc := 251) hk 6 rfl dX8_copy_251 ?_
  refine j_iload (pc := 253) hk 5 rfl dX8_copy_253 ?_
  refine j_icmp_ge (tgt := 295) (pc := 255) hk (by decide) dX8_copy_255 (fun _ => ?_) (fun _ => ?_)
  · refine j_iconst (pc := 295) hk dX8_copy_295 (v := 1) (by decide) ?_
    exact j_iret (pc := 296) hk dX8_copy_296
  · refine j_aload_n (pc := 258) hk 0 rfl ⟨_, rfl⟩ dX8_copy_258 ?_
    refine f_8_31 (pc := 259) hk (rfl) dX8_copy_259 ?_
    refine j_sipush (pc := 262) hk dX8_copy_262 (v := 160) (by decide) ?_
    refine j_iload_n (pc := 265) hk 2 rfl dX8_copy_265 ?_
    refine j_imul (pc := 266) hk dX8_copy_266 ?_
    refine j_iload (pc := 267) hk 4 rfl dX8_copy_267 ?_
    refine j_iadd (pc := 269) hk dX8_copy_269 ?_
    refine j_iload (pc := 270) hk 6 rfl dX8_copy_270 ?_
    refine j_iadd (pc := 272) hk dX8_copy_272 ?_
    refine j_aload_n (pc := 273) hk 0 rfl ⟨_, rfl⟩ dX8_copy_273 ?_
    refine f_8_31 (pc := 274) hk (rfl) dX8_copy_274 ?_
    refine j_sipush (pc := 277) hk dX8_copy_277 (v := 160) (by decide) ?_
    refine j_iload_n (pc := 280) hk 1 rfl dX8_copy_280 ?_
    refine j_imul (pc := 281) hk dX8_copy_281 ?_
    refine j_iload_n (pc := 282) hk 3 rfl dX8_copy_282 ?_
    refine j_iadd (pc := 283) hk dX8_copy_283 ?_
    refine j_iload (pc := 284) hk 6 rfl dX8_copy_284 ?_
    refine j_iadd (pc := 286) hk dX8_copy_286 ?_
    refine a_lload (pc := 287) hk (isL_8_11) dX8_copy_287 (fun x33 => ?_)
    refine a_lstore (pc := 288) hk (isL_8_11) dX8_copy_288 (fun st34 => ?_)
    refine j_iinc (dd := (1 : Int32)) (lv' := ((6, .int (v6 + (1 : Int32))) :: [(0, fk_r g 0), (1, .int v1), (2, .int v2), (3, .int v3), (4, .int v4), (5, .int v5)])) (pc := 289) hk 6 rfl (by decide) (by decide) rfl dX8_copy_289 ?_
    refine j_sub hk (lv' := [(0, fk_r g 0), (1, .int v1), (2, .int v2), (3, .int v3), (4, .int v4), (5, .int v5), (6, .int (v6 + (1 : Int32)))]) [1, 2, 3, 4, 5, 6, 0] rfl ?_
    refine j_goto (tgt := 251) (pc := 292) hk (by decide) dX8_copy_292 ?_
    exact j_sub hk [0, 1, 2, 3, 4, 5, 6] rfl (H251 v1 v2 v3 v4 v5 (v6 + (1 : Int32)) st34)
set_option maxHeartbeats 1000000 in
set_option maxRecDepth 20000 in
theorem L8_copy_251 {g : fkG} {k : fkK} (hk : fk_ok wM g k RX8 cX8_copy 7 (some (.int)) 1 22) (fu : Nat) : ∀ (v1 : Int32) (v2 : Int32) (v3 : Int32) (v4 : Int32) (v5 : Int32) (v6 : Int32) (st : fkS), fk_J wM g fk_eI k 251 [(0, fk_r g 0), (1, .int v1), (2, .int v2), (3, .int v3), (4, .int v4), (5, .int v5), (6, .int v6)] [] st (fk_lp6 (B8_copy_251) fu v1 v2 v3 v4 v5 v6 st) := by
  induction fu with
  | zero =>
    intro v1 v2 v3 v4 v5 v6 st
    exact j_none hk
  | succ fu ih =>
    exact T8_copy_251 hk _ ih
def B8_copy_248 (v1 : Int32) (v2 : Int32) (v3 : Int32) (v4 : Int32) (v5 : Int32) (st : fkS) : Option (Int32 × fkS) :=
 fk_lp6 (B8_copy_251) fk_fuel v1 v2 v3 v4 v5 (0 : Int32) st
set_option maxHeartbeats 1000000 in
set_option maxRecDepth 20000 in
theorem T8_copy_248 {g : fkG} {k : fkK} (hk : fk_ok wM g k RX8 cX8_copy 7 (some (.int)) 1 22) : ∀ (v1 : Int32) (v2 : Int32) (v3 : Int32) (v4 : Int32) (v5 : Int32) (st : fkS), fk_J wM g fk_eI k 248 [(0, fk_r g 0), (1, .int v1), (2, .int v2), (3, .int v3), (4, .int v4), (5, .int v5)] [] st (B8_copy_248 v1 v2 v3 v4 v5 st) := by
  intro v1 v2 v3 v4 v5 st
  unfold B8_copy_248
  refine j_iconst (pc := 248) hk dX8_copy_248 (v := 0) (by decide) ?_
  refine j_istore (lv' := ((6, .int (0 : Int32)) :: [(0, fk_r g 0), (1, .int v1), (2, .int v2), (3, .int v3), (4, .int v4), (5, .int v5)])) (pc := 249) hk (by decide) rfl dX8_copy_249 ?_
  refine j_sub hk (lv' := [(0, fk_r g 0), (1, .int v1), (2, .int v2), (3, .int v3), (4, .int v4), (5, .int v5), (6, .int (0 : Int32))]) [1, 2, 3, 4, 5, 6, 0] rfl ?_
  exact j_sub hk [0, 1, 2, 3, 4, 5, 6] rfl (L8_copy_251 hk fk_fuel v1 v2 v3 v4 v5 (0 : Int32) st)
def B8_copy_98 (v1 : Int32) (v2 : Int32) (v3 : Int32) (v4 : Int32) (v5 : Int32) (st : fkS) : Option (Int32 × fkS) :=
 fk_chk (fk_in v1 8) <| fk_let (gA st 6 v1.toNatClampNeg) <| fun x21 =>
 if x21 < 0 then
 (B8_copy_116 st)
 else
 (fk_chk (fk_in v2 8) <| fk_let (gA st 6 v2.toNatClampNeg) <| fun x22 =>
 if 0 ≤ x22 then
 (if 0 ≤ v5 then
 (if v3 < 0 then
 (B8_copy_179 st)
 else
 (if v4 < 0 then
 (B8_copy_179 st)
 else
 (fk_chk (fk_in v1 8) <| fk_let (gA st 7 v1.toNatClampNeg) <| fun x23 =>
 if 0 < (lg_cmp (v3.toInt64 + v5.toInt64) x23.toInt64) then
 (B8_copy_179 st)
 else
 (fk_chk (fk_in v2 8) <| fk_let (gA st 7 v2.toNatClampNeg) <| fun x24 =>
 if (lg_cmp (v4.toInt64 + v5.toInt64) x24.toInt64) ≤ 0 then
 (if v1 = v2 then
 (if v4 ≤ v3 then
 (B8_copy_248 v1 v2 v3 v4 v5 st)
 else
 (fk_lp5 (B8_copy_203) fk_fuel v1 v2 v3 v4 (v5 - (1 : Int32)) st))
 else
 (B8_copy_248 v1 v2 v3 v4 v5 st))
 else
 (B8_copy_179 st)))))
 else
 (fk_bind (F8_no (-4 : Int32) st) <| fun x25 st26 =>
 some (x25, st26)))
 else
 (B8_copy_116 st))
set_option maxHeartbeats 1000000 in
set_option maxRecDepth 20000 in
theorem T8_copy_98 {g : fkG} {k : fkK} (hk : fk_ok wM g k RX8 cX8_copy 7 (some (.int)) 1 22) : ∀ (v1 : Int32) (v2 : Int32) (v3 : Int32) (v4 : Int32) (v5 : Int32) (st : fkS), fk_J wM g fk_eI k 98 [(0, fk_r g 0), (1, .int v1), (2, .int v2), (3, .int v3), (4, .int v4), (5, .int v5)] [] st (B8_copy_98 v1 v2 v3 v4 v5 st) := by
  intro v1 v2 v3 v4 v5 st
  unfold B8_copy_98
  refine j_aload_n (pc := 98) hk 0 rfl ⟨_, rfl⟩ dX8_copy_98 ?_
  refine f_8_25 (pc := 99) hk (rfl) dX8_copy_99 ?_
  refine j_iload_n (pc := 102) hk 1 rfl dX8_copy_102 ?_
  refine a_iload (pc := 103) hk (isI_8_9) dX8_copy_103 (fun x21 => ?_)
  refine j_if_lt (tgt := 116) (pc := 104) hk (by decide) dX8_copy_104 (fun _ => ?_) (fun _ => ?_)
  · exact j_sub hk [0] rfl (T8_copy_116 hk st)
  · refine j_aload_n (pc := 107) hk 0 rfl ⟨_, rfl⟩ dX8_copy_107 ?_
    refine f_8_25 (pc := 108) hk (rfl) dX8_copy_108 ?_
    refine j_iload_n (pc := 111) hk 2 rfl dX8_copy_111 ?_
    refine a_iload (pc := 112) hk (isI_8_9) dX8_copy_112 (fun x22 => ?_)
    refine j_if_ge (tgt := 123) (pc := 113) hk (by decide) dX8_copy_113 (fun _ => ?_) (fun _ => ?_)
    · refine j_iload (pc := 123) hk 5 rfl dX8_copy_123 ?_
      refine j_if_ge (tgt := 135) (pc := 125) hk (by decide) dX8_copy_125 (fun _ => ?_) (fun _ => ?_)
      · refine j_iload_n (pc := 135) hk 3 rfl dX8_copy_135 ?_
        refine j_if_lt (tgt := 179) (pc := 136) hk (by decide) dX8_copy_136 (fun _ => ?_) (fun _ => ?_)
        · exact j_sub hk [0] rfl (T8_copy_179 hk st)
        · refine j_iload (pc := 139) hk 4 rfl dX8_copy_139 ?_
          refine j_if_lt (tgt := 179) (pc := 141) hk (by decide) dX8_copy_141 (fun _ => ?_) (fun _ => ?_)
          · exact j_sub hk [0] rfl (T8_copy_179 hk st)
          · refine j_iload_n (pc := 144) hk 3 rfl dX8_copy_144 ?_
            refine j_i2l (pc := 145) hk dX8_copy_145 ?_
            refine j_iload (pc := 146) hk 5 rfl dX8_copy_146 ?_
            refine j_i2l (pc := 148) hk dX8_copy_148 ?_
            refine j_ladd (pc := 149) hk dX8_copy_149 ?_
            refine j_aload_n (pc := 150) hk 0 rfl ⟨_, rfl⟩ dX8_copy_150 ?_
            refine f_8_28 (pc := 151) hk (rfl) dX8_copy_151 ?_
            refine j_iload_n (pc := 154) hk 1 rfl dX8_copy_154 ?_
            refine a_iload (pc := 155) hk (isI_8_10) dX8_copy_155 (fun x23 => ?_)
            refine j_i2l (pc := 156) hk dX8_copy_156 ?_
            refine j_lcmp (pc := 157) hk dX8_copy_157 ?_
            refine j_if_gt (tgt := 179) (pc := 158) hk (by decide) dX8_copy_158 (fun _ => ?_) (fun _ => ?_)
            · exact j_sub hk [0] rfl (T8_copy_179 hk st)
            · refine j_iload (pc := 161) hk 4 rfl dX8_copy_161 ?_
              refine j_i2l (pc := 163) hk dX8_copy_163 ?_
              refine j_iload (pc := 164) hk 5 rfl dX8_copy_164 ?_
              refine j_i2l (pc := 166) hk dX8_copy_166 ?_
              refine j_ladd (pc := 167) hk dX8_copy_167 ?_
              refine j_aload_n (pc := 168) hk 0 rfl ⟨_, rfl⟩ dX8_copy_168 ?_
              refine f_8_28 (pc := 169) hk (rfl) dX8_copy_169 ?_
              refine j_iload_n (pc := 172) hk 2 rfl dX8_copy_172 ?_
              refine a_iload (pc := 173) hk (isI_8_10) dX8_copy_173 (fun x24 => ?_)
              refine j_i2l (pc := 174) hk dX8_copy_174 ?_
              refine j_lcmp (pc := 175) hk dX8_copy_175 ?_
              refine j_if_le (tgt := 186) (pc := 176) hk (by decide) dX8_copy_176 (fun _ => ?_) (fun _ => ?_)
              · refine j_iload_n (pc := 186) hk 1 rfl dX8_copy_186 ?_
                refine j_iload_n (pc := 187) hk 2 rfl dX8_copy_187 ?_
                refine j_icmp_ne (tgt := 248) (pc := 188) hk (by decide) dX8_copy_188 (fun _ => ?_) (fun _ => ?_)
                · refine j_iload_n (pc := 191) hk 3 rfl dX8_copy_191 ?_
                  refine j_iload (pc := 192) hk 4 rfl dX8_copy_192 ?_
                  refine j_icmp_ge (tgt := 248) (pc := 194) hk (by decide) dX8_copy_194 (fun _ => ?_) (fun _ => ?_)
                  · exact j_sub hk [0, 1, 2, 3, 4, 5] rfl (T8_copy_248 hk v1 v2 v3 v4 v5 st)
                  · refine j_iload (pc := 197) hk 5 rfl dX8_copy_197 ?_
                    refine j_iconst (pc := 199) hk dX8_copy_199 (v := 1) (by decide) ?_
                    refine j_isub (pc := 200) hk dX8_copy_200 ?_
                    refine j_istore (lv' := ((6, .int (v5 - (1 : Int32))) :: [(0, fk_r g 0), (1, .int v1), (2, .int v2), (3, .int v3), (4, .int v4), (5, .int v5)])) (pc := 201) hk (by decide) rfl dX8_copy_201 ?_
                    refine j_sub hk (lv' := [(0, fk_r g 0), (1, .int v1), (2, .int v2), (3, .int v3), (4, .int v4), (5, .int v5), (6, .int (v5 - (1 : Int32)))]) [1, 2, 3, 4, 5, 6, 0] rfl ?_
                    exact j_sub hk [0, 1, 2, 3, 4, 6] rfl (L8_copy_203 hk fk_fuel v1 v2 v3 v4 (v5 - (1 : Int32)) st)
                · exact j_sub hk [0, 1, 2, 3, 4, 5] rfl (T8_copy_248 hk v1 v2 v3 v4 v5 st)
              · exact j_sub hk [0] rfl (T8_copy_179 hk st)
      · refine j_aload_n (pc := 128) hk 0 rfl ⟨_, rfl⟩ dX8_copy_128 ?_
        refine j_bipush (pc := 129) hk dX8_copy_129 (v := -4) (by decide) ?_
        refine j_callVi (pc := 131) hk [.int (-4 : Int32)] [] rfl (fun l o hq9 => C8_no (-4 : Int32) st l o hq9) (rcv_8 (rfl)) yv_X8_no ml_8_81 rfl (Nat.le_of_ble_eq_true rfl) (Nat.le_of_ble_eq_true rfl) (Nat.le_of_ble_eq_true rfl) dX8_copy_131 (fun x25 st26 => ?_)
        exact j_iret (pc := 134) hk dX8_copy_134
    · exact j_sub hk [0] rfl (T8_copy_116 hk st)
def B8_copy_60 (v1 : Int32) (v2 : Int32) (v3 : Int32) (v4 : Int32) (v5 : Int32) (st : fkS) : Option (Int32 × fkS) :=
 fk_bind (F8_isRow v1 st) <| fun x15 st16 =>
 if x15 = 0 then
 (B8_copy_98 v1 v2 v3 v4 v5 st16)
 else
 (fk_bind (F8_isRow v2 st16) <| fun x17 st18 =>
 if x17 = 0 then
 (B8_copy_98 v1 v2 v3 v4 v5 st18)
 else
 (fk_chk (fk_in v1 8) <| fk_let (gA st18 6 v1.toNatClampNeg) <| fun x19 =>
 fk_chk (fk_in v2 8) <| fk_let (gA st18 6 v2.toNatClampNeg) <| fun x20 =>
 if x19 = x20 then
 (B8_copy_98 v1 v2 v3 v4 v5 st18)
 else
 (B8_copy_91 st18)))
set_option maxHeartbeats 1000000 in
set_option maxRecDepth 20000 in
theorem T8_copy_60 {g : fkG} {k : fkK} (hk : fk_ok wM g k RX8 cX8_copy 7 (some (.int)) 1 22) : ∀ (v1 : Int32) (v2 : Int32) (v3 : Int32) (v4 : Int32) (v5 : Int32) (st : fkS), fk_J wM g fk_eI k 60 [(0, fk_r g 0), (1, .int v1), (2, .int v2), (3, .int v3), (4, .int v4), (5, .int v5)] [] st (B8_copy_60 v1 v2 v3 v4 v5 st) := by
  intro v1 v2 v3 v4 v5 st
  unfold B8_copy_60
  refine j_aload_n (pc := 60) hk 0 rfl ⟨_, rfl⟩ dX8_copy_60 ?_
  refine j_iload_n (pc := 61) hk 1 rfl dX8_copy_61 ?_
  refine j_callVi (pc := 62) hk [.int v1] [] rfl (fun l o hq9 => C8_isRow v1 st l o hq9) (rcv_8 (rfl)) yv_X8_isRow ml_8_92 rfl (Nat.le_of_ble_eq_true rfl) (Nat.le_of_ble_eq_true rfl) (Nat.le_of_ble_eq_true rfl) dX8_copy_62 (fun x15 st16 => ?_)
  refine j_if_eq (tgt := 98) (pc := 65) hk (by decide) dX8_copy_65 (fun _ => ?_) (fun _ => ?_)
  · exact j_sub hk [0, 1, 2, 3, 4, 5] rfl (T8_copy_98 hk v1 v2 v3 v4 v5 st16)
  · refine j_aload_n (pc := 68) hk 0 rfl ⟨_, rfl⟩ dX8_copy_68 ?_
    refine j_iload_n (pc := 69) hk 2 rfl dX8_copy_69 ?_
    refine j_callVi (pc := 70) hk [.int v2] [] rfl (fun l o hq9 => C8_isRow v2 st16 l o hq9) (rcv_8 (rfl)) yv_X8_isRow ml_8_92 rfl (Nat.le_of_ble_eq_true rfl) (Nat.le_of_ble_eq_true rfl) (Nat.le_of_ble_eq_true rfl) dX8_copy_70 (fun x17 st18 => ?_)
    refine j_if_eq (tgt := 98) (pc := 73) hk (by decide) dX8_copy_73 (fun _ => ?_) (fun _ => ?_)
    · exact j_sub hk [0, 1, 2, 3, 4, 5] rfl (T8_copy_98 hk v1 v2 v3 v4 v5 st18)
    · refine j_aload_n (pc := 76) hk 0 rfl ⟨_, rfl⟩ dX8_copy_76 ?_
      refine f_8_25 (pc := 77) hk (rfl) dX8_copy_77 ?_
      refine j_iload_n (pc := 80) hk 1 rfl dX8_copy_80 ?_
      refine a_iload (pc := 81) hk (isI_8_9) dX8_copy_81 (fun x19 => ?_)
      refine j_aload_n (pc := 82) hk 0 rfl ⟨_, rfl⟩ dX8_copy_82 ?_
      refine f_8_25 (pc := 83) hk (rfl) dX8_copy_83 ?_
      refine j_iload_n (pc := 86) hk 2 rfl dX8_copy_86 ?_
      refine a_iload (pc := 87) hk (isI_8_9) dX8_copy_87 (fun x20 => ?_)
      refine j_icmp_eq (tgt := 98) (pc := 88) hk (by decide) dX8_copy_88 (fun _ => ?_) (fun _ => ?_)
      · exact j_sub hk [0, 1, 2, 3, 4, 5] rfl (T8_copy_98 hk v1 v2 v3 v4 v5 st18)
      · exact j_sub hk [0] rfl (T8_copy_91 hk st18)
def B8_copy_43 (v1 : Int32) (v2 : Int32) (v3 : Int32) (v4 : Int32) (v5 : Int32) (st : fkS) : Option (Int32 × fkS) :=
 fk_chk (fk_in v2 8) <| fk_let (gA st 6 v2.toNatClampNeg) <| fun x10 =>
 if x10 < 0 then
 (B8_copy_60 v1 v2 v3 v4 v5 st)
 else
 (fk_bind (F8_isRow v2 st) <| fun x11 st12 =>
 if x11 = 0 then
 (B8_copy_91 st12)
 else
 (B8_copy_60 v1 v2 v3 v4 v5 st12))
set_option maxHeartbeats 1000000 in
set_option maxRecDepth 20000 in
theorem T8_copy_43 {g : fkG} {k : fkK} (hk : fk_ok wM g k RX8 cX8_copy 7 (some (.int)) 1 22) : ∀ (v1 : Int32) (v2 : Int32) (v3 : Int32) (v4 : Int32) (v5 : Int32) (st : fkS), fk_J wM g fk_eI k 43 [(0, fk_r g 0), (1, .int v1), (2, .int v2), (3, .int v3), (4, .int v4), (5, .int v5)] [] st (B8_copy_43 v1 v2 v3 v4 v5 st) := by
  intro v1 v2 v3 v4 v5 st
  unfold B8_copy_43
  refine j_aload_n (pc := 43) hk 0 rfl ⟨_, rfl⟩ dX8_copy_43 ?_
  refine f_8_25 (pc := 44) hk (rfl) dX8_copy_44 ?_
  refine j_iload_n (pc := 47) hk 2 rfl dX8_copy_47 ?_
  refine a_iload (pc := 48) hk (isI_8_9) dX8_copy_48 (fun x10 => ?_)
  refine j_if_lt (tgt := 60) (pc := 49) hk (by decide) dX8_copy_49 (fun _ => ?_) (fun _ => ?_)
  · exact j_sub hk [0, 1, 2, 3, 4, 5] rfl (T8_copy_60 hk v1 v2 v3 v4 v5 st)
  · refine j_aload_n (pc := 52) hk 0 rfl ⟨_, rfl⟩ dX8_copy_52 ?_
    refine j_iload_n (pc := 53) hk 2 rfl dX8_copy_53 ?_
    refine j_callVi (pc := 54) hk [.int v2] [] rfl (fun l o hq9 => C8_isRow v2 st l o hq9) (rcv_8 (rfl)) yv_X8_isRow ml_8_92 rfl (Nat.le_of_ble_eq_true rfl) (Nat.le_of_ble_eq_true rfl) (Nat.le_of_ble_eq_true rfl) dX8_copy_54 (fun x11 st12 => ?_)
    refine j_if_eq (tgt := 91) (pc := 57) hk (by decide) dX8_copy_57 (fun _ => ?_) (fun _ => ?_)
    · exact j_sub hk [0] rfl (T8_copy_91 hk st12)
    · exact j_sub hk [0, 1, 2, 3, 4, 5] rfl (T8_copy_60 hk v1 v2 v3 v4 v5 st12)
def F8_copy (p1 : Int32) (p2 : Int32) (p3 : Int32) (p4 : Int32) (p5 : Int32) (st : fkS) : Option (Int32 × fkS) :=
 fk_bind (F8_within p1 (0 : Int32) (7 : Int32) st) <| fun x1 st2 =>
 if x1 = 0 then
 (B8_copy_20 st2)
 else
 (fk_bind (F8_within p2 (0 : Int32) (7 : Int32) st2) <| fun x3 st4 =>
 if x3 = 0 then
 (B8_copy_20 st4)
 else
 (fk_chk (fk_in p1 8) <| fk_let (gA st4 6 p1.toNatClampNeg) <| fun x5 =>
 if x5 < 0 then
 (B8_copy_43 p1 p2 p3 p4 p5 st4)
 else
 (fk_bind (F8_isRow p1 st4) <| fun x6 st7 =>
 if x6 = 0 then
 (B8_copy_91 st7)
 else
 (B8_copy_43 p1 p2 p3 p4 p5 st7))))
set_option maxHeartbeats 1000000 in
set_option maxRecDepth 20000 in
theorem C8_copy (p1 : Int32) (p2 : Int32) (p3 : Int32) (p4 : Int32) (p5 : Int32) (st : fkS) {g : fkG} (l : Launch) (o : Int32 × fkS) (hF : F8_copy p1 p2 p3 p4 p5 st = some o) : fk_C wM yX8_copy cX8_copy 7 (some (.int)) 1 22 l g [fk_r g 0, .int p1, .int p2, .int p3, .int p4, .int p5] st (fk_eI o.1) o.2 := by
  refine fk_begin rfl (Nat.le_of_ble_eq_true rfl) (fun k hk => ?_) o hF
  have hk : fk_ok wM g k RX8 cX8_copy 7 (some (.int)) 1 22 := hk
  show fk_J wM g fk_eI k 0 [(0, fk_r g 0), (1, .int p1), (2, .int p2), (3, .int p3), (4, .int p4), (5, .int p5)] [] st (F8_copy p1 p2 p3 p4 p5 st)
  unfold F8_copy
  refine j_iload_n (pc := 0) hk 1 rfl dX8_copy_0 ?_
  refine j_iconst (pc := 1) hk dX8_copy_1 (v := 0) (by decide) ?_
  refine j_bipush (pc := 2) hk dX8_copy_2 (v := 7) (by decide) ?_
  refine j_callSi (pc := 4) hk [.int p1, .int (0 : Int32), .int (7 : Int32)] [] rfl (fun l o hq9 => C8_within p1 (0 : Int32) (7 : Int32) st l o hq9) yv_X8_within ml_8_88 rfl (Nat.le_of_ble_eq_true rfl) (Nat.le_of_ble_eq_true rfl) (Nat.le_of_ble_eq_true rfl) dX8_copy_4 (fun x1 st2 => ?_)
  refine j_if_eq (tgt := 20) (pc := 7) hk (by decide) dX8_copy_7 (fun _ => ?_) (fun _ => ?_)
  · exact j_sub hk [0] rfl (T8_copy_20 hk st2)
  · refine j_iload_n (pc := 10) hk 2 rfl dX8_copy_10 ?_
    refine j_iconst (pc := 11) hk dX8_copy_11 (v := 0) (by decide) ?_
    refine j_bipush (pc := 12) hk dX8_copy_12 (v := 7) (by decide) ?_
    refine j_callSi (pc := 14) hk [.int p2, .int (0 : Int32), .int (7 : Int32)] [] rfl (fun l o hq9 => C8_within p2 (0 : Int32) (7 : Int32) st2 l o hq9) yv_X8_within ml_8_88 rfl (Nat.le_of_ble_eq_true rfl) (Nat.le_of_ble_eq_true rfl) (Nat.le_of_ble_eq_true rfl) dX8_copy_14 (fun x3 st4 => ?_)
    refine j_if_ne (tgt := 26) (pc := 17) hk (by decide) dX8_copy_17 (fun _ => ?_) (fun _ => ?_)
    · exact j_sub hk [0] rfl (T8_copy_20 hk st4)
    · refine j_aload_n (pc := 26) hk 0 rfl ⟨_, rfl⟩ dX8_copy_26 ?_
      refine f_8_25 (pc := 27) hk (rfl) dX8_copy_27 ?_
      refine j_iload_n (pc := 30) hk 1 rfl dX8_copy_30 ?_
      refine a_iload (pc := 31) hk (isI_8_9) dX8_copy_31 (fun x5 => ?_)
      refine j_if_lt (tgt := 43) (pc := 32) hk (by decide) dX8_copy_32 (fun _ => ?_) (fun _ => ?_)
      · exact j_sub hk [0, 1, 2, 3, 4, 5] rfl (T8_copy_43 hk p1 p2 p3 p4 p5 st4)
      · refine j_aload_n (pc := 35) hk 0 rfl ⟨_, rfl⟩ dX8_copy_35 ?_
        refine j_iload_n (pc := 36) hk 1 rfl dX8_copy_36 ?_
        refine j_callVi (pc := 37) hk [.int p1] [] rfl (fun l o hq9 => C8_isRow p1 st4 l o hq9) (rcv_8 (rfl)) yv_X8_isRow ml_8_92 rfl (Nat.le_of_ble_eq_true rfl) (Nat.le_of_ble_eq_true rfl) (Nat.le_of_ble_eq_true rfl) dX8_copy_37 (fun x6 st7 => ?_)
        refine j_if_eq (tgt := 91) (pc := 40) hk (by decide) dX8_copy_40 (fun _ => ?_) (fun _ => ?_)
        · exact j_sub hk [0] rfl (T8_copy_91 hk st7)
        · exact j_sub hk [0, 1, 2, 3, 4, 5] rfl (T8_copy_43 hk p1 p2 p3 p4 p5 st7)
theorem dX8_element_0 : decode cX8_element 0 = .ok (.iload_n 1, 1) := by decide +kernel
theorem dX8_element_1 : decode cX8_element 1 = .ok (.iconst 0, 1) := by decide +kernel
theorem dX8_element_2 : decode cX8_element 2 = .ok (.bipush 7, 2) := by decide +kernel
theorem dX8_element_4 : decode cX8_element 4 = .ok (.invokestatic 88, 3) := by decide +kernel
theorem dX8_element_7 : decode cX8_element 7 = .ok (.ifCond .eq 42, 3) := by decide +kernel
theorem dX8_element_10 : decode cX8_element 10 = .ok (.aload_n 0, 1) := by decide +kernel
theorem dX8_element_11 : decode cX8_element 11 = .ok (.iload_n 1, 1) := by decide +kernel
theorem dX8_element_12 : decode cX8_element 12 = .ok (.invokevirtual 92, 3) := by decide +kernel
theorem dX8_element_15 : decode cX8_element 15 = .ok (.ifCond .eq 34, 3) := by decide +kernel
theorem dX8_element_18 : decode cX8_element 18 = .ok (.iload_n 2, 1) := by decide +kernel
theorem dX8_element_19 : decode cX8_element 19 = .ok (.iconst 0, 1) := by decide +kernel
theorem dX8_element_20 : decode cX8_element 20 = .ok (.aload_n 0, 1) := by decide +kernel
theorem dX8_element_21 : decode cX8_element 21 = .ok (.getfield 28, 3) := by decide +kernel
theorem dX8_element_24 : decode cX8_element 24 = .ok (.iload_n 1, 1) := by decide +kernel
theorem dX8_element_25 : decode cX8_element 25 = .ok (.iaload, 1) := by decide +kernel
theorem dX8_element_26 : decode cX8_element 26 = .ok (.iconst 1, 1) := by decide +kernel
theorem dX8_element_27 : decode cX8_element 27 = .ok (.isub, 1) := by decide +kernel
theorem dX8_element_28 : decode cX8_element 28 = .ok (.invokestatic 88, 3) := by decide +kernel
theorem dX8_element_31 : decode cX8_element 31 = .ok (.ifCond .eq 18, 3) := by decide +kernel
theorem dX8_element_34 : decode cX8_element 34 = .ok (.aload_n 0, 1) := by decide +kernel
theorem dX8_element_35 : decode cX8_element 35 = .ok (.getfield 31, 3) := by decide +kernel
theorem dX8_element_38 : decode cX8_element 38 = .ok (.sipush 160, 3) := by decide +kernel
theorem dX8_element_41 : decode cX8_element 41 = .ok (.iload_n 1, 1) := by decide +kernel
theorem dX8_element_42 : decode cX8_element 42 = .ok (.imul, 1) := by decide +kernel
theorem dX8_element_43 : decode cX8_element 43 = .ok (.iload_n 2, 1) := by decide +kernel
theorem dX8_element_44 : decode cX8_element 44 = .ok (.iadd, 1) := by decide +kernel
theorem dX8_element_45 : decode cX8_element 45 = .ok (.laload, 1) := by decide +kernel
theorem dX8_element_46 : decode cX8_element 46 = .ok (.goto 4, 3) := by decide +kernel
theorem dX8_element_49 : decode cX8_element 49 = .ok (.lconst 0, 1) := by decide +kernel
theorem dX8_element_50 : decode cX8_element 50 = .ok (.lreturn, 1) := by decide +kernel
def B8_element_49 (st : fkS) : Option (Int64 × fkS) :=
 some ((0 : Int64), st)
set_option maxHeartbeats 1000000 in
set_option maxRecDepth 20000 in
theorem T8_element_49 {g : fkG} {k : fkK} (hk : fk_ok wM g k RX8 cX8_element 3 (some (.long)) 1 22) : ∀ (st : fkS), fk_J wM g fk_eL k 49 [] [] st (B8_element_49 st) := by
  intro st
  unfold B8_element_49
  refine j_lconst (pc := 49) hk dX8_element_49 (v := 0) (by decide) ?_
  exact j_lret (pc := 50) hk dX8_element_50
def F8_element (p1 : Int32) (p2 : Int32) (st : fkS) : Option (Int64 × fkS) :=
 fk_bind (F8_within p1 (0 : Int32) (7 : Int32) st) <| fun x1 st2 =>
 if x1 = 0 then
 (B8_element_49 st2)
 else
 (fk_bind (F8_isRow p1 st2) <| fun x3 st4 =>
 if x3 = 0 then
 (B8_element_49 st4)
 else
 (fk_chk (fk_in p1 8) <| fk_let (gA st4 7 p1.toNatClampNeg) <| fun x5 =>
 fk_bind (F8_within p2 (0 : Int32) (x5 - (1 : Int32)) st4) <| fun x6 st7 =>
 if x6 = 0 then
 (B8_element_49 st7)
 else
 (fk_chk (fk_in (((160 : Int32) * p1) + p2) 1280) <| fk_let (gL st7 8 (((160 : Int32) * p1) + p2).toNatClampNeg) <| fun x8 =>
 some (x8, st7))))
set_option maxHeartbeats 1000000 in
set_option maxRecDepth 20000 in
theorem C8_element (p1 : Int32) (p2 : Int32) (st : fkS) {g : fkG} (l : Launch) (o : Int64 × fkS) (hF : F8_element p1 p2 st = some o) : fk_C wM yX8_element cX8_element 3 (some (.long)) 1 22 l g [fk_r g 0, .int p1, .int p2] st (fk_eL o.1) o.2 := by
  refine fk_begin rfl (Nat.le_of_ble_eq_true rfl) (fun k hk => ?_) o hF
  have hk : fk_ok wM g k RX8 cX8_element 3 (some (.long)) 1 22 := hk
  show fk_J wM g fk_eL k 0 [(0, fk_r g 0), (1, .int p1), (2, .int p2)] [] st (F8_element p1 p2 st)
  unfold F8_element
  refine j_iload_n (pc := 0) hk 1 rfl dX8_element_0 ?_
  refine j_iconst (pc := 1) hk dX8_element_1 (v := 0) (by decide) ?_
  refine j_bipush (pc := 2) hk dX8_element_2 (v := 7) (by decide) ?_
  refine j_callSi (pc := 4) hk [.int p1, .int (0 : Int32), .int (7 : Int32)] [] rfl (fun l o hq9 => C8_within p1 (0 : Int32) (7 : Int32) st l o hq9) yv_X8_within ml_8_88 rfl (Nat.le_of_ble_eq_true rfl) (Nat.le_of_ble_eq_true rfl) (Nat.le_of_ble_eq_true rfl) dX8_element_4 (fun x1 st2 => ?_)
  refine j_if_eq (tgt := 49) (pc := 7) hk (by decide) dX8_element_7 (fun _ => ?_) (fun _ => ?_)
  · exact j_sub hk [] rfl (T8_element_49 hk st2)
  · refine j_aload_n (pc := 10) hk 0 rfl ⟨_, rfl⟩ dX8_element_10 ?_
    refine j_iload_n (pc := 11) hk 1 rfl dX8_element_11 ?_
    refine j_callVi (pc := 12) hk [.int p1] [] rfl (fun l o hq9 => C8_isRow p1 st2 l o hq9) (rcv_8 (rfl)) yv_X8_isRow ml_8_92 rfl (Nat.le_of_ble_eq_true rfl) (Nat.le_of_ble_eq_true rfl) (Nat.le_of_ble_eq_true rfl) dX8_element_12 (fun x3 st4 => ?_)
    refine j_if_eq (tgt := 49) (pc := 15) hk (by decide) dX8_element_15 (fun _ => ?_) (fun _ => ?_)
    · exact j_sub hk [] rfl (T8_element_49 hk st4)
    · refine j_iload_n (pc := 18) hk 2 rfl dX8_element_18 ?_
      refine j_iconst (pc := 19) hk dX8_element_19 (v := 0) (by decide) ?_
      refine j_aload_n (pc := 20) hk 0 rfl ⟨_, rfl⟩ dX8_element_20 ?_
      refine f_8_28 (pc := 21) hk (rfl) dX8_element_21 ?_
      refine j_iload_n (pc := 24) hk 1 rfl dX8_element_24 ?_
      refine a_iload (pc := 25) hk (isI_8_10) dX8_element_25 (fun x5 => ?_)
      refine j_iconst (pc := 26) hk dX8_element_26 (v := 1) (by decide) ?_
      refine j_isub (pc := 27) hk dX8_element_27 ?_
      refine j_callSi (pc := 28) hk [.int p2, .int (0 : Int32), .int (x5 - (1 : Int32))] [] rfl (fun l o hq9 => C8_within p2 (0 : Int32) (x5 - (1 : Int32)) st4 l o hq9) yv_X8_within ml_8_88 rfl (Nat.le_of_ble_eq_true rfl) (Nat.le_of_ble_eq_true rfl) (Nat.le_of_ble_eq_true rfl) dX8_element_28 (fun x6 st7 => ?_)
      refine j_if_eq (tgt := 49) (pc := 31) hk (by decide) dX8_element_31 (fun _ => ?_) (fun _ => ?_)
      · exact j_sub hk [] rfl (T8_element_49 hk st7)
      · refine j_aload_n (pc := 34) hk 0 rfl ⟨_, rfl⟩ dX8_element_34 ?_
        refine f_8_31 (pc := 35) hk (rfl) dX8_element_35 ?_
        refine j_sipush (pc := 38) hk dX8_element_38 (v := 160) (by decide) ?_
        refine j_iload_n (pc := 41) hk 1 rfl dX8_element_41 ?_
        refine j_imul (pc := 42) hk dX8_element_42 ?_
        refine j_iload_n (pc := 43) hk 2 rfl dX8_element_43 ?_
        refine j_iadd (pc := 44) hk dX8_element_44 ?_
        refine a_lload (pc := 45) hk (isL_8_11) dX8_element_45 (fun x8 => ?_)
        refine j_goto (tgt := 50) (pc := 46) hk (by decide) dX8_element_46 ?_
        exact j_lret (pc := 50) hk dX8_element_50
theorem dX8_show_0 : decode cX8_show 0 = .ok (.iload_n 1, 1) := by decide +kernel
theorem dX8_show_1 : decode cX8_show 1 = .ok (.iconst 0, 1) := by decide +kernel
theorem dX8_show_2 : decode cX8_show 2 = .ok (.bipush 7, 2) := by decide +kernel
theorem dX8_show_4 : decode cX8_show 4 = .ok (.invokestatic 88, 3) := by decide +kernel
theorem dX8_show_7 : decode cX8_show 7 = .ok (.ifCond .eq 16, 3) := by decide +kernel
theorem dX8_show_10 : decode cX8_show 10 = .ok (.iload_n 2, 1) := by decide +kernel
theorem dX8_show_11 : decode cX8_show 11 = .ok (.iconst (-1), 1) := by decide +kernel
theorem dX8_show_12 : decode cX8_show 12 = .ok (.if_icmp .eq 17, 3) := by decide +kernel
theorem dX8_show_15 : decode cX8_show 15 = .ok (.aload_n 0, 1) := by decide +kernel
theorem dX8_show_16 : decode cX8_show 16 = .ok (.iload_n 2, 1) := by decide +kernel
theorem dX8_show_17 : decode cX8_show 17 = .ok (.invokevirtual 99, 3) := by decide +kernel
theorem dX8_show_20 : decode cX8_show 20 = .ok (.ifCond .ne 9, 3) := by decide +kernel
theorem dX8_show_23 : decode cX8_show 23 = .ok (.aload_n 0, 1) := by decide +kernel
theorem dX8_show_24 : decode cX8_show 24 = .ok (.iconst (-1), 1) := by decide +kernel
theorem dX8_show_25 : decode cX8_show 25 = .ok (.invokevirtual 81, 3) := by decide +kernel
theorem dX8_show_28 : decode cX8_show 28 = .ok (.ireturn, 1) := by decide +kernel
theorem dX8_show_29 : decode cX8_show 29 = .ok (.aload_n 0, 1) := by decide +kernel
theorem dX8_show_30 : decode cX8_show 30 = .ok (.getfield 25, 3) := by decide +kernel
theorem dX8_show_33 : decode cX8_show 33 = .ok (.iload_n 1, 1) := by decide +kernel
theorem dX8_show_34 : decode cX8_show 34 = .ok (.iload_n 2, 1) := by decide +kernel
theorem dX8_show_35 : decode cX8_show 35 = .ok (.iastore, 1) := by decide +kernel
theorem dX8_show_36 : decode cX8_show 36 = .ok (.iload_n 2, 1) := by decide +kernel
theorem dX8_show_37 : decode cX8_show 37 = .ok (.iconst (-1), 1) := by decide +kernel
theorem dX8_show_38 : decode cX8_show 38 = .ok (.if_icmp .ne 7, 3) := by decide +kernel
theorem dX8_show_41 : decode cX8_show 41 = .ok (.iconst 0, 1) := by decide +kernel
theorem dX8_show_42 : decode cX8_show 42 = .ok (.goto 4, 3) := by decide +kernel
theorem dX8_show_45 : decode cX8_show 45 = .ok (.iconst 1, 1) := by decide +kernel
theorem dX8_show_46 : decode cX8_show 46 = .ok (.ireturn, 1) := by decide +kernel
def B8_show_23 (st : fkS) : Option (Int32 × fkS) :=
 fk_bind (F8_no (-1 : Int32) st) <| fun x5 st6 =>
 some (x5, st6)
set_option maxHeartbeats 1000000 in
set_option maxRecDepth 20000 in
theorem T8_show_23 {g : fkG} {k : fkK} (hk : fk_ok wM g k RX8 cX8_show 3 (some (.int)) 2 43) : ∀ (st : fkS), fk_J wM g fk_eI k 23 [(0, fk_r g 0)] [] st (B8_show_23 st) := by
  intro st
  unfold B8_show_23
  refine j_aload_n (pc := 23) hk 0 rfl ⟨_, rfl⟩ dX8_show_23 ?_
  refine j_iconst (pc := 24) hk dX8_show_24 (v := -1) (by decide) ?_
  refine j_callVi (pc := 25) hk [.int (-1 : Int32)] [] rfl (fun l o hq9 => C8_no (-1 : Int32) st l o hq9) (rcv_8 (rfl)) yv_X8_no ml_8_81 rfl (Nat.le_of_ble_eq_true rfl) (Nat.le_of_ble_eq_true rfl) (Nat.le_of_ble_eq_true rfl) dX8_show_25 (fun x5 st6 => ?_)
  exact j_iret (pc := 28) hk dX8_show_28
def B8_show_29 (v1 : Int32) (v2 : Int32) (st : fkS) : Option (Int32 × fkS) :=
 fk_chk (fk_in v1 8) <| fk_let (sA st 6 v1.toNatClampNeg v2) <| fun st7 =>
 if v2 = (-1 : Int32) then
 (some ((0 : Int32), st7))
 else
 (some ((1 : Int32), st7))
set_option maxHeartbeats 1000000 in
set_option maxRecDepth 20000 in
theorem T8_show_29 {g : fkG} {k : fkK} (hk : fk_ok wM g k RX8 cX8_show 3 (some (.int)) 2 43) : ∀ (v1 : Int32) (v2 : Int32) (st : fkS), fk_J wM g fk_eI k 29 [(0, fk_r g 0), (1, .int v1), (2, .int v2)] [] st (B8_show_29 v1 v2 st) := by
  intro v1 v2 st
  unfold B8_show_29
  refine j_aload_n (pc := 29) hk 0 rfl ⟨_, rfl⟩ dX8_show_29 ?_
  refine f_8_25 (pc := 30) hk (rfl) dX8_show_30 ?_
  refine j_iload_n (pc := 33) hk 1 rfl dX8_show_33 ?_
  refine j_iload_n (pc := 34) hk 2 rfl dX8_show_34 ?_
  refine a_istore (pc := 35) hk (isI_8_9) dX8_show_35 (fun st7 => ?_)
  refine j_iload_n (pc := 36) hk 2 rfl dX8_show_36 ?_
  refine j_iconst (pc := 37) hk dX8_show_37 (v := -1) (by decide) ?_
  refine j_icmp_ne (tgt := 45) (pc := 38) hk (by decide) dX8_show_38 (fun _ => ?_) (fun _ => ?_)
  · refine j_iconst (pc := 41) hk dX8_show_41 (v := 0) (by decide) ?_
    refine j_goto (tgt := 46) (pc := 42) hk (by decide) dX8_show_42 ?_
    exact j_iret (pc := 46) hk dX8_show_46
  · refine j_iconst (pc := 45) hk dX8_show_45 (v := 1) (by decide) ?_
    exact j_iret (pc := 46) hk dX8_show_46
def F8_show (p1 : Int32) (p2 : Int32) (st : fkS) : Option (Int32 × fkS) :=
 fk_bind (F8_within p1 (0 : Int32) (7 : Int32) st) <| fun x1 st2 =>
 if x1 = 0 then
 (B8_show_23 st2)
 else
 (if p2 = (-1 : Int32) then
 (B8_show_29 p1 p2 st2)
 else
 (fk_bind (F8_isBird p2 st2) <| fun x3 st4 =>
 if x3 = 0 then
 (B8_show_23 st4)
 else
 (B8_show_29 p1 p2 st4)))
set_option maxHeartbeats 1000000 in
set_option maxRecDepth 20000 in
theorem C8_show (p1 : Int32) (p2 : Int32) (st : fkS) {g : fkG} (l : Launch) (o : Int32 × fkS) (hF : F8_show p1 p2 st = some o) : fk_C wM yX8_show cX8_show 3 (some (.int)) 2 43 l g [fk_r g 0, .int p1, .int p2] st (fk_eI o.1) o.2 := by
  refine fk_begin rfl (Nat.le_of_ble_eq_true rfl) (fun k hk => ?_) o hF
  have hk : fk_ok wM g k RX8 cX8_show 3 (some (.int)) 2 43 := hk
  show fk_J wM g fk_eI k 0 [(0, fk_r g 0), (1, .int p1), (2, .int p2)] [] st (F8_show p1 p2 st)
  unfold F8_show
  refine j_iload_n (pc := 0) hk 1 rfl dX8_show_0 ?_
  refine j_iconst (pc := 1) hk dX8_show_1 (v := 0) (by decide) ?_
  refine j_bipush (pc := 2) hk dX8_show_2 (v := 7) (by decide) ?_
  refine j_callSi (pc := 4) hk [.int p1, .int (0 : Int32), .int (7 : Int32)] [] rfl (fun l o hq9 => C8_within p1 (0 : Int32) (7 : Int32) st l o hq9) yv_X8_within ml_8_88 rfl (Nat.le_of_ble_eq_true rfl) (Nat.le_of_ble_eq_true rfl) (Nat.le_of_ble_eq_true rfl) dX8_show_4 (fun x1 st2 => ?_)
  refine j_if_eq (tgt := 23) (pc := 7) hk (by decide) dX8_show_7 (fun _ => ?_) (fun _ => ?_)
  · exact j_sub hk [0] rfl (T8_show_23 hk st2)
  · refine j_iload_n (pc := 10) hk 2 rfl dX8_show_10 ?_
    refine j_iconst (pc := 11) hk dX8_show_11 (v := -1) (by decide) ?_
    refine j_icmp_eq (tgt := 29) (pc := 12) hk (by decide) dX8_show_12 (fun _ => ?_) (fun _ => ?_)
    · exact j_sub hk [0, 1, 2] rfl (T8_show_29 hk p1 p2 st2)
    · refine j_aload_n (pc := 15) hk 0 rfl ⟨_, rfl⟩ dX8_show_15 ?_
      refine j_iload_n (pc := 16) hk 2 rfl dX8_show_16 ?_
      refine j_callVi (pc := 17) hk [.int p2] [] rfl (fun l o hq9 => C8_isBird p2 st2 l o hq9) (rcv_8 (rfl)) yv_X8_isBird ml_8_99 rfl (Nat.le_of_ble_eq_true rfl) (Nat.le_of_ble_eq_true rfl) (Nat.le_of_ble_eq_true rfl) dX8_show_17 (fun x3 st4 => ?_)
      refine j_if_ne (tgt := 29) (pc := 20) hk (by decide) dX8_show_20 (fun _ => ?_) (fun _ => ?_)
      · exact j_sub hk [0] rfl (T8_show_23 hk st4)
      · exact j_sub hk [0, 1, 2] rfl (T8_show_29 hk p1 p2 st4)
theorem dX8_holds_0 : decode cX8_holds 0 = .ok (.iload_n 1, 1) := by decide +kernel
theorem dX8_holds_1 : decode cX8_holds 1 = .ok (.iconst 0, 1) := by decide +kernel
theorem dX8_holds_2 : decode cX8_holds 2 = .ok (.bipush 7, 2) := by decide +kernel
theorem dX8_holds_4 : decode cX8_holds 4 = .ok (.invokestatic 88, 3) := by decide +kernel
theorem dX8_holds_7 : decode cX8_holds 7 = .ok (.ifCond .eq 12, 3) := by decide +kernel
theorem dX8_holds_10 : decode cX8_holds 10 = .ok (.aload_n 0, 1) := by decide +kernel
theorem dX8_holds_11 : decode cX8_holds 11 = .ok (.getfield 25, 3) := by decide +kernel
theorem dX8_holds_14 : decode cX8_holds 14 = .ok (.iload_n 1, 1) := by decide +kernel
theorem dX8_holds_15 : decode cX8_holds 15 = .ok (.iaload, 1) := by decide +kernel
theorem dX8_holds_16 : decode cX8_holds 16 = .ok (.goto 4, 3) := by decide +kernel
theorem dX8_holds_19 : decode cX8_holds 19 = .ok (.iconst (-1), 1) := by decide +kernel
theorem dX8_holds_20 : decode cX8_holds 20 = .ok (.ireturn, 1) := by decide +kernel
def F8_holds (p1 : Int32) (st : fkS) : Option (Int32 × fkS) :=
 fk_bind (F8_within p1 (0 : Int32) (7 : Int32) st) <| fun x1 st2 =>
 if x1 = 0 then
 (some ((-1 : Int32), st2))
 else
 (fk_chk (fk_in p1 8) <| fk_let (gA st2 6 p1.toNatClampNeg) <| fun x3 =>
 some (x3, st2))
set_option maxHeartbeats 1000000 in
set_option maxRecDepth 20000 in
theorem C8_holds (p1 : Int32) (st : fkS) {g : fkG} (l : Launch) (o : Int32 × fkS) (hF : F8_holds p1 st = some o) : fk_C wM yX8_holds cX8_holds 2 (some (.int)) 1 22 l g [fk_r g 0, .int p1] st (fk_eI o.1) o.2 := by
  refine fk_begin rfl (Nat.le_of_ble_eq_true rfl) (fun k hk => ?_) o hF
  have hk : fk_ok wM g k RX8 cX8_holds 2 (some (.int)) 1 22 := hk
  show fk_J wM g fk_eI k 0 [(0, fk_r g 0), (1, .int p1)] [] st (F8_holds p1 st)
  unfold F8_holds
  refine j_iload_n (pc := 0) hk 1 rfl dX8_holds_0 ?_
  refine j_iconst (pc := 1) hk dX8_holds_1 (v := 0) (by decide) ?_
  refine j_bipush (pc := 2) hk dX8_holds_2 (v := 7) (by decide) ?_
  refine j_callSi (pc := 4) hk [.int p1, .int (0 : Int32), .int (7 : Int32)] [] rfl (fun l o hq9 => C8_within p1 (0 : Int32) (7 : Int32) st l o hq9) yv_X8_within ml_8_88 rfl (Nat.le_of_ble_eq_true rfl) (Nat.le_of_ble_eq_true rfl) (Nat.le_of_ble_eq_true rfl) dX8_holds_4 (fun x1 st2 => ?_)
  refine j_if_eq (tgt := 19) (pc := 7) hk (by decide) dX8_holds_7 (fun _ => ?_) (fun _ => ?_)
  · refine j_iconst (pc := 19) hk dX8_holds_19 (v := -1) (by decide) ?_
    exact j_iret (pc := 20) hk dX8_holds_20
  · refine j_aload_n (pc := 10) hk 0 rfl ⟨_, rfl⟩ dX8_holds_10 ?_
    refine f_8_25 (pc := 11) hk (rfl) dX8_holds_11 ?_
    refine j_iload_n (pc := 14) hk 1 rfl dX8_holds_14 ?_
    refine a_iload (pc := 15) hk (isI_8_9) dX8_holds_15 (fun x3 => ?_)
    refine j_goto (tgt := 20) (pc := 16) hk (by decide) dX8_holds_16 ?_
    exact j_iret (pc := 20) hk dX8_holds_20
theorem dX8_above_0 : decode cX8_above 0 = .ok (.iload_n 0, 1) := by decide +kernel
theorem dX8_above_1 : decode cX8_above 1 = .ok (.iconst 3, 1) := by decide +kernel
theorem dX8_above_2 : decode cX8_above 2 = .ok (.if_icmp .ne 7, 3) := by decide +kernel
theorem dX8_above_5 : decode cX8_above 5 = .ok (.iconst 1, 1) := by decide +kernel
theorem dX8_above_6 : decode cX8_above 6 = .ok (.goto 23, 3) := by decide +kernel
theorem dX8_above_9 : decode cX8_above 9 = .ok (.iload_n 0, 1) := by decide +kernel
theorem dX8_above_10 : decode cX8_above 10 = .ok (.iconst 5, 1) := by decide +kernel
theorem dX8_above_11 : decode cX8_above 11 = .ok (.if_icmp .ne 7, 3) := by decide +kernel
theorem dX8_above_14 : decode cX8_above 14 = .ok (.iconst 2, 1) := by decide +kernel
theorem dX8_above_15 : decode cX8_above 15 = .ok (.goto 14, 3) := by decide +kernel
theorem dX8_above_18 : decode cX8_above 18 = .ok (.iload_n 0, 1) := by decide +kernel
theorem dX8_above_19 : decode cX8_above 19 = .ok (.bipush 6, 2) := by decide +kernel
theorem dX8_above_21 : decode cX8_above 21 = .ok (.if_icmp .ne 7, 3) := by decide +kernel
theorem dX8_above_24 : decode cX8_above 24 = .ok (.iconst 3, 1) := by decide +kernel
theorem dX8_above_25 : decode cX8_above 25 = .ok (.goto 4, 3) := by decide +kernel
theorem dX8_above_28 : decode cX8_above 28 = .ok (.iconst 0, 1) := by decide +kernel
theorem dX8_above_29 : decode cX8_above 29 = .ok (.ireturn, 1) := by decide +kernel
def F8_above (p0 : Int32) (st : fkS) : Option (Int32 × fkS) :=
 if p0 = (3 : Int32) then
 (some ((1 : Int32), st))
 else
 (if p0 = (5 : Int32) then
 (some ((2 : Int32), st))
 else
 (if p0 = (6 : Int32) then
 (some ((3 : Int32), st))
 else
 (some ((0 : Int32), st))))
set_option maxHeartbeats 1000000 in
set_option maxRecDepth 20000 in
theorem C8_above (p0 : Int32) (st : fkS) {g : fkG} (l : Launch) (o : Int32 × fkS) (hF : F8_above p0 st = some o) : fk_C wM yX8_above cX8_above 1 (some (.int)) 0 0 l g [.int p0] st (fk_eI o.1) o.2 := by
  refine fk_begin rfl (Nat.le_of_ble_eq_true rfl) (fun k hk => ?_) o hF
  have hk : fk_ok wM g k RX8 cX8_above 1 (some (.int)) 0 0 := hk
  show fk_J wM g fk_eI k 0 [(0, .int p0)] [] st (F8_above p0 st)
  unfold F8_above
  refine j_iload_n (pc := 0) hk 0 rfl dX8_above_0 ?_
  refine j_iconst (pc := 1) hk dX8_above_1 (v := 3) (by decide) ?_
  refine j_icmp_ne (tgt := 9) (pc := 2) hk (by decide) dX8_above_2 (fun _ => ?_) (fun _ => ?_)
  · refine j_iconst (pc := 5) hk dX8_above_5 (v := 1) (by decide) ?_
    refine j_goto (tgt := 29) (pc := 6) hk (by decide) dX8_above_6 ?_
    exact j_iret (pc := 29) hk dX8_above_29
  · refine j_iload_n (pc := 9) hk 0 rfl dX8_above_9 ?_
    refine j_iconst (pc := 10) hk dX8_above_10 (v := 5) (by decide) ?_
    refine j_icmp_ne (tgt := 18) (pc := 11) hk (by decide) dX8_above_11 (fun _ => ?_) (fun _ => ?_)
    · refine j_iconst (pc := 14) hk dX8_above_14 (v := 2) (by decide) ?_
      refine j_goto (tgt := 29) (pc := 15) hk (by decide) dX8_above_15 ?_
      exact j_iret (pc := 29) hk dX8_above_29
    · refine j_iload_n (pc := 18) hk 0 rfl dX8_above_18 ?_
      refine j_bipush (pc := 19) hk dX8_above_19 (v := 6) (by decide) ?_
      refine j_icmp_ne (tgt := 28) (pc := 21) hk (by decide) dX8_above_21 (fun _ => ?_) (fun _ => ?_)
      · refine j_iconst (pc := 24) hk dX8_above_24 (v := 3) (by decide) ?_
        refine j_goto (tgt := 29) (pc := 25) hk (by decide) dX8_above_25 ?_
        exact j_iret (pc := 29) hk dX8_above_29
      · refine j_iconst (pc := 28) hk dX8_above_28 (v := 0) (by decide) ?_
        exact j_iret (pc := 29) hk dX8_above_29
theorem dX8_isUnder_0 : decode cX8_isUnder 0 = .ok (.iload_n 0, 1) := by decide +kernel
theorem dX8_isUnder_1 : decode cX8_isUnder 1 = .ok (.istore_n 2, 1) := by decide +kernel
theorem dX8_isUnder_2 : decode cX8_isUnder 2 = .ok (.iload_n 2, 1) := by decide +kernel
theorem dX8_isUnder_3 : decode cX8_isUnder 3 = .ok (.iload_n 1, 1) := by decide +kernel
theorem dX8_isUnder_4 : decode cX8_isUnder 4 = .ok (.if_icmp .eq 15, 3) := by decide +kernel
theorem dX8_isUnder_7 : decode cX8_isUnder 7 = .ok (.iload_n 2, 1) := by decide +kernel
theorem dX8_isUnder_8 : decode cX8_isUnder 8 = .ok (.ifCond .le 11, 3) := by decide +kernel
theorem dX8_isUnder_11 : decode cX8_isUnder 11 = .ok (.iload_n 2, 1) := by decide +kernel
theorem dX8_isUnder_12 : decode cX8_isUnder 12 = .ok (.invokestatic 102, 3) := by decide +kernel
theorem dX8_isUnder_15 : decode cX8_isUnder 15 = .ok (.istore_n 2, 1) := by decide +kernel
theorem dX8_isUnder_16 : decode cX8_isUnder 16 = .ok (.goto (-14), 3) := by decide +kernel
theorem dX8_isUnder_19 : decode cX8_isUnder 19 = .ok (.iload_n 2, 1) := by decide +kernel
theorem dX8_isUnder_20 : decode cX8_isUnder 20 = .ok (.iload_n 1, 1) := by decide +kernel
theorem dX8_isUnder_21 : decode cX8_isUnder 21 = .ok (.if_icmp .ne 7, 3) := by decide +kernel
theorem dX8_isUnder_24 : decode cX8_isUnder 24 = .ok (.iconst 1, 1) := by decide +kernel
theorem dX8_isUnder_25 : decode cX8_isUnder 25 = .ok (.goto 4, 3) := by decide +kernel
theorem dX8_isUnder_28 : decode cX8_isUnder 28 = .ok (.iconst 0, 1) := by decide +kernel
theorem dX8_isUnder_29 : decode cX8_isUnder 29 = .ok (.ireturn, 1) := by decide +kernel
def B8_isUnder_19 (v1 : Int32) (v2 : Int32) (st : fkS) : Option (Int32 × fkS) :=
 if v2 = v1 then
 (some ((1 : Int32), st))
 else
 (some ((0 : Int32), st))
set_option maxHeartbeats 1000000 in
set_option maxRecDepth 20000 in
theorem T8_isUnder_19 {g : fkG} {k : fkK} (hk : fk_ok wM g k RX8 cX8_isUnder 3 (some (.boolean)) 1 20) : ∀ (v1 : Int32) (v2 : Int32) (st : fkS), fk_J wM g fk_eI k 19 [(1, .int v1), (2, .int v2)] [] st (B8_isUnder_19 v1 v2 st) := by
  intro v1 v2 st
  unfold B8_isUnder_19
  refine j_iload_n (pc := 19) hk 1 rfl dX8_isUnder_19 ?_
  refine j_iload_n (pc := 20) hk 0 rfl dX8_isUnder_20 ?_
  refine j_icmp_ne (tgt := 28) (pc := 21) hk (by decide) dX8_isUnder_21 (fun _ => ?_) (fun _ => ?_)
  · refine j_iconst (pc := 24) hk dX8_isUnder_24 (v := 1) (by decide) ?_
    refine j_goto (tgt := 29) (pc := 25) hk (by decide) dX8_isUnder_25 ?_
    exact j_zret (pc := 29) hk rfl dX8_isUnder_29
  · refine j_iconst (pc := 28) hk dX8_isUnder_28 (v := 0) (by decide) ?_
    exact j_zret (pc := 29) hk rfl dX8_isUnder_29
def B8_isUnder_2 (k2 : Int32 → Int32 → fkS → Option (Int32 × fkS)) (v1 : Int32) (v2 : Int32) (st : fkS) : Option (Int32 × fkS) :=
 if v2 = v1 then
 (B8_isUnder_19 v1 v2 st)
 else
 (if v2 ≤ 0 then
 (B8_isUnder_19 v1 v2 st)
 else
 (fk_bind (F8_above v2 st) <| fun x1 st2 =>
 k2 v1 x1 st2))
set_option maxHeartbeats 1000000 in
set_option maxRecDepth 20000 in
theorem T8_isUnder_2 {g : fkG} {k : fkK} (hk : fk_ok wM g k RX8 cX8_isUnder 3 (some (.boolean)) 1 20) (k2 : Int32 → Int32 → fkS → Option (Int32 × fkS)) (H2 : ∀ (v1 : Int32) (v2 : Int32) (st : fkS), fk_J wM g fk_eI k 2 [(1, .int v1), (2, .int v2)] [] st (k2 v1 v2 st)) : ∀ (v1 : Int32) (v2 : Int32) (st : fkS), fk_J wM g fk_eI k 2 [(1, .int v1), (2, .int v2)] [] st (B8_isUnder_2 k2 v1 v2 st) := by
  intro v1 v2 st
  unfold B8_isUnder_2
  refine j_iload_n (pc := 2) hk 1 rfl dX8_isUnder_2 ?_
  refine j_iload_n (pc := 3) hk 0 rfl dX8_isUnder_3 ?_
  refine j_icmp_eq (tgt := 19) (pc := 4) hk (by decide) dX8_isUnder_4 (fun _ => ?_) (fun _ => ?_)
  · exact j_sub hk [0, 1] rfl (T8_isUnder_19 hk v1 v2 st)
  · refine j_iload_n (pc := 7) hk 1 rfl dX8_isUnder_7 ?_
    refine j_if_le (tgt := 19) (pc := 8) hk (by decide) dX8_isUnder_8 (fun _ => ?_) (fun _ => ?_)
    · exact j_sub hk [0, 1] rfl (T8_isUnder_19 hk v1 v2 st)
    · refine j_iload_n (pc := 11) hk 1 rfl dX8_isUnder_11 ?_
      refine j_callSi (pc := 12) hk [.int v2] [] rfl (fun l o hq9 => C8_above v2 st l o hq9) yv_X8_above ml_8_102 rfl (Nat.le_of_ble_eq_true rfl) (Nat.le_of_ble_eq_true rfl) (Nat.le_of_ble_eq_true rfl) dX8_isUnder_12 (fun x1 st2 => ?_)
      refine j_istore_n (lv' := ((2, .int x1) :: [(1, .int v1)])) (pc := 15) hk rfl (by decide) rfl dX8_isUnder_15 ?_
      refine j_sub hk (lv' := [(1, .int v1), (2, .int x1)]) [1, 0] rfl ?_
      refine j_goto (tgt := 2) (pc := 16) hk (by decide) dX8_isUnder_16 ?_
      exact j_sub hk [0, 1] rfl (H2 v1 x1 st2)
set_option maxHeartbeats 1000000 in
set_option maxRecDepth 20000 in
theorem L8_isUnder_2 {g : fkG} {k : fkK} (hk : fk_ok wM g k RX8 cX8_isUnder 3 (some (.boolean)) 1 20) (fu : Nat) : ∀ (v1 : Int32) (v2 : Int32) (st : fkS), fk_J wM g fk_eI k 2 [(1, .int v1), (2, .int v2)] [] st (fk_lp2 (B8_isUnder_2) fu v1 v2 st) := by
  induction fu with
  | zero =>
    intro v1 v2 st
    exact j_none hk
  | succ fu ih =>
    exact T8_isUnder_2 hk _ ih
def F8_isUnder (p0 : Int32) (p1 : Int32) (st : fkS) : Option (Int32 × fkS) :=
 fk_lp2 (B8_isUnder_2) fk_fuel p1 p0 st
set_option maxHeartbeats 1000000 in
set_option maxRecDepth 20000 in
theorem C8_isUnder (p0 : Int32) (p1 : Int32) (st : fkS) {g : fkG} (l : Launch) (o : Int32 × fkS) (hF : F8_isUnder p0 p1 st = some o) : fk_C wM yX8_isUnder cX8_isUnder 3 (some (.boolean)) 1 20 l g [.int p0, .int p1] st (fk_eI o.1) o.2 := by
  refine fk_begin rfl (Nat.le_of_ble_eq_true rfl) (fun k hk => ?_) o hF
  have hk : fk_ok wM g k RX8 cX8_isUnder 3 (some (.boolean)) 1 20 := hk
  show fk_J wM g fk_eI k 0 [(0, .int p0), (1, .int p1)] [] st (F8_isUnder p0 p1 st)
  unfold F8_isUnder
  refine j_iload_n (pc := 0) hk 0 rfl dX8_isUnder_0 ?_
  refine j_istore_n (lv' := ((2, .int p0) :: [(0, .int p0), (1, .int p1)])) (pc := 1) hk rfl (by decide) rfl dX8_isUnder_1 ?_
  refine j_sub hk (lv' := [(0, .int p0), (1, .int p1), (2, .int p0)]) [1, 2, 0] rfl ?_
  exact j_sub hk [1, 2] rfl (L8_isUnder_2 hk fk_fuel p1 p0 st)
theorem dX8_plain_0 : decode cX8_plain 0 = .ok (.iconst 2, 1) := by decide +kernel
theorem dX8_plain_1 : decode cX8_plain 1 = .ok (.aload_n 0, 1) := by decide +kernel
theorem dX8_plain_2 : decode cX8_plain 2 = .ok (.getfield 50, 3) := by decide +kernel
theorem dX8_plain_5 : decode cX8_plain 5 = .ok (.iload_n 2, 1) := by decide +kernel
theorem dX8_plain_6 : decode cX8_plain 6 = .ok (.iaload, 1) := by decide +kernel
theorem dX8_plain_7 : decode cX8_plain 7 = .ok (.imul, 1) := by decide +kernel
theorem dX8_plain_8 : decode cX8_plain 8 = .ok (.aload_n 0, 1) := by decide +kernel
theorem dX8_plain_9 : decode cX8_plain 9 = .ok (.getfield 19, 3) := by decide +kernel
theorem dX8_plain_12 : decode cX8_plain 12 = .ok (.iconst 0, 1) := by decide +kernel
theorem dX8_plain_13 : decode cX8_plain 13 = .ok (.iaload, 1) := by decide +kernel
theorem dX8_plain_14 : decode cX8_plain 14 = .ok (.iadd, 1) := by decide +kernel
theorem dX8_plain_15 : decode cX8_plain 15 = .ok (.aload_n 0, 1) := by decide +kernel
theorem dX8_plain_16 : decode cX8_plain 16 = .ok (.getfield 16, 3) := by decide +kernel
theorem dX8_plain_19 : decode cX8_plain 19 = .ok (.iload_n 1, 1) := by decide +kernel
theorem dX8_plain_20 : decode cX8_plain 20 = .ok (.iaload, 1) := by decide +kernel
theorem dX8_plain_21 : decode cX8_plain 21 = .ok (.iadd, 1) := by decide +kernel
theorem dX8_plain_22 : decode cX8_plain 22 = .ok (.bipush 20, 2) := by decide +kernel
theorem dX8_plain_24 : decode cX8_plain 24 = .ok (.irem, 1) := by decide +kernel
theorem dX8_plain_25 : decode cX8_plain 25 = .ok (.ireturn, 1) := by decide +kernel
def F8_plain (p1 : Int32) (p2 : Int32) (st : fkS) : Option (Int32 × fkS) :=
 fk_chk (fk_in p2 8) <| fk_let (gA st 14 p2.toNatClampNeg) <| fun x1 =>
 fk_chk (fk_in (0 : Int32) 3) <| fk_let (gA st 4 (0 : Int32).toNatClampNeg) <| fun x2 =>
 fk_chk (fk_in p1 7) <| fk_let (gA st 3 p1.toNatClampNeg) <| fun x3 =>
 some ((fk_rem ((((2 : Int32) * x1) + x2) + x3) (20 : Int32)), st)
set_option maxHeartbeats 1000000 in
set_option maxRecDepth 20000 in
theorem C8_plain (p1 : Int32) (p2 : Int32) (st : fkS) {g : fkG} (l : Launch) (o : Int32 × fkS) (hF : F8_plain p1 p2 st = some o) : fk_C wM yX8_plain cX8_plain 3 (some (.int)) 0 0 l g [fk_r g 0, .int p1, .int p2] st (fk_eI o.1) o.2 := by
  refine fk_begin rfl (Nat.le_of_ble_eq_true rfl) (fun k hk => ?_) o hF
  have hk : fk_ok wM g k RX8 cX8_plain 3 (some (.int)) 0 0 := hk
  show fk_J wM g fk_eI k 0 [(0, fk_r g 0), (1, .int p1), (2, .int p2)] [] st (F8_plain p1 p2 st)
  unfold F8_plain
  refine j_iconst (pc := 0) hk dX8_plain_0 (v := 2) (by decide) ?_
  refine j_aload_n (pc := 1) hk 0 rfl ⟨_, rfl⟩ dX8_plain_1 ?_
  refine f_8_50 (pc := 2) hk (rfl) dX8_plain_2 ?_
  refine j_iload_n (pc := 5) hk 2 rfl dX8_plain_5 ?_
  refine a_iload (pc := 6) hk (isI_8_23) dX8_plain_6 (fun x1 => ?_)
  refine j_imul (pc := 7) hk dX8_plain_7 ?_
  refine j_aload_n (pc := 8) hk 0 rfl ⟨_, rfl⟩ dX8_plain_8 ?_
  refine f_8_19 (pc := 9) hk (rfl) dX8_plain_9 ?_
  refine j_iconst (pc := 12) hk dX8_plain_12 (v := 0) (by decide) ?_
  refine a_iload (pc := 13) hk (isI_8_4) dX8_plain_13 (fun x2 => ?_)
  refine j_iadd (pc := 14) hk dX8_plain_14 ?_
  refine j_aload_n (pc := 15) hk 0 rfl ⟨_, rfl⟩ dX8_plain_15 ?_
  refine f_8_16 (pc := 16) hk (rfl) dX8_plain_16 ?_
  refine j_iload_n (pc := 19) hk 1 rfl dX8_plain_19 ?_
  refine a_iload (pc := 20) hk (isI_8_3) dX8_plain_20 (fun x3 => ?_)
  refine j_iadd (pc := 21) hk dX8_plain_21 ?_
  refine j_bipush (pc := 22) hk dX8_plain_22 (v := 20) (by decide) ?_
  refine j_irem (pc := 24) hk (show fk_nz (20 : Int32) = true from by decide) dX8_plain_24 ?_
  exact j_iret (pc := 25) hk dX8_plain_25
theorem dX8_chipped_0 : decode cX8_chipped 0 = .ok (.aload_n 0, 1) := by decide +kernel
theorem dX8_chipped_1 : decode cX8_chipped 1 = .ok (.iload_n 1, 1) := by decide +kernel
theorem dX8_chipped_2 : decode cX8_chipped 2 = .ok (.iload_n 2, 1) := by decide +kernel
theorem dX8_chipped_3 : decode cX8_chipped 3 = .ok (.invokevirtual 192, 3) := by decide +kernel
theorem dX8_chipped_6 : decode cX8_chipped 6 = .ok (.istore_n 3, 1) := by decide +kernel
theorem dX8_chipped_7 : decode cX8_chipped 7 = .ok (.iload_n 3, 1) := by decide +kernel
theorem dX8_chipped_8 : decode cX8_chipped 8 = .ok (.iconst 3, 1) := by decide +kernel
theorem dX8_chipped_9 : decode cX8_chipped 9 = .ok (.irem, 1) := by decide +kernel
theorem dX8_chipped_10 : decode cX8_chipped 10 = .ok (.ifCond .ne 12, 3) := by decide +kernel
theorem dX8_chipped_13 : decode cX8_chipped 13 = .ok (.iload_n 3, 1) := by decide +kernel
theorem dX8_chipped_14 : decode cX8_chipped 14 = .ok (.iconst 1, 1) := by decide +kernel
theorem dX8_chipped_15 : decode cX8_chipped 15 = .ok (.iadd, 1) := by decide +kernel
theorem dX8_chipped_16 : decode cX8_chipped 16 = .ok (.bipush 20, 2) := by decide +kernel
theorem dX8_chipped_18 : decode cX8_chipped 18 = .ok (.irem, 1) := by decide +kernel
theorem dX8_chipped_19 : decode cX8_chipped 19 = .ok (.goto 4, 3) := by decide +kernel
theorem dX8_chipped_22 : decode cX8_chipped 22 = .ok (.iload_n 3, 1) := by decide +kernel
theorem dX8_chipped_23 : decode cX8_chipped 23 = .ok (.ireturn, 1) := by decide +kernel
def F8_chipped (p1 : Int32) (p2 : Int32) (st : fkS) : Option (Int32 × fkS) :=
 fk_bind (F8_plain p1 p2 st) <| fun x1 st2 =>
 if (fk_rem x1 (3 : Int32)) = 0 then
 (some ((fk_rem (x1 + (1 : Int32)) (20 : Int32)), st2))
 else
 (some (x1, st2))
set_option maxHeartbeats 1000000 in
set_option maxRecDepth 20000 in
theorem C8_chipped (p1 : Int32) (p2 : Int32) (st : fkS) {g : fkG} (l : Launch) (o : Int32 × fkS) (hF : F8_chipped p1 p2 st = some o) : fk_C wM yX8_chipped cX8_chipped 4 (some (.int)) 1 22 l g [fk_r g 0, .int p1, .int p2] st (fk_eI o.1) o.2 := by
  refine fk_begin rfl (Nat.le_of_ble_eq_true rfl) (fun k hk => ?_) o hF
  have hk : fk_ok wM g k RX8 cX8_chipped 4 (some (.int)) 1 22 := hk
  show fk_J wM g fk_eI k 0 [(0, fk_r g 0), (1, .int p1), (2, .int p2)] [] st (F8_chipped p1 p2 st)
  unfold F8_chipped
  refine j_aload_n (pc := 0) hk 0 rfl ⟨_, rfl⟩ dX8_chipped_0 ?_
  refine j_iload_n (pc := 1) hk 1 rfl dX8_chipped_1 ?_
  refine j_iload_n (pc := 2) hk 2 rfl dX8_chipped_2 ?_
  refine j_callVi (pc := 3) hk [.int p1, .int p2] [] rfl (fun l o hq9 => C8_plain p1 p2 st l o hq9) (rcv_8 (rfl)) yv_X8_plain ml_8_192 rfl (Nat.le_of_ble_eq_true rfl) (Nat.le_of_ble_eq_true rfl) (Nat.le_of_ble_eq_true rfl) dX8_chipped_3 (fun x1 st2 => ?_)
  refine j_istore_n (lv' := ((3, .int x1) :: [(0, fk_r g 0), (1, .int p1), (2, .int p2)])) (pc := 6) hk rfl (by decide) rfl dX8_chipped_6 ?_
  refine j_sub hk (lv' := [(0, fk_r g 0), (1, .int p1), (2, .int p2), (3, .int x1)]) [1, 2, 3, 0] rfl ?_
  refine j_iload_n (pc := 7) hk 3 rfl dX8_chipped_7 ?_
  refine j_iconst (pc := 8) hk dX8_chipped_8 (v := 3) (by decide) ?_
  refine j_irem (pc := 9) hk (show fk_nz (3 : Int32) = true from by decide) dX8_chipped_9 ?_
  refine j_if_ne (tgt := 22) (pc := 10) hk (by decide) dX8_chipped_10 (fun _ => ?_) (fun _ => ?_)
  · refine j_iload_n (pc := 13) hk 3 rfl dX8_chipped_13 ?_
    refine j_iconst (pc := 14) hk dX8_chipped_14 (v := 1) (by decide) ?_
    refine j_iadd (pc := 15) hk dX8_chipped_15 ?_
    refine j_bipush (pc := 16) hk dX8_chipped_16 (v := 20) (by decide) ?_
    refine j_irem (pc := 18) hk (show fk_nz (20 : Int32) = true from by decide) dX8_chipped_18 ?_
    refine j_goto (tgt := 23) (pc := 19) hk (by decide) dX8_chipped_19 ?_
    exact j_iret (pc := 23) hk dX8_chipped_23
  · refine j_iload_n (pc := 22) hk 3 rfl dX8_chipped_22 ?_
    exact j_iret (pc := 23) hk dX8_chipped_23
theorem dX8_widowed_0 : decode cX8_widowed 0 = .ok (.aload_n 0, 1) := by decide +kernel
theorem dX8_widowed_1 : decode cX8_widowed 1 = .ok (.iload_n 1, 1) := by decide +kernel
theorem dX8_widowed_2 : decode cX8_widowed 2 = .ok (.iload_n 2, 1) := by decide +kernel
theorem dX8_widowed_3 : decode cX8_widowed 3 = .ok (.invokevirtual 195, 3) := by decide +kernel
theorem dX8_widowed_6 : decode cX8_widowed 6 = .ok (.aload_n 0, 1) := by decide +kernel
theorem dX8_widowed_7 : decode cX8_widowed 7 = .ok (.getfield 13, 3) := by decide +kernel
theorem dX8_widowed_10 : decode cX8_widowed 10 = .ok (.iload_n 1, 1) := by decide +kernel
theorem dX8_widowed_11 : decode cX8_widowed 11 = .ok (.iaload, 1) := by decide +kernel
theorem dX8_widowed_12 : decode cX8_widowed 12 = .ok (.iadd, 1) := by decide +kernel
theorem dX8_widowed_13 : decode cX8_widowed 13 = .ok (.bipush 20, 2) := by decide +kernel
theorem dX8_widowed_15 : decode cX8_widowed 15 = .ok (.irem, 1) := by decide +kernel
theorem dX8_widowed_16 : decode cX8_widowed 16 = .ok (.ireturn, 1) := by decide +kernel
def F8_widowed (p1 : Int32) (p2 : Int32) (st : fkS) : Option (Int32 × fkS) :=
 fk_bind (F8_chipped p1 p2 st) <| fun x1 st2 =>
 fk_chk (fk_in p1 7) <| fk_let (gA st2 2 p1.toNatClampNeg) <| fun x3 =>
 some ((fk_rem (x1 + x3) (20 : Int32)), st2)
set_option maxHeartbeats 1000000 in
set_option maxRecDepth 20000 in
theorem C8_widowed (p1 : Int32) (p2 : Int32) (st : fkS) {g : fkG} (l : Launch) (o : Int32 × fkS) (hF : F8_widowed p1 p2 st = some o) : fk_C wM yX8_widowed cX8_widowed 3 (some (.int)) 2 45 l g [fk_r g 0, .int p1, .int p2] st (fk_eI o.1) o.2 := by
  refine fk_begin rfl (Nat.le_of_ble_eq_true rfl) (fun k hk => ?_) o hF
  have hk : fk_ok wM g k RX8 cX8_widowed 3 (some (.int)) 2 45 := hk
  show fk_J wM g fk_eI k 0 [(0, fk_r g 0), (1, .int p1), (2, .int p2)] [] st (F8_widowed p1 p2 st)
  unfold F8_widowed
  refine j_aload_n (pc := 0) hk 0 rfl ⟨_, rfl⟩ dX8_widowed_0 ?_
  refine j_iload_n (pc := 1) hk 1 rfl dX8_widowed_1 ?_
  refine j_iload_n (pc := 2) hk 2 rfl dX8_widowed_2 ?_
  refine j_callVi (pc := 3) hk [.int p1, .int p2] [] rfl (fun l o hq9 => C8_chipped p1 p2 st l o hq9) (rcv_8 (rfl)) yv_X8_chipped ml_8_195 rfl (Nat.le_of_ble_eq_true rfl) (Nat.le_of_ble_eq_true rfl) (Nat.le_of_ble_eq_true rfl) dX8_widowed_3 (fun x1 st2 => ?_)
  refine j_aload_n (pc := 6) hk 0 rfl ⟨_, rfl⟩ dX8_widowed_6 ?_
  refine f_8_13 (pc := 7) hk (rfl) dX8_widowed_7 ?_
  refine j_iload_n (pc := 10) hk 1 rfl dX8_widowed_10 ?_
  refine a_iload (pc := 11) hk (isI_8_2) dX8_widowed_11 (fun x3 => ?_)
  refine j_iadd (pc := 12) hk dX8_widowed_12 ?_
  refine j_bipush (pc := 13) hk dX8_widowed_13 (v := 20) (by decide) ?_
  refine j_irem (pc := 15) hk (show fk_nz (20 : Int32) = true from by decide) dX8_widowed_15 ?_
  exact j_iret (pc := 16) hk dX8_widowed_16
theorem dX8_sorts_0 : decode cX8_sorts 0 = .ok (.iconst 1, 1) := by decide +kernel
theorem dX8_sorts_1 : decode cX8_sorts 1 = .ok (.istore_n 1, 1) := by decide +kernel
theorem dX8_sorts_2 : decode cX8_sorts 2 = .ok (.iload_n 1, 1) := by decide +kernel
theorem dX8_sorts_3 : decode cX8_sorts 3 = .ok (.aload_n 0, 1) := by decide +kernel
theorem dX8_sorts_4 : decode cX8_sorts 4 = .ok (.getfield 119, 3) := by decide +kernel
theorem dX8_sorts_7 : decode cX8_sorts 7 = .ok (.if_icmp .ge 68, 3) := by decide +kernel
theorem dX8_sorts_10 : decode cX8_sorts 10 = .ok (.iload_n 1, 1) := by decide +kernel
theorem dX8_sorts_11 : decode cX8_sorts 11 = .ok (.istore_n 2, 1) := by decide +kernel
theorem dX8_sorts_12 : decode cX8_sorts 12 = .ok (.iload_n 2, 1) := by decide +kernel
theorem dX8_sorts_13 : decode cX8_sorts 13 = .ok (.ifCond .le 56, 3) := by decide +kernel
theorem dX8_sorts_16 : decode cX8_sorts 16 = .ok (.aload_n 0, 1) := by decide +kernel
theorem dX8_sorts_17 : decode cX8_sorts 17 = .ok (.getfield 53, 3) := by decide +kernel
theorem dX8_sorts_20 : decode cX8_sorts 20 = .ok (.iload_n 2, 1) := by decide +kernel
theorem dX8_sorts_21 : decode cX8_sorts 21 = .ok (.iconst 1, 1) := by decide +kernel
theorem dX8_sorts_22 : decode cX8_sorts 22 = .ok (.isub, 1) := by decide +kernel
theorem dX8_sorts_23 : decode cX8_sorts 23 = .ok (.iaload, 1) := by decide +kernel
theorem dX8_sorts_24 : decode cX8_sorts 24 = .ok (.aload_n 0, 1) := by decide +kernel
theorem dX8_sorts_25 : decode cX8_sorts 25 = .ok (.getfield 53, 3) := by decide +kernel
theorem dX8_sorts_28 : decode cX8_sorts 28 = .ok (.iload_n 2, 1) := by decide +kernel
theorem dX8_sorts_29 : decode cX8_sorts 29 = .ok (.iaload, 1) := by decide +kernel
theorem dX8_sorts_30 : decode cX8_sorts 30 = .ok (.if_icmp .le 39, 3) := by decide +kernel
theorem dX8_sorts_33 : decode cX8_sorts 33 = .ok (.aload_n 0, 1) := by decide +kernel
theorem dX8_sorts_34 : decode cX8_sorts 34 = .ok (.getfield 53, 3) := by decide +kernel
theorem dX8_sorts_37 : decode cX8_sorts 37 = .ok (.iload_n 2, 1) := by decide +kernel
theorem dX8_sorts_38 : decode cX8_sorts 38 = .ok (.iaload, 1) := by decide +kernel
theorem dX8_sorts_39 : decode cX8_sorts 39 = .ok (.istore_n 3, 1) := by decide +kernel
theorem dX8_sorts_40 : decode cX8_sorts 40 = .ok (.aload_n 0, 1) := by decide +kernel
theorem dX8_sorts_41 : decode cX8_sorts 41 = .ok (.getfield 53, 3) := by decide +kernel
theorem dX8_sorts_44 : decode cX8_sorts 44 = .ok (.iload_n 2, 1) := by decide +kernel
theorem dX8_sorts_45 : decode cX8_sorts 45 = .ok (.aload_n 0, 1) := by decide +kernel
theorem dX8_sorts_46 : decode cX8_sorts 46 = .ok (.getfield 53, 3) := by decide +kernel
theorem dX8_sorts_49 : decode cX8_sorts 49 = .ok (.iload_n 2, 1) := by decide +kernel
theorem dX8_sorts_50 : decode cX8_sorts 50 = .ok (.iconst 1, 1) := by decide +kernel
theorem dX8_sorts_51 : decode cX8_sorts 51 = .ok (.isub, 1) := by decide +kernel
theorem dX8_sorts_52 : decode cX8_sorts 52 = .ok (.iaload, 1) := by decide +kernel
theorem dX8_sorts_53 : decode cX8_sorts 53 = .ok (.iastore, 1) := by decide +kernel
theorem dX8_sorts_54 : decode cX8_sorts 54 = .ok (.aload_n 0, 1) := by decide +kernel
theorem dX8_sorts_55 : decode cX8_sorts 55 = .ok (.getfield 53, 3) := by decide +kernel
theorem dX8_sorts_58 : decode cX8_sorts 58 = .ok (.iload_n 2, 1) := by decide +kernel
theorem dX8_sorts_59 : decode cX8_sorts 59 = .ok (.iconst 1, 1) := by decide +kernel
theorem dX8_sorts_60 : decode cX8_sorts 60 = .ok (.isub, 1) := by decide +kernel
theorem dX8_sorts_61 : decode cX8_sorts 61 = .ok (.iload_n 3, 1) := by decide +kernel
theorem dX8_sorts_62 : decode cX8_sorts 62 = .ok (.iastore, 1) := by decide +kernel
theorem dX8_sorts_63 : decode cX8_sorts 63 = .ok (.iinc 2 (-1), 3) := by decide +kernel
theorem dX8_sorts_66 : decode cX8_sorts 66 = .ok (.goto (-54), 3) := by decide +kernel
theorem dX8_sorts_69 : decode cX8_sorts 69 = .ok (.iinc 1 1, 3) := by decide +kernel
theorem dX8_sorts_72 : decode cX8_sorts 72 = .ok (.goto (-70), 3) := by decide +kernel
theorem dX8_sorts_75 : decode cX8_sorts 75 = .ok (.return_, 1) := by decide +kernel
def B8_sorts_69 (k2 : Int32 → fkS → Option (Unit × fkS)) (v1 : Int32) (st : fkS) : Option (Unit × fkS) :=
 k2 (v1 + (1 : Int32)) st
set_option maxHeartbeats 1000000 in
set_option maxRecDepth 20000 in
theorem T8_sorts_69 {g : fkG} {k : fkK} (hk : fk_ok wM g k RX8 cX8_sorts 4 none 0 0) (k2 : Int32 → fkS → Option (Unit × fkS)) (H2 : ∀ (v1 : Int32) (st : fkS), fk_J wM g fk_eU k 2 [(0, fk_r g 0), (1, .int v1)] [] st (k2 v1 st)) : ∀ (v1 : Int32) (st : fkS), fk_J wM g fk_eU k 69 [(0, fk_r g 0), (1, .int v1)] [] st (B8_sorts_69 k2 v1 st) := by
  intro v1 st
  unfold B8_sorts_69
  refine j_iinc (dd := (1 : Int32)) (lv' := ((1, .int (v1 + (1 : Int32))) :: [(0, fk_r g 0)])) (pc := 69) hk 1 rfl (by decide) (by decide) rfl dX8_sorts_69 ?_
  refine j_sub hk (lv' := [(0, fk_r g 0), (1, .int (v1 + (1 : Int32)))]) [1, 0] rfl ?_
  refine j_goto (tgt := 2) (pc := 72) hk (by decide) dX8_sorts_72 ?_
  exact j_sub hk [0, 1] rfl (H2 (v1 + (1 : Int32)) st)
def B8_sorts_12 (k2 : Int32 → fkS → Option (Unit × fkS)) (k12 : Int32 → Int32 → fkS → Option (Unit × fkS)) (v1 : Int32) (v2 : Int32) (st : fkS) : Option (Unit × fkS) :=
 if v2 ≤ 0 then
 (B8_sorts_69 k2 v1 st)
 else
 (fk_chk (fk_in (v2 - (1 : Int32)) 16) <| fk_let (gA st 15 (v2 - (1 : Int32)).toNatClampNeg) <| fun x2 =>
 fk_chk (fk_in v2 16) <| fk_let (gA st 15 v2.toNatClampNeg) <| fun x3 =>
 if x2 ≤ x3 then
 (B8_sorts_69 k2 v1 st)
 else
 (fk_chk (fk_in v2 16) <| fk_let (gA st 15 v2.toNatClampNeg) <| fun x4 =>
 fk_chk (fk_in (v2 - (1 : Int32)) 16) <| fk_let (gA st 15 (v2 - (1 : Int32)).toNatClampNeg) <| fun x5 =>
 fk_chk (fk_in v2 16) <| fk_let (sA st 15 v2.toNatClampNeg x5) <| fun st6 =>
 fk_chk (fk_in (v2 - (1 : Int32)) 16) <| fk_let (sA st6 15 (v2 - (1 : Int32)).toNatClampNeg x4) <| fun st7 =>
 k12 v1 (v2 + (-1 : Int32)) st7))
set_option maxHeartbeats 1000000 in
set_option maxRecDepth 20000 in
theorem T8_sorts_12 {g : fkG} {k : fkK} (hk : fk_ok wM g k RX8 cX8_sorts 4 none 0 0) (k2 : Int32 → fkS → Option (Unit × fkS)) (H2 : ∀ (v1 : Int32) (st : fkS), fk_J wM g fk_eU k 2 [(0, fk_r g 0), (1, .int v1)] [] st (k2 v1 st)) (k12 : Int32 → Int32 → fkS → Option (Unit × fkS)) (H12 : ∀ (v1 : Int32) (v2 : Int32) (st : fkS), fk_J wM g fk_eU k 12 [(0, fk_r g 0), (1, .int v1), (2, .int v2)] [] st (k12 v1 v2 st)) : ∀ (v1 : Int32) (v2 : Int32) (st : fkS), fk_J wM g fk_eU k 12 [(0, fk_r g 0), (1, .int v1), (2, .int v2)] [] st (B8_sorts_12 k2 k12 v1 v2 st) := by
  intro v1 v2 st
  unfold B8_sorts_12
  refine j_iload_n (pc := 12) hk 2 rfl dX8_sorts_12 ?_
  refine j_if_le (tgt := 69) (pc := 13) hk (by decide) dX8_sorts_13 (fun _ => ?_) (fun _ => ?_)
  · exact j_sub hk [0, 1] rfl (T8_sorts_69 hk k2 H2 v1 st)
  · refine j_aload_n (pc := 16) hk 0 rfl ⟨_, rfl⟩ dX8_sorts_16 ?_
    refine f_8_53 (pc := 17) hk (rfl) dX8_sorts_17 ?_
    refine j_iload_n (pc := 20) hk 2 rfl dX8_sorts_20 ?_
    refine j_iconst (pc := 21) hk dX8_sorts_21 (v := 1) (by decide) ?_
    refine j_isub (pc := 22) hk dX8_sorts_22 ?_
    refine a_iload (pc := 23) hk (isI_8_25) dX8_sorts_23 (fun x2 => ?_)
    refine j_aload_n (pc := 24) hk 0 rfl ⟨_, rfl⟩ dX8_sorts_24 ?_
    refine f_8_53 (pc := 25) hk (rfl) dX8_sorts_25 ?_
    refine j_iload_n (pc := 28) hk 2 rfl dX8_sorts_28 ?_
    refine a_iload (pc := 29) hk (isI_8_25) dX8_sorts_29 (fun x3 => ?_)
    refine j_icmp_le (tgt := 69) (pc := 30) hk (by decide) dX8_sorts_30 (fun _ => ?_) (fun _ => ?_)
    · exact j_sub hk [0, 1] rfl (T8_sorts_69 hk k2 H2 v1 st)
    · refine j_aload_n (pc := 33) hk 0 rfl ⟨_, rfl⟩ dX8_sorts_33 ?_
      refine f_8_53 (pc := 34) hk (rfl) dX8_sorts_34 ?_
      refine j_iload_n (pc := 37) hk 2 rfl dX8_sorts_37 ?_
      refine a_iload (pc := 38) hk (isI_8_25) dX8_sorts_38 (fun x4 => ?_)
      refine j_istore_n (lv' := ((3, .int x4) :: [(0, fk_r g 0), (1, .int v1), (2, .int v2)])) (pc := 39) hk rfl (by decide) rfl dX8_sorts_39 ?_
      refine j_sub hk (lv' := [(0, fk_r g 0), (1, .int v1), (2, .int v2), (3, .int x4)]) [1, 2, 3, 0] rfl ?_
      refine j_aload_n (pc := 40) hk 0 rfl ⟨_, rfl⟩ dX8_sorts_40 ?_
      refine f_8_53 (pc := 41) hk (rfl) dX8_sorts_41 ?_
      refine j_iload_n (pc := 44) hk 2 rfl dX8_sorts_44 ?_
      refine j_aload_n (pc := 45) hk 0 rfl ⟨_, rfl⟩ dX8_sorts_45 ?_
      refine f_8_53 (pc := 46) hk (rfl) dX8_sorts_46 ?_
      refine j_iload_n (pc := 49) hk 2 rfl dX8_sorts_49 ?_
      refine j_iconst (pc := 50) hk dX8_sorts_50 (v := 1) (by decide) ?_
      refine j_isub (pc := 51) hk dX8_sorts_51 ?_
      refine a_iload (pc := 52) hk (isI_8_25) dX8_sorts_52 (fun x5 => ?_)
      refine a_istore (pc := 53) hk (isI_8_25) dX8_sorts_53 (fun st6 => ?_)
      refine j_aload_n (pc := 54) hk 0 rfl ⟨_, rfl⟩ dX8_sorts_54 ?_
      refine f_8_53 (pc := 55) hk (rfl) dX8_sorts_55 ?_
      refine j_iload_n (pc := 58) hk 2 rfl dX8_sorts_58 ?_
      refine j_iconst (pc := 59) hk dX8_sorts_59 (v := 1) (by decide) ?_
      refine j_isub (pc := 60) hk dX8_sorts_60 ?_
      refine j_iload_n (pc := 61) hk 3 rfl dX8_sorts_61 ?_
      refine a_istore (pc := 62) hk (isI_8_25) dX8_sorts_62 (fun st7 => ?_)
      refine j_iinc (dd := (-1 : Int32)) (lv' := ((2, .int (v2 + (-1 : Int32))) :: [(0, fk_r g 0), (1, .int v1), (3, .int x4)])) (pc := 63) hk 2 rfl (by decide) (by decide) rfl dX8_sorts_63 ?_
      refine j_sub hk (lv' := [(0, fk_r g 0), (1, .int v1), (2, .int (v2 + (-1 : Int32))), (3, .int x4)]) [1, 2, 0, 3] rfl ?_
      refine j_goto (tgt := 12) (pc := 66) hk (by decide) dX8_sorts_66 ?_
      exact j_sub hk [0, 1, 2] rfl (H12 v1 (v2 + (-1 : Int32)) st7)
set_option maxHeartbeats 1000000 in
set_option maxRecDepth 20000 in
theorem L8_sorts_12 {g : fkG} {k : fkK} (hk : fk_ok wM g k RX8 cX8_sorts 4 none 0 0) (k2 : Int32 → fkS → Option (Unit × fkS)) (H2 : ∀ (v1 : Int32) (st : fkS), fk_J wM g fk_eU k 2 [(0, fk_r g 0), (1, .int v1)] [] st (k2 v1 st)) (fu : Nat) : ∀ (v1 : Int32) (v2 : Int32) (st : fkS), fk_J wM g fk_eU k 12 [(0, fk_r g 0), (1, .int v1), (2, .int v2)] [] st (fk_lp2 (B8_sorts_12 k2) fu v1 v2 st) := by
  induction fu with
  | zero =>
    intro v1 v2 st
    exact j_none hk
  | succ fu ih =>
    exact T8_sorts_12 hk k2 H2 _ ih
def B8_sorts_2 (k2 : Int32 → fkS → Option (Unit × fkS)) (v1 : Int32) (st : fkS) : Option (Unit × fkS) :=
 fk_let (gI st 24 0) <| fun x1 =>
 if x1 ≤ v1 then
 (some ((), st))
 else
 (fk_lp2 (B8_sorts_12 k2) fk_fuel v1 v1 st)
set_option maxHeartbeats 1000000 in
set_option maxRecDepth 20000 in
theorem T8_sorts_2 {g : fkG} {k : fkK} (hk : fk_ok wM g k RX8 cX8_sorts 4 none 0 0) (k2 : Int32 → fkS → Option (Unit × fkS)) (H2 : ∀ (v1 : Int32) (st : fkS), fk_J wM g fk_eU k 2 [(0, fk_r g 0), (1, .int v1)] [] st (k2 v1 st)) : ∀ (v1 : Int32) (st : fkS), fk_J wM g fk_eU k 2 [(0, fk_r g 0), (1, .int v1)] [] st (B8_sorts_2 k2 v1 st) := by
  intro v1 st
  unfold B8_sorts_2
  refine j_iload_n (pc := 2) hk 1 rfl dX8_sorts_2 ?_
  refine j_aload_n (pc := 3) hk 0 rfl ⟨_, rfl⟩ dX8_sorts_3 ?_
  refine f_8_119 (pc := 4) hk (rfl) dX8_sorts_4 (fun x1 => ?_)
  refine j_icmp_ge (tgt := 75) (pc := 7) hk (by decide) dX8_sorts_7 (fun _ => ?_) (fun _ => ?_)
  · exact j_vret (pc := 75) hk dX8_sorts_75
  · refine j_iload_n (pc := 10) hk 1 rfl dX8_sorts_10 ?_
    refine j_istore_n (lv' := ((2, .int v1) :: [(0, fk_r g 0), (1, .int v1)])) (pc := 11) hk rfl (by decide) rfl dX8_sorts_11 ?_
    refine j_sub hk (lv' := [(0, fk_r g 0), (1, .int v1), (2, .int v1)]) [1, 2, 0] rfl ?_
    exact j_sub hk [0, 1, 2] rfl (L8_sorts_12 hk k2 H2 fk_fuel v1 v1 st)
set_option maxHeartbeats 1000000 in
set_option maxRecDepth 20000 in
theorem L8_sorts_2 {g : fkG} {k : fkK} (hk : fk_ok wM g k RX8 cX8_sorts 4 none 0 0) (fu : Nat) : ∀ (v1 : Int32) (st : fkS), fk_J wM g fk_eU k 2 [(0, fk_r g 0), (1, .int v1)] [] st (fk_lp1 (B8_sorts_2) fu v1 st) := by
  induction fu with
  | zero =>
    intro v1 st
    exact j_none hk
  | succ fu ih =>
    exact T8_sorts_2 hk _ ih
def F8_sorts (st : fkS) : Option (Unit × fkS) :=
 fk_lp1 (B8_sorts_2) fk_fuel (1 : Int32) st
set_option maxHeartbeats 1000000 in
set_option maxRecDepth 20000 in
theorem C8_sorts (st : fkS) {g : fkG} (l : Launch) (o : Unit × fkS) (hF : F8_sorts st = some o) : fk_C wM yX8_sorts cX8_sorts 4 none 0 0 l g [fk_r g 0] st (fk_eU o.1) o.2 := by
  refine fk_begin rfl (Nat.le_of_ble_eq_true rfl) (fun k hk => ?_) o hF
  have hk : fk_ok wM g k RX8 cX8_sorts 4 none 0 0 := hk
  show fk_J wM g fk_eU k 0 [(0, fk_r g 0)] [] st (F8_sorts st)
  unfold F8_sorts
  refine j_iconst (pc := 0) hk dX8_sorts_0 (v := 1) (by decide) ?_
  refine j_istore_n (lv' := ((1, .int (1 : Int32)) :: [(0, fk_r g 0)])) (pc := 1) hk rfl (by decide) rfl dX8_sorts_1 ?_
  refine j_sub hk (lv' := [(0, fk_r g 0), (1, .int (1 : Int32))]) [1, 0] rfl ?_
  exact j_sub hk [0, 1] rfl (L8_sorts_2 hk fk_fuel (1 : Int32) st)
