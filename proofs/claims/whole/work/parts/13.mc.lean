theorem dX7_noShelf_0 : decode cX7_noShelf 0 = .ok (.iload_n 1, 1) := by decide +kernel
theorem dX7_noShelf_1 : decode cX7_noShelf 1 = .ok (.ifCond .lt 21, 3) := by decide +kernel
theorem dX7_noShelf_4 : decode cX7_noShelf 4 = .ok (.iload_n 1, 1) := by decide +kernel
theorem dX7_noShelf_5 : decode cX7_noShelf 5 = .ok (.aload_n 0, 1) := by decide +kernel
theorem dX7_noShelf_6 : decode cX7_noShelf 6 = .ok (.getfield 11, 3) := by decide +kernel
theorem dX7_noShelf_9 : decode cX7_noShelf 9 = .ok (.arraylength, 1) := by decide +kernel
theorem dX7_noShelf_10 : decode cX7_noShelf 10 = .ok (.if_icmp .ge 12, 3) := by decide +kernel
theorem dX7_noShelf_13 : decode cX7_noShelf 13 = .ok (.aload_n 0, 1) := by decide +kernel
theorem dX7_noShelf_14 : decode cX7_noShelf 14 = .ok (.getfield 11, 3) := by decide +kernel
theorem dX7_noShelf_17 : decode cX7_noShelf 17 = .ok (.iload_n 1, 1) := by decide +kernel
theorem dX7_noShelf_18 : decode cX7_noShelf 18 = .ok (.aaload, 1) := by decide +kernel
theorem dX7_noShelf_19 : decode cX7_noShelf 19 = .ok (.ifnonnull 7, 3) := by decide +kernel
theorem dX7_noShelf_22 : decode cX7_noShelf 22 = .ok (.iconst 1, 1) := by decide +kernel
theorem dX7_noShelf_23 : decode cX7_noShelf 23 = .ok (.goto 4, 3) := by decide +kernel
theorem dX7_noShelf_26 : decode cX7_noShelf 26 = .ok (.iconst 0, 1) := by decide +kernel
theorem dX7_noShelf_27 : decode cX7_noShelf 27 = .ok (.ireturn, 1) := by decide +kernel
def F7_noShelf (p1 : Int32) (st : fkS) : Option (Int32 × fkS) :=
 if p1 < 0 then
 (some ((1 : Int32), st))
 else
 (if (8 : Int32) ≤ p1 then
 (some ((1 : Int32), st))
 else
 (fk_chk (fk_in p1 8) <|
 some ((0 : Int32), st)))
set_option maxHeartbeats 1000000 in
set_option maxRecDepth 20000 in
theorem C7_noShelf (p1 : Int32) (st : fkS) {g : fkG} (l : Launch) (o : Int32 × fkS) (hF : F7_noShelf p1 st = some o) : fk_C wC yX7_noShelf cX7_noShelf 2 (some (.boolean)) 0 0 l g [fk_r g 0, .int p1] st (fk_eI o.1) o.2 := by
  refine fk_begin rfl (Nat.le_of_ble_eq_true rfl) (fun k hk => ?_) o hF
  have hk : fk_ok wC g k RX7 cX7_noShelf 2 (some (.boolean)) 0 0 := hk
  show fk_J wC g fk_eI k 0 [(0, fk_r g 0), (1, .int p1)] [] st (F7_noShelf p1 st)
  unfold F7_noShelf
  refine j_iload_n (pc := 0) hk 1 rfl dX7_noShelf_0 ?_
  refine j_if_lt (tgt := 22) (pc := 1) hk (by decide) dX7_noShelf_1 (fun _ => ?_) (fun _ => ?_)
  · refine j_iconst (pc := 22) hk dX7_noShelf_22 (v := 1) (by decide) ?_
    refine j_goto (tgt := 27) (pc := 23) hk (by decide) dX7_noShelf_23 ?_
    exact j_zret (pc := 27) hk rfl dX7_noShelf_27
  · refine j_iload_n (pc := 4) hk 1 rfl dX7_noShelf_4 ?_
    refine j_aload_n (pc := 5) hk 0 rfl ⟨_, rfl⟩ dX7_noShelf_5 ?_
    refine f_7_11 (pc := 6) hk (rfl) dX7_noShelf_6 ?_
    refine a_slen (pc := 9) hk dX7_noShelf_9 ?_
    refine j_icmp_ge (tgt := 22) (pc := 10) hk (by decide) dX7_noShelf_10 (fun _ => ?_) (fun _ => ?_)
    · refine j_iconst (pc := 22) hk dX7_noShelf_22 (v := 1) (by decide) ?_
      refine j_goto (tgt := 27) (pc := 23) hk (by decide) dX7_noShelf_23 ?_
      exact j_zret (pc := 27) hk rfl dX7_noShelf_27
    · refine j_aload_n (pc := 13) hk 0 rfl ⟨_, rfl⟩ dX7_noShelf_13 ?_
      refine f_7_11 (pc := 14) hk (rfl) dX7_noShelf_14 ?_
      refine j_iload_n (pc := 17) hk 1 rfl dX7_noShelf_17 ?_
      refine a_shelf (pc := 18) hk dX7_noShelf_18 (fun hs1 => ?_)
      refine j_ifnonnullR (tgt := 26) (pc := 19) hk ⟨_, rfl⟩ (by decide) dX7_noShelf_19 ?_
      refine j_iconst (pc := 26) hk dX7_noShelf_26 (v := 0) (by decide) ?_
      exact j_zret (pc := 27) hk rfl dX7_noShelf_27
theorem dX7_refuse_0 : decode cX7_refuse 0 = .ok (.iload_n 1, 1) := by decide +kernel
theorem dX7_refuse_1 : decode cX7_refuse 1 = .ok (.ineg, 1) := by decide +kernel
theorem dX7_refuse_2 : decode cX7_refuse 2 = .ok (.istore_n 2, 1) := by decide +kernel
theorem dX7_refuse_3 : decode cX7_refuse 3 = .ok (.iload_n 2, 1) := by decide +kernel
theorem dX7_refuse_4 : decode cX7_refuse 4 = .ok (.ifCond .le 22, 3) := by decide +kernel
theorem dX7_refuse_7 : decode cX7_refuse 7 = .ok (.iload_n 2, 1) := by decide +kernel
theorem dX7_refuse_8 : decode cX7_refuse 8 = .ok (.aload_n 0, 1) := by decide +kernel
theorem dX7_refuse_9 : decode cX7_refuse 9 = .ok (.getfield 70, 3) := by decide +kernel
theorem dX7_refuse_12 : decode cX7_refuse 12 = .ok (.arraylength, 1) := by decide +kernel
theorem dX7_refuse_13 : decode cX7_refuse 13 = .ok (.if_icmp .ge 13, 3) := by decide +kernel
theorem dX7_refuse_16 : decode cX7_refuse 16 = .ok (.aload_n 0, 1) := by decide +kernel
theorem dX7_refuse_17 : decode cX7_refuse 17 = .ok (.getfield 70, 3) := by decide +kernel
theorem dX7_refuse_20 : decode cX7_refuse 20 = .ok (.iload_n 2, 1) := by decide +kernel
theorem dX7_refuse_21 : decode cX7_refuse 21 = .ok (.dup2, 1) := by decide +kernel
theorem dX7_refuse_22 : decode cX7_refuse 22 = .ok (.iaload, 1) := by decide +kernel
theorem dX7_refuse_23 : decode cX7_refuse 23 = .ok (.iconst 1, 1) := by decide +kernel
theorem dX7_refuse_24 : decode cX7_refuse 24 = .ok (.iadd, 1) := by decide +kernel
theorem dX7_refuse_25 : decode cX7_refuse 25 = .ok (.iastore, 1) := by decide +kernel
theorem dX7_refuse_26 : decode cX7_refuse 26 = .ok (.iload_n 1, 1) := by decide +kernel
theorem dX7_refuse_27 : decode cX7_refuse 27 = .ok (.ireturn, 1) := by decide +kernel
def F7_refuse (p1 : Int32) (st : fkS) : Option (Int32 × fkS) :=
 if (-p1) ≤ 0 then
 (some (p1, st))
 else
 (if (8 : Int32) ≤ (-p1) then
 (some (p1, st))
 else
 (fk_chk (fk_in (-p1) 8) <| fk_let (gA st 1 (-p1).toNatClampNeg) <| fun x1 =>
 fk_chk (fk_in (-p1) 8) <| fk_let (sA st 1 (-p1).toNatClampNeg (x1 + (1 : Int32))) <| fun st2 =>
 some (p1, st2)))
set_option maxHeartbeats 1000000 in
set_option maxRecDepth 20000 in
theorem C7_refuse (p1 : Int32) (st : fkS) {g : fkG} (l : Launch) (o : Int32 × fkS) (hF : F7_refuse p1 st = some o) : fk_C wC yX7_refuse cX7_refuse 3 (some (.int)) 0 0 l g [fk_r g 0, .int p1] st (fk_eI o.1) o.2 := by
  refine fk_begin rfl (Nat.le_of_ble_eq_true rfl) (fun k hk => ?_) o hF
  have hk : fk_ok wC g k RX7 cX7_refuse 3 (some (.int)) 0 0 := hk
  show fk_J wC g fk_eI k 0 [(0, fk_r g 0), (1, .int p1)] [] st (F7_refuse p1 st)
  unfold F7_refuse
  refine j_iload_n (pc := 0) hk 1 rfl dX7_refuse_0 ?_
  refine j_ineg (pc := 1) hk dX7_refuse_1 ?_
  refine j_istore_n (lv' := ((2, .int (-p1)) :: [(0, fk_r g 0), (1, .int p1)])) (pc := 2) hk rfl (by decide) rfl dX7_refuse_2 ?_
  refine j_sub hk (lv' := [(0, fk_r g 0), (1, .int p1), (2, .int (-p1))]) [1, 2, 0] rfl ?_
  refine j_iload_n (pc := 3) hk 2 rfl dX7_refuse_3 ?_
  refine j_if_le (tgt := 26) (pc := 4) hk (by decide) dX7_refuse_4 (fun _ => ?_) (fun _ => ?_)
  · refine j_iload_n (pc := 26) hk 1 rfl dX7_refuse_26 ?_
    exact j_iret (pc := 27) hk dX7_refuse_27
  · refine j_iload_n (pc := 7) hk 2 rfl dX7_refuse_7 ?_
    refine j_aload_n (pc := 8) hk 0 rfl ⟨_, rfl⟩ dX7_refuse_8 ?_
    refine f_7_70 (pc := 9) hk (rfl) dX7_refuse_9 ?_
    refine a_ilen (pc := 12) hk (isI_7_11) (v := 8) (by decide) dX7_refuse_12 ?_
    refine j_icmp_ge (tgt := 26) (pc := 13) hk (by decide) dX7_refuse_13 (fun _ => ?_) (fun _ => ?_)
    · refine j_iload_n (pc := 26) hk 1 rfl dX7_refuse_26 ?_
      exact j_iret (pc := 27) hk dX7_refuse_27
    · refine j_aload_n (pc := 16) hk 0 rfl ⟨_, rfl⟩ dX7_refuse_16 ?_
      refine f_7_70 (pc := 17) hk (rfl) dX7_refuse_17 ?_
      refine j_iload_n (pc := 20) hk 2 rfl dX7_refuse_20 ?_
      refine j_dup2 (pc := 21) hk rfl rfl dX7_refuse_21 ?_
      refine a_iload (pc := 22) hk (isI_7_11) dX7_refuse_22 (fun x1 => ?_)
      refine j_iconst (pc := 23) hk dX7_refuse_23 (v := 1) (by decide) ?_
      refine j_iadd (pc := 24) hk dX7_refuse_24 ?_
      refine a_istore (pc := 25) hk (isI_7_11) dX7_refuse_25 (fun st2 => ?_)
      refine j_iload_n (pc := 26) hk 1 rfl dX7_refuse_26 ?_
      exact j_iret (pc := 27) hk dX7_refuse_27
theorem dX7_row_0 : decode cX7_row 0 = .ok (.aload_n 0, 1) := by decide +kernel
theorem dX7_row_1 : decode cX7_row 1 = .ok (.iload_n 1, 1) := by decide +kernel
theorem dX7_row_2 : decode cX7_row 2 = .ok (.invokevirtual 75, 3) := by decide +kernel
theorem dX7_row_5 : decode cX7_row 5 = .ok (.ifCond .eq 9, 3) := by decide +kernel
theorem dX7_row_8 : decode cX7_row 8 = .ok (.aload_n 0, 1) := by decide +kernel
theorem dX7_row_9 : decode cX7_row 9 = .ok (.iconst (-1), 1) := by decide +kernel
theorem dX7_row_10 : decode cX7_row 10 = .ok (.invokevirtual 79, 3) := by decide +kernel
theorem dX7_row_13 : decode cX7_row 13 = .ok (.ireturn, 1) := by decide +kernel
theorem dX7_row_14 : decode cX7_row 14 = .ok (.iload_n 3, 1) := by decide +kernel
theorem dX7_row_15 : decode cX7_row 15 = .ok (.ifCond .ge 10, 3) := by decide +kernel
theorem dX7_row_18 : decode cX7_row 18 = .ok (.aload_n 0, 1) := by decide +kernel
theorem dX7_row_19 : decode cX7_row 19 = .ok (.bipush (-4), 2) := by decide +kernel
theorem dX7_row_21 : decode cX7_row 21 = .ok (.invokevirtual 79, 3) := by decide +kernel
theorem dX7_row_24 : decode cX7_row 24 = .ok (.ireturn, 1) := by decide +kernel
theorem dX7_row_25 : decode cX7_row 25 = .ok (.iload_n 2, 1) := by decide +kernel
theorem dX7_row_26 : decode cX7_row 26 = .ok (.ifCond .lt 8, 3) := by decide +kernel
theorem dX7_row_29 : decode cX7_row 29 = .ok (.iload_n 2, 1) := by decide +kernel
theorem dX7_row_30 : decode cX7_row 30 = .ok (.iconst 4, 1) := by decide +kernel
theorem dX7_row_31 : decode cX7_row 31 = .ok (.if_icmp .lt 10, 3) := by decide +kernel
theorem dX7_row_34 : decode cX7_row 34 = .ok (.aload_n 0, 1) := by decide +kernel
theorem dX7_row_35 : decode cX7_row 35 = .ok (.bipush (-6), 2) := by decide +kernel
theorem dX7_row_37 : decode cX7_row 37 = .ok (.invokevirtual 79, 3) := by decide +kernel
theorem dX7_row_40 : decode cX7_row 40 = .ok (.ireturn, 1) := by decide +kernel
theorem dX7_row_41 : decode cX7_row 41 = .ok (.iload_n 3, 1) := by decide +kernel
theorem dX7_row_42 : decode cX7_row 42 = .ok (.sipush 160, 3) := by decide +kernel
theorem dX7_row_45 : decode cX7_row 45 = .ok (.if_icmp .le 10, 3) := by decide +kernel
theorem dX7_row_48 : decode cX7_row 48 = .ok (.aload_n 0, 1) := by decide +kernel
theorem dX7_row_49 : decode cX7_row 49 = .ok (.bipush (-7), 2) := by decide +kernel
theorem dX7_row_51 : decode cX7_row 51 = .ok (.invokevirtual 79, 3) := by decide +kernel
theorem dX7_row_54 : decode cX7_row 54 = .ok (.ireturn, 1) := by decide +kernel
theorem dX7_row_55 : decode cX7_row 55 = .ok (.aload_n 0, 1) := by decide +kernel
theorem dX7_row_56 : decode cX7_row 56 = .ok (.getfield 11, 3) := by decide +kernel
theorem dX7_row_59 : decode cX7_row 59 = .ok (.iload_n 1, 1) := by decide +kernel
theorem dX7_row_60 : decode cX7_row 60 = .ok (.aaload, 1) := by decide +kernel
theorem dX7_row_61 : decode cX7_row 61 = .ok (.iload_n 2, 1) := by decide +kernel
theorem dX7_row_62 : decode cX7_row 62 = .ok (.iload_n 3, 1) := by decide +kernel
theorem dX7_row_63 : decode cX7_row 63 = .ok (.invokevirtual 83, 3) := by decide +kernel
theorem dX7_row_66 : decode cX7_row 66 = .ok (.iconst 1, 1) := by decide +kernel
theorem dX7_row_67 : decode cX7_row 67 = .ok (.ireturn, 1) := by decide +kernel
def B7_row_34 (st : fkS) : Option (Int32 × fkS) :=
 fk_bind (F7_refuse (-6 : Int32) st) <| fun x11 st12 =>
 some (x11, st12)
set_option maxHeartbeats 1000000 in
set_option maxRecDepth 20000 in
theorem T7_row_34 {g : fkG} {k : fkK} (hk : fk_ok wC g k RX7 cX7_row 4 (some (.int)) 2 123) : ∀ (st : fkS), fk_J wC g fk_eI k 34 [(0, fk_r g 0)] [] st (B7_row_34 st) := by
  intro st
  unfold B7_row_34
  refine j_aload_n (pc := 34) hk 0 rfl ⟨_, rfl⟩ dX7_row_34 ?_
  refine j_bipush (pc := 35) hk dX7_row_35 (v := -6) (by decide) ?_
  refine j_callVi (pc := 37) hk [.int (-6 : Int32)] [] rfl (fun l o hq9 => C7_refuse (-6 : Int32) st l o hq9) (rcv_7 (rfl)) yv_X7_refuse ml_7_79 rfl (Nat.le_of_ble_eq_true rfl) (Nat.le_of_ble_eq_true rfl) (Nat.le_of_ble_eq_true rfl) dX7_row_37 (fun x11 st12 => ?_)
  exact j_iret (pc := 40) hk dX7_row_40
def F7_row (p1 : Int32) (p2 : Int32) (p3 : Int32) (st : fkS) : Option (Int32 × fkS) :=
 fk_bind (F7_noShelf p1 st) <| fun x1 st2 =>
 if x1 = 0 then
 (if 0 ≤ p3 then
 (if p2 < 0 then
 (B7_row_34 st2)
 else
 (if p2 < (4 : Int32) then
 (if p3 ≤ (160 : Int32) then
 (fk_chk (fk_in p1 8) <|
 fk_bind (F5_holdRow (3 + p1.toNatClampNeg) p2 p3 st2) <| fun _ st4 =>
 some ((1 : Int32), st4))
 else
 (fk_bind (F7_refuse (-7 : Int32) st2) <| fun x5 st6 =>
 some (x5, st6)))
 else
 (B7_row_34 st2)))
 else
 (fk_bind (F7_refuse (-4 : Int32) st2) <| fun x7 st8 =>
 some (x7, st8)))
 else
 (fk_bind (F7_refuse (-1 : Int32) st2) <| fun x9 st10 =>
 some (x9, st10))
set_option maxHeartbeats 1000000 in
set_option maxRecDepth 20000 in
theorem C7_row (p1 : Int32) (p2 : Int32) (p3 : Int32) (st : fkS) {g : fkG} (l : Launch) (o : Int32 × fkS) (hF : F7_row p1 p2 p3 st = some o) : fk_C wC yX7_row cX7_row 4 (some (.int)) 2 123 l g [fk_r g 0, .int p1, .int p2, .int p3] st (fk_eI o.1) o.2 := by
  refine fk_begin rfl (Nat.le_of_ble_eq_true rfl) (fun k hk => ?_) o hF
  have hk : fk_ok wC g k RX7 cX7_row 4 (some (.int)) 2 123 := hk
  show fk_J wC g fk_eI k 0 [(0, fk_r g 0), (1, .int p1), (2, .int p2), (3, .int p3)] [] st (F7_row p1 p2 p3 st)
  unfold F7_row
  refine j_aload_n (pc := 0) hk 0 rfl ⟨_, rfl⟩ dX7_row_0 ?_
  refine j_iload_n (pc := 1) hk 1 rfl dX7_row_1 ?_
  refine j_callVi (pc := 2) hk [.int p1] [] rfl (fun l o hq9 => C7_noShelf p1 st l o hq9) (rcv_7 (rfl)) yv_X7_noShelf ml_7_75 rfl (Nat.le_of_ble_eq_true rfl) (Nat.le_of_ble_eq_true rfl) (Nat.le_of_ble_eq_true rfl) dX7_row_2 (fun x1 st2 => ?_)
  refine j_if_eq (tgt := 14) (pc := 5) hk (by decide) dX7_row_5 (fun _ => ?_) (fun _ => ?_)
  · refine j_iload_n (pc := 14) hk 3 rfl dX7_row_14 ?_
    refine j_if_ge (tgt := 25) (pc := 15) hk (by decide) dX7_row_15 (fun _ => ?_) (fun _ => ?_)
    · refine j_iload_n (pc := 25) hk 2 rfl dX7_row_25 ?_
      refine j_if_lt (tgt := 34) (pc := 26) hk (by decide) dX7_row_26 (fun _ => ?_) (fun _ => ?_)
      · exact j_sub hk [0] rfl (T7_row_34 hk st2)
      · refine j_iload_n (pc := 29) hk 2 rfl dX7_row_29 ?_
        refine j_iconst (pc := 30) hk dX7_row_30 (v := 4) (by decide) ?_
        refine j_icmp_lt (tgt := 41) (pc := 31) hk (by decide) dX7_row_31 (fun _ => ?_) (fun _ => ?_)
        · refine j_iload_n (pc := 41) hk 3 rfl dX7_row_41 ?_
          refine j_sipush (pc := 42) hk dX7_row_42 (v := 160) (by decide) ?_
          refine j_icmp_le (tgt := 55) (pc := 45) hk (by decide) dX7_row_45 (fun _ => ?_) (fun _ => ?_)
          · refine j_aload_n (pc := 55) hk 0 rfl ⟨_, rfl⟩ dX7_row_55 ?_
            refine f_7_11 (pc := 56) hk (rfl) dX7_row_56 ?_
            refine j_iload_n (pc := 59) hk 1 rfl dX7_row_59 ?_
            refine a_shelf (pc := 60) hk dX7_row_60 (fun hs3 => ?_)
            refine j_iload_n (pc := 61) hk 2 rfl dX7_row_61 ?_
            refine j_iload_n (pc := 62) hk 3 rfl dX7_row_62 ?_
            refine j_callVNv (pc := 63) hk [.int p2, .int p3] [] rfl (fun l o hq9 => C5_holdRow (3 + p1.toNatClampNeg) (hs3) p2 p3 st2 l o hq9) (rcv_5 (hs3)) yv_X5_holdRow ml_7_83 rfl (Nat.le_of_ble_eq_true rfl) (Nat.le_of_ble_eq_true rfl) (Nat.le_of_ble_eq_true rfl) dX7_row_63 (fun _ st4 => ?_)
            refine j_iconst (pc := 66) hk dX7_row_66 (v := 1) (by decide) ?_
            exact j_iret (pc := 67) hk dX7_row_67
          · refine j_aload_n (pc := 48) hk 0 rfl ⟨_, rfl⟩ dX7_row_48 ?_
            refine j_bipush (pc := 49) hk dX7_row_49 (v := -7) (by decide) ?_
            refine j_callVi (pc := 51) hk [.int (-7 : Int32)] [] rfl (fun l o hq9 => C7_refuse (-7 : Int32) st2 l o hq9) (rcv_7 (rfl)) yv_X7_refuse ml_7_79 rfl (Nat.le_of_ble_eq_true rfl) (Nat.le_of_ble_eq_true rfl) (Nat.le_of_ble_eq_true rfl) dX7_row_51 (fun x5 st6 => ?_)
            exact j_iret (pc := 54) hk dX7_row_54
        · exact j_sub hk [0] rfl (T7_row_34 hk st2)
    · refine j_aload_n (pc := 18) hk 0 rfl ⟨_, rfl⟩ dX7_row_18 ?_
      refine j_bipush (pc := 19) hk dX7_row_19 (v := -4) (by decide) ?_
      refine j_callVi (pc := 21) hk [.int (-4 : Int32)] [] rfl (fun l o hq9 => C7_refuse (-4 : Int32) st2 l o hq9) (rcv_7 (rfl)) yv_X7_refuse ml_7_79 rfl (Nat.le_of_ble_eq_true rfl) (Nat.le_of_ble_eq_true rfl) (Nat.le_of_ble_eq_true rfl) dX7_row_21 (fun x7 st8 => ?_)
      exact j_iret (pc := 24) hk dX7_row_24
  · refine j_aload_n (pc := 8) hk 0 rfl ⟨_, rfl⟩ dX7_row_8 ?_
    refine j_iconst (pc := 9) hk dX7_row_9 (v := -1) (by decide) ?_
    refine j_callVi (pc := 10) hk [.int (-1 : Int32)] [] rfl (fun l o hq9 => C7_refuse (-1 : Int32) st2 l o hq9) (rcv_7 (rfl)) yv_X7_refuse ml_7_79 rfl (Nat.le_of_ble_eq_true rfl) (Nat.le_of_ble_eq_true rfl) (Nat.le_of_ble_eq_true rfl) dX7_row_10 (fun x9 st10 => ?_)
    exact j_iret (pc := 13) hk dX7_row_13
theorem dX7_noRows_0 : decode cX7_noRows 0 = .ok (.aload_n 0, 1) := by decide +kernel
theorem dX7_noRows_1 : decode cX7_noRows 1 = .ok (.iload_n 1, 1) := by decide +kernel
theorem dX7_noRows_2 : decode cX7_noRows 2 = .ok (.invokevirtual 75, 3) := by decide +kernel
theorem dX7_noRows_5 : decode cX7_noRows 5 = .ok (.ifCond .ne 11, 3) := by decide +kernel
theorem dX7_noRows_8 : decode cX7_noRows 8 = .ok (.aload_n 0, 1) := by decide +kernel
theorem dX7_noRows_9 : decode cX7_noRows 9 = .ok (.iload_n 2, 1) := by decide +kernel
theorem dX7_noRows_10 : decode cX7_noRows 10 = .ok (.invokevirtual 75, 3) := by decide +kernel
theorem dX7_noRows_13 : decode cX7_noRows 13 = .ok (.ifCond .eq 5, 3) := by decide +kernel
theorem dX7_noRows_16 : decode cX7_noRows 16 = .ok (.iconst (-1), 1) := by decide +kernel
theorem dX7_noRows_17 : decode cX7_noRows 17 = .ok (.ireturn, 1) := by decide +kernel
theorem dX7_noRows_18 : decode cX7_noRows 18 = .ok (.aload_n 0, 1) := by decide +kernel
theorem dX7_noRows_19 : decode cX7_noRows 19 = .ok (.getfield 11, 3) := by decide +kernel
theorem dX7_noRows_22 : decode cX7_noRows 22 = .ok (.iload_n 1, 1) := by decide +kernel
theorem dX7_noRows_23 : decode cX7_noRows 23 = .ok (.aaload, 1) := by decide +kernel
theorem dX7_noRows_24 : decode cX7_noRows 24 = .ok (.getfield 133, 3) := by decide +kernel
theorem dX7_noRows_27 : decode cX7_noRows 27 = .ok (.iconst 1, 1) := by decide +kernel
theorem dX7_noRows_28 : decode cX7_noRows 28 = .ok (.if_icmp .eq 16, 3) := by decide +kernel
theorem dX7_noRows_31 : decode cX7_noRows 31 = .ok (.aload_n 0, 1) := by decide +kernel
theorem dX7_noRows_32 : decode cX7_noRows 32 = .ok (.getfield 11, 3) := by decide +kernel
theorem dX7_noRows_35 : decode cX7_noRows 35 = .ok (.iload_n 2, 1) := by decide +kernel
theorem dX7_noRows_36 : decode cX7_noRows 36 = .ok (.aaload, 1) := by decide +kernel
theorem dX7_noRows_37 : decode cX7_noRows 37 = .ok (.getfield 133, 3) := by decide +kernel
theorem dX7_noRows_40 : decode cX7_noRows 40 = .ok (.iconst 1, 1) := by decide +kernel
theorem dX7_noRows_41 : decode cX7_noRows 41 = .ok (.if_icmp .ne 6, 3) := by decide +kernel
theorem dX7_noRows_44 : decode cX7_noRows 44 = .ok (.bipush (-2), 2) := by decide +kernel
theorem dX7_noRows_46 : decode cX7_noRows 46 = .ok (.ireturn, 1) := by decide +kernel
theorem dX7_noRows_47 : decode cX7_noRows 47 = .ok (.aload_n 0, 1) := by decide +kernel
theorem dX7_noRows_48 : decode cX7_noRows 48 = .ok (.getfield 11, 3) := by decide +kernel
theorem dX7_noRows_51 : decode cX7_noRows 51 = .ok (.iload_n 1, 1) := by decide +kernel
theorem dX7_noRows_52 : decode cX7_noRows 52 = .ok (.aaload, 1) := by decide +kernel
theorem dX7_noRows_53 : decode cX7_noRows 53 = .ok (.getfield 133, 3) := by decide +kernel
theorem dX7_noRows_56 : decode cX7_noRows 56 = .ok (.ifCond .eq 15, 3) := by decide +kernel
theorem dX7_noRows_59 : decode cX7_noRows 59 = .ok (.aload_n 0, 1) := by decide +kernel
theorem dX7_noRows_60 : decode cX7_noRows 60 = .ok (.getfield 11, 3) := by decide +kernel
theorem dX7_noRows_63 : decode cX7_noRows 63 = .ok (.iload_n 2, 1) := by decide +kernel
theorem dX7_noRows_64 : decode cX7_noRows 64 = .ok (.aaload, 1) := by decide +kernel
theorem dX7_noRows_65 : decode cX7_noRows 65 = .ok (.getfield 133, 3) := by decide +kernel
theorem dX7_noRows_68 : decode cX7_noRows 68 = .ok (.ifCond .ne 6, 3) := by decide +kernel
theorem dX7_noRows_71 : decode cX7_noRows 71 = .ok (.bipush (-3), 2) := by decide +kernel
theorem dX7_noRows_73 : decode cX7_noRows 73 = .ok (.ireturn, 1) := by decide +kernel
theorem dX7_noRows_74 : decode cX7_noRows 74 = .ok (.iconst 0, 1) := by decide +kernel
theorem dX7_noRows_75 : decode cX7_noRows 75 = .ok (.ireturn, 1) := by decide +kernel
def F7_noRows (p1 : Int32) (p2 : Int32) (st : fkS) : Option (Int32 × fkS) :=
 fk_bind (F7_noShelf p1 st) <| fun x1 st2 =>
 if x1 = 0 then
 (fk_bind (F7_noShelf p2 st2) <| fun x3 st4 =>
 if x3 = 0 then
 (fk_chk (fk_in p1 8) <|
 fk_let (gI st4 100 (3 + p1.toNatClampNeg)) <| fun x6 =>
 if x6 = (1 : Int32) then
 (some ((-2 : Int32), st4))
 else
 (fk_chk (fk_in p2 8) <|
 fk_let (gI st4 100 (3 + p2.toNatClampNeg)) <| fun x8 =>
 if x8 = (1 : Int32) then
 (some ((-2 : Int32), st4))
 else
 (fk_chk (fk_in p1 8) <|
 fk_let (gI st4 100 (3 + p1.toNatClampNeg)) <| fun x10 =>
 if x10 = 0 then
 (some ((-3 : Int32), st4))
 else
 (fk_chk (fk_in p2 8) <|
 fk_let (gI st4 100 (3 + p2.toNatClampNeg)) <| fun x12 =>
 if x12 = 0 then
 (some ((-3 : Int32), st4))
 else
 (some ((0 : Int32), st4))))))
 else
 (some ((-1 : Int32), st4)))
 else
 (some ((-1 : Int32), st2))
set_option maxHeartbeats 1000000 in
set_option maxRecDepth 20000 in
theorem C7_noRows (p1 : Int32) (p2 : Int32) (st : fkS) {g : fkG} (l : Launch) (o : Int32 × fkS) (hF : F7_noRows p1 p2 st = some o) : fk_C wC yX7_noRows cX7_noRows 3 (some (.int)) 1 21 l g [fk_r g 0, .int p1, .int p2] st (fk_eI o.1) o.2 := by
  refine fk_begin rfl (Nat.le_of_ble_eq_true rfl) (fun k hk => ?_) o hF
  have hk : fk_ok wC g k RX7 cX7_noRows 3 (some (.int)) 1 21 := hk
  show fk_J wC g fk_eI k 0 [(0, fk_r g 0), (1, .int p1), (2, .int p2)] [] st (F7_noRows p1 p2 st)
  unfold F7_noRows
  refine j_aload_n (pc := 0) hk 0 rfl ⟨_, rfl⟩ dX7_noRows_0 ?_
  refine j_iload_n (pc := 1) hk 1 rfl dX7_noRows_1 ?_
  refine j_callVi (pc := 2) hk [.int p1] [] rfl (fun l o hq9 => C7_noShelf p1 st l o hq9) (rcv_7 (rfl)) yv_X7_noShelf ml_7_75 rfl (Nat.le_of_ble_eq_true rfl) (Nat.le_of_ble_eq_true rfl) (Nat.le_of_ble_eq_true rfl) dX7_noRows_2 (fun x1 st2 => ?_)
  refine j_if_ne (tgt := 16) (pc := 5) hk (by decide) dX7_noRows_5 (fun _ => ?_) (fun _ => ?_)
  · refine j_aload_n (pc := 8) hk 0 rfl ⟨_, rfl⟩ dX7_noRows_8 ?_
    refine j_iload_n (pc := 9) hk 2 rfl dX7_noRows_9 ?_
    refine j_callVi (pc := 10) hk [.int p2] [] rfl (fun l o hq9 => C7_noShelf p2 st2 l o hq9) (rcv_7 (rfl)) yv_X7_noShelf ml_7_75 rfl (Nat.le_of_ble_eq_true rfl) (Nat.le_of_ble_eq_true rfl) (Nat.le_of_ble_eq_true rfl) dX7_noRows_10 (fun x3 st4 => ?_)
    refine j_if_eq (tgt := 18) (pc := 13) hk (by decide) dX7_noRows_13 (fun _ => ?_) (fun _ => ?_)
    · refine j_aload_n (pc := 18) hk 0 rfl ⟨_, rfl⟩ dX7_noRows_18 ?_
      refine f_7_11 (pc := 19) hk (rfl) dX7_noRows_19 ?_
      refine j_iload_n (pc := 22) hk 1 rfl dX7_noRows_22 ?_
      refine a_shelf (pc := 23) hk dX7_noRows_23 (fun hs5 => ?_)
      refine f_7_133 (pc := 24) hk (hs5) dX7_noRows_24 (fun x6 => ?_)
      refine j_iconst (pc := 27) hk dX7_noRows_27 (v := 1) (by decide) ?_
      refine j_icmp_eq (tgt := 44) (pc := 28) hk (by decide) dX7_noRows_28 (fun _ => ?_) (fun _ => ?_)
      · refine j_bipush (pc := 44) hk dX7_noRows_44 (v := -2) (by decide) ?_
        exact j_iret (pc := 46) hk dX7_noRows_46
      · refine j_aload_n (pc := 31) hk 0 rfl ⟨_, rfl⟩ dX7_noRows_31 ?_
        refine f_7_11 (pc := 32) hk (rfl) dX7_noRows_32 ?_
        refine j_iload_n (pc := 35) hk 2 rfl dX7_noRows_35 ?_
        refine a_shelf (pc := 36) hk dX7_noRows_36 (fun hs7 => ?_)
        refine f_7_133 (pc := 37) hk (hs7) dX7_noRows_37 (fun x8 => ?_)
        refine j_iconst (pc := 40) hk dX7_noRows_40 (v := 1) (by decide) ?_
        refine j_icmp_ne (tgt := 47) (pc := 41) hk (by decide) dX7_noRows_41 (fun _ => ?_) (fun _ => ?_)
        · refine j_bipush (pc := 44) hk dX7_noRows_44 (v := -2) (by decide) ?_
          exact j_iret (pc := 46) hk dX7_noRows_46
        · refine j_aload_n (pc := 47) hk 0 rfl ⟨_, rfl⟩ dX7_noRows_47 ?_
          refine f_7_11 (pc := 48) hk (rfl) dX7_noRows_48 ?_
          refine j_iload_n (pc := 51) hk 1 rfl dX7_noRows_51 ?_
          refine a_shelf (pc := 52) hk dX7_noRows_52 (fun hs9 => ?_)
          refine f_7_133 (pc := 53) hk (hs9) dX7_noRows_53 (fun x10 => ?_)
          refine j_if_eq (tgt := 71) (pc := 56) hk (by decide) dX7_noRows_56 (fun _ => ?_) (fun _ => ?_)
          · refine j_bipush (pc := 71) hk dX7_noRows_71 (v := -3) (by decide) ?_
            exact j_iret (pc := 73) hk dX7_noRows_73
          · refine j_aload_n (pc := 59) hk 0 rfl ⟨_, rfl⟩ dX7_noRows_59 ?_
            refine f_7_11 (pc := 60) hk (rfl) dX7_noRows_60 ?_
            refine j_iload_n (pc := 63) hk 2 rfl dX7_noRows_63 ?_
            refine a_shelf (pc := 64) hk dX7_noRows_64 (fun hs11 => ?_)
            refine f_7_133 (pc := 65) hk (hs11) dX7_noRows_65 (fun x12 => ?_)
            refine j_if_ne (tgt := 74) (pc := 68) hk (by decide) dX7_noRows_68 (fun _ => ?_) (fun _ => ?_)
            · refine j_bipush (pc := 71) hk dX7_noRows_71 (v := -3) (by decide) ?_
              exact j_iret (pc := 73) hk dX7_noRows_73
            · refine j_iconst (pc := 74) hk dX7_noRows_74 (v := 0) (by decide) ?_
              exact j_iret (pc := 75) hk dX7_noRows_75
    · refine j_iconst (pc := 16) hk dX7_noRows_16 (v := -1) (by decide) ?_
      exact j_iret (pc := 17) hk dX7_noRows_17
  · refine j_iconst (pc := 16) hk dX7_noRows_16 (v := -1) (by decide) ?_
    exact j_iret (pc := 17) hk dX7_noRows_17
theorem dX7_noRow_0 : decode cX7_noRow 0 = .ok (.aload_n 0, 1) := by decide +kernel
theorem dX7_noRow_1 : decode cX7_noRow 1 = .ok (.iload_n 1, 1) := by decide +kernel
theorem dX7_noRow_2 : decode cX7_noRow 2 = .ok (.iload_n 1, 1) := by decide +kernel
theorem dX7_noRow_3 : decode cX7_noRow 3 = .ok (.invokevirtual 98, 3) := by decide +kernel
theorem dX7_noRow_6 : decode cX7_noRow 6 = .ok (.ireturn, 1) := by decide +kernel
def F7_noRow (p1 : Int32) (st : fkS) : Option (Int32 × fkS) :=
 fk_bind (F7_noRows p1 p1 st) <| fun x1 st2 =>
 some (x1, st2)
set_option maxHeartbeats 1000000 in
set_option maxRecDepth 20000 in
theorem C7_noRow (p1 : Int32) (st : fkS) {g : fkG} (l : Launch) (o : Int32 × fkS) (hF : F7_noRow p1 st = some o) : fk_C wC yX7_noRow cX7_noRow 2 (some (.int)) 2 43 l g [fk_r g 0, .int p1] st (fk_eI o.1) o.2 := by
  refine fk_begin rfl (Nat.le_of_ble_eq_true rfl) (fun k hk => ?_) o hF
  have hk : fk_ok wC g k RX7 cX7_noRow 2 (some (.int)) 2 43 := hk
  show fk_J wC g fk_eI k 0 [(0, fk_r g 0), (1, .int p1)] [] st (F7_noRow p1 st)
  unfold F7_noRow
  refine j_aload_n (pc := 0) hk 0 rfl ⟨_, rfl⟩ dX7_noRow_0 ?_
  refine j_iload_n (pc := 1) hk 1 rfl dX7_noRow_1 ?_
  refine j_iload_n (pc := 2) hk 1 rfl dX7_noRow_2 ?_
  refine j_callVi (pc := 3) hk [.int p1, .int p1] [] rfl (fun l o hq9 => C7_noRows p1 p1 st l o hq9) (rcv_7 (rfl)) yv_X7_noRows ml_7_98 rfl (Nat.le_of_ble_eq_true rfl) (Nat.le_of_ble_eq_true rfl) (Nat.le_of_ble_eq_true rfl) dX7_noRow_3 (fun x1 st2 => ?_)
  exact j_iret (pc := 6) hk dX7_noRow_6
theorem dX7_set_0 : decode cX7_set 0 = .ok (.aload_n 0, 1) := by decide +kernel
theorem dX7_set_1 : decode cX7_set 1 = .ok (.iload_n 1, 1) := by decide +kernel
theorem dX7_set_2 : decode cX7_set 2 = .ok (.invokevirtual 87, 3) := by decide +kernel
theorem dX7_set_5 : decode cX7_set 5 = .ok (.istore 5, 2) := by decide +kernel
theorem dX7_set_7 : decode cX7_set 7 = .ok (.iload 5, 2) := by decide +kernel
theorem dX7_set_9 : decode cX7_set 9 = .ok (.ifCond .eq 10, 3) := by decide +kernel
theorem dX7_set_12 : decode cX7_set 12 = .ok (.aload_n 0, 1) := by decide +kernel
theorem dX7_set_13 : decode cX7_set 13 = .ok (.iload 5, 2) := by decide +kernel
theorem dX7_set_15 : decode cX7_set 15 = .ok (.invokevirtual 79, 3) := by decide +kernel
theorem dX7_set_18 : decode cX7_set 18 = .ok (.ireturn, 1) := by decide +kernel
theorem dX7_set_19 : decode cX7_set 19 = .ok (.iload_n 2, 1) := by decide +kernel
theorem dX7_set_20 : decode cX7_set 20 = .ok (.ifCond .lt 16, 3) := by decide +kernel
theorem dX7_set_23 : decode cX7_set 23 = .ok (.iload_n 2, 1) := by decide +kernel
theorem dX7_set_24 : decode cX7_set 24 = .ok (.aload_n 0, 1) := by decide +kernel
theorem dX7_set_25 : decode cX7_set 25 = .ok (.getfield 11, 3) := by decide +kernel
theorem dX7_set_28 : decode cX7_set 28 = .ok (.iload_n 1, 1) := by decide +kernel
theorem dX7_set_29 : decode cX7_set 29 = .ok (.aaload, 1) := by decide +kernel
theorem dX7_set_30 : decode cX7_set 30 = .ok (.getfield 90, 3) := by decide +kernel
theorem dX7_set_33 : decode cX7_set 33 = .ok (.if_icmp .lt 10, 3) := by decide +kernel
theorem dX7_set_36 : decode cX7_set 36 = .ok (.aload_n 0, 1) := by decide +kernel
theorem dX7_set_37 : decode cX7_set 37 = .ok (.bipush (-5), 2) := by decide +kernel
theorem dX7_set_39 : decode cX7_set 39 = .ok (.invokevirtual 79, 3) := by decide +kernel
theorem dX7_set_42 : decode cX7_set 42 = .ok (.ireturn, 1) := by decide +kernel
theorem dX7_set_43 : decode cX7_set 43 = .ok (.aload_n 0, 1) := by decide +kernel
theorem dX7_set_44 : decode cX7_set 44 = .ok (.getfield 11, 3) := by decide +kernel
theorem dX7_set_47 : decode cX7_set 47 = .ok (.iload_n 1, 1) := by decide +kernel
theorem dX7_set_48 : decode cX7_set 48 = .ok (.aaload, 1) := by decide +kernel
theorem dX7_set_49 : decode cX7_set 49 = .ok (.iload_n 2, 1) := by decide +kernel
theorem dX7_set_50 : decode cX7_set 50 = .ok (.lload_n 3, 1) := by decide +kernel
theorem dX7_set_51 : decode cX7_set 51 = .ok (.invokevirtual 94, 3) := by decide +kernel
theorem dX7_set_54 : decode cX7_set 54 = .ok (.iconst 1, 1) := by decide +kernel
theorem dX7_set_55 : decode cX7_set 55 = .ok (.ireturn, 1) := by decide +kernel
def B7_set_36 (st : fkS) : Option (Int32 × fkS) :=
 fk_bind (F7_refuse (-5 : Int32) st) <| fun x9 st10 =>
 some (x9, st10)
set_option maxHeartbeats 1000000 in
set_option maxRecDepth 20000 in
theorem T7_set_36 {g : fkG} {k : fkK} (hk : fk_ok wC g k RX7 cX7_set 6 (some (.int)) 3 64) : ∀ (st : fkS), fk_J wC g fk_eI k 36 [(0, fk_r g 0)] [] st (B7_set_36 st) := by
  intro st
  unfold B7_set_36
  refine j_aload_n (pc := 36) hk 0 rfl ⟨_, rfl⟩ dX7_set_36 ?_
  refine j_bipush (pc := 37) hk dX7_set_37 (v := -5) (by decide) ?_
  refine j_callVi (pc := 39) hk [.int (-5 : Int32)] [] rfl (fun l o hq9 => C7_refuse (-5 : Int32) st l o hq9) (rcv_7 (rfl)) yv_X7_refuse ml_7_79 rfl (Nat.le_of_ble_eq_true rfl) (Nat.le_of_ble_eq_true rfl) (Nat.le_of_ble_eq_true rfl) dX7_set_39 (fun x9 st10 => ?_)
  exact j_iret (pc := 42) hk dX7_set_42
def F7_set (p1 : Int32) (p2 : Int32) (p3 : Int64) (st : fkS) : Option (Int32 × fkS) :=
 fk_bind (F7_noRow p1 st) <| fun x1 st2 =>
 if x1 = 0 then
 (if p2 < 0 then
 (B7_set_36 st2)
 else
 (fk_chk (fk_in p1 8) <|
 fk_let (gI st2 103 (3 + p1.toNatClampNeg)) <| fun x4 =>
 if p2 < x4 then
 (fk_chk (fk_in p1 8) <|
 fk_bind (F5_put (3 + p1.toNatClampNeg) p2 p3 st2) <| fun _ st6 =>
 some ((1 : Int32), st6))
 else
 (B7_set_36 st2)))
 else
 (fk_bind (F7_refuse x1 st2) <| fun x7 st8 =>
 some (x7, st8))
set_option maxHeartbeats 1000000 in
set_option maxRecDepth 20000 in
theorem C7_set (p1 : Int32) (p2 : Int32) (p3 : Int64) (st : fkS) {g : fkG} (l : Launch) (o : Int32 × fkS) (hF : F7_set p1 p2 p3 st = some o) : fk_C wC yX7_set cX7_set 6 (some (.int)) 3 64 l g [fk_r g 0, .int p1, .int p2, .long p3] st (fk_eI o.1) o.2 := by
  refine fk_begin rfl (Nat.le_of_ble_eq_true rfl) (fun k hk => ?_) o hF
  have hk : fk_ok wC g k RX7 cX7_set 6 (some (.int)) 3 64 := hk
  show fk_J wC g fk_eI k 0 [(0, fk_r g 0), (1, .int p1), (2, .int p2), (3, .long p3)] [] st (F7_set p1 p2 p3 st)
  unfold F7_set
  refine j_aload_n (pc := 0) hk 0 rfl ⟨_, rfl⟩ dX7_set_0 ?_
  refine j_iload_n (pc := 1) hk 1 rfl dX7_set_1 ?_
  refine j_callVi (pc := 2) hk [.int p1] [] rfl (fun l o hq9 => C7_noRow p1 st l o hq9) (rcv_7 (rfl)) yv_X7_noRow ml_7_87 rfl (Nat.le_of_ble_eq_true rfl) (Nat.le_of_ble_eq_true rfl) (Nat.le_of_ble_eq_true rfl) dX7_set_2 (fun x1 st2 => ?_)
  refine j_istore (lv' := ((5, .int x1) :: [(0, fk_r g 0), (1, .int p1), (2, .int p2), (3, .long p3)])) (pc := 5) hk (by decide) rfl dX7_set_5 ?_
  refine j_sub hk (lv' := [(0, fk_r g 0), (1, .int p1), (2, .int p2), (3, .long p3), (5, .int x1)]) [1, 2, 3, 4, 0] rfl ?_
  refine j_iload (pc := 7) hk 4 rfl dX7_set_7 ?_
  refine j_if_eq (tgt := 19) (pc := 9) hk (by decide) dX7_set_9 (fun _ => ?_) (fun _ => ?_)
  · refine j_iload_n (pc := 19) hk 2 rfl dX7_set_19 ?_
    refine j_if_lt (tgt := 36) (pc := 20) hk (by decide) dX7_set_20 (fun _ => ?_) (fun _ => ?_)
    · exact j_sub hk [0] rfl (T7_set_36 hk st2)
    · refine j_iload_n (pc := 23) hk 2 rfl dX7_set_23 ?_
      refine j_aload_n (pc := 24) hk 0 rfl ⟨_, rfl⟩ dX7_set_24 ?_
      refine f_7_11 (pc := 25) hk (rfl) dX7_set_25 ?_
      refine j_iload_n (pc := 28) hk 1 rfl dX7_set_28 ?_
      refine a_shelf (pc := 29) hk dX7_set_29 (fun hs3 => ?_)
      refine f_7_90 (pc := 30) hk (hs3) dX7_set_30 (fun x4 => ?_)
      refine j_icmp_lt (tgt := 43) (pc := 33) hk (by decide) dX7_set_33 (fun _ => ?_) (fun _ => ?_)
      · refine j_aload_n (pc := 43) hk 0 rfl ⟨_, rfl⟩ dX7_set_43 ?_
        refine f_7_11 (pc := 44) hk (rfl) dX7_set_44 ?_
        refine j_iload_n (pc := 47) hk 1 rfl dX7_set_47 ?_
        refine a_shelf (pc := 48) hk dX7_set_48 (fun hs5 => ?_)
        refine j_iload_n (pc := 49) hk 2 rfl dX7_set_49 ?_
        refine j_lload_n (pc := 50) hk 3 rfl dX7_set_50 ?_
        refine j_callVNv (pc := 51) hk [.int p2, .long p3] [] rfl (fun l o hq9 => C5_put (3 + p1.toNatClampNeg) (hs5) p2 p3 st2 l o hq9) (rcv_5 (hs5)) yv_X5_put ml_7_94 rfl (Nat.le_of_ble_eq_true rfl) (Nat.le_of_ble_eq_true rfl) (Nat.le_of_ble_eq_true rfl) dX7_set_51 (fun _ st6 => ?_)
        refine j_iconst (pc := 54) hk dX7_set_54 (v := 1) (by decide) ?_
        exact j_iret (pc := 55) hk dX7_set_55
      · exact j_sub hk [0] rfl (T7_set_36 hk st2)
  · refine j_aload_n (pc := 12) hk 0 rfl ⟨_, rfl⟩ dX7_set_12 ?_
    refine j_iload (pc := 13) hk 4 rfl dX7_set_13 ?_
    refine j_callVi (pc := 15) hk [.int x1] [] rfl (fun l o hq9 => C7_refuse x1 st2 l o hq9) (rcv_7 (rfl)) yv_X7_refuse ml_7_79 rfl (Nat.le_of_ble_eq_true rfl) (Nat.le_of_ble_eq_true rfl) (Nat.le_of_ble_eq_true rfl) dX7_set_15 (fun x7 st8 => ?_)
    exact j_iret (pc := 18) hk dX7_set_18
theorem dX7_copy_0 : decode cX7_copy 0 = .ok (.aload_n 0, 1) := by decide +kernel
theorem dX7_copy_1 : decode cX7_copy 1 = .ok (.iload_n 1, 1) := by decide +kernel
theorem dX7_copy_2 : decode cX7_copy 2 = .ok (.iload_n 2, 1) := by decide +kernel
theorem dX7_copy_3 : decode cX7_copy 3 = .ok (.invokevirtual 98, 3) := by decide +kernel
theorem dX7_copy_6 : decode cX7_copy 6 = .ok (.istore 6, 2) := by decide +kernel
theorem dX7_copy_8 : decode cX7_copy 8 = .ok (.iload 6, 2) := by decide +kernel
theorem dX7_copy_10 : decode cX7_copy 10 = .ok (.ifCond .ne 28, 3) := by decide +kernel
theorem dX7_copy_13 : decode cX7_copy 13 = .ok (.aload_n 0, 1) := by decide +kernel
theorem dX7_copy_14 : decode cX7_copy 14 = .ok (.getfield 11, 3) := by decide +kernel
theorem dX7_copy_17 : decode cX7_copy 17 = .ok (.iload_n 1, 1) := by decide +kernel
theorem dX7_copy_18 : decode cX7_copy 18 = .ok (.aaload, 1) := by decide +kernel
theorem dX7_copy_19 : decode cX7_copy 19 = .ok (.getfield 102, 3) := by decide +kernel
theorem dX7_copy_22 : decode cX7_copy 22 = .ok (.aload_n 0, 1) := by decide +kernel
theorem dX7_copy_23 : decode cX7_copy 23 = .ok (.getfield 11, 3) := by decide +kernel
theorem dX7_copy_26 : decode cX7_copy 26 = .ok (.iload_n 2, 1) := by decide +kernel
theorem dX7_copy_27 : decode cX7_copy 27 = .ok (.aaload, 1) := by decide +kernel
theorem dX7_copy_28 : decode cX7_copy 28 = .ok (.getfield 102, 3) := by decide +kernel
theorem dX7_copy_31 : decode cX7_copy 31 = .ok (.if_icmp .eq 7, 3) := by decide +kernel
theorem dX7_copy_34 : decode cX7_copy 34 = .ok (.bipush (-2), 2) := by decide +kernel
theorem dX7_copy_36 : decode cX7_copy 36 = .ok (.istore 6, 2) := by decide +kernel
theorem dX7_copy_38 : decode cX7_copy 38 = .ok (.iload 6, 2) := by decide +kernel
theorem dX7_copy_40 : decode cX7_copy 40 = .ok (.ifCond .eq 10, 3) := by decide +kernel
theorem dX7_copy_43 : decode cX7_copy 43 = .ok (.aload_n 0, 1) := by decide +kernel
theorem dX7_copy_44 : decode cX7_copy 44 = .ok (.iload 6, 2) := by decide +kernel
theorem dX7_copy_46 : decode cX7_copy 46 = .ok (.invokevirtual 79, 3) := by decide +kernel
theorem dX7_copy_49 : decode cX7_copy 49 = .ok (.ireturn, 1) := by decide +kernel
theorem dX7_copy_50 : decode cX7_copy 50 = .ok (.iload 5, 2) := by decide +kernel
theorem dX7_copy_52 : decode cX7_copy 52 = .ok (.ifCond .ge 10, 3) := by decide +kernel
theorem dX7_copy_55 : decode cX7_copy 55 = .ok (.aload_n 0, 1) := by decide +kernel
theorem dX7_copy_56 : decode cX7_copy 56 = .ok (.bipush (-4), 2) := by decide +kernel
theorem dX7_copy_58 : decode cX7_copy 58 = .ok (.invokevirtual 79, 3) := by decide +kernel
theorem dX7_copy_61 : decode cX7_copy 61 = .ok (.ireturn, 1) := by decide +kernel
theorem dX7_copy_62 : decode cX7_copy 62 = .ok (.aload_n 0, 1) := by decide +kernel
theorem dX7_copy_63 : decode cX7_copy 63 = .ok (.getfield 11, 3) := by decide +kernel
theorem dX7_copy_66 : decode cX7_copy 66 = .ok (.iload_n 1, 1) := by decide +kernel
theorem dX7_copy_67 : decode cX7_copy 67 = .ok (.aaload, 1) := by decide +kernel
theorem dX7_copy_68 : decode cX7_copy 68 = .ok (.iload_n 3, 1) := by decide +kernel
theorem dX7_copy_69 : decode cX7_copy 69 = .ok (.iload 5, 2) := by decide +kernel
theorem dX7_copy_71 : decode cX7_copy 71 = .ok (.invokevirtual 105, 3) := by decide +kernel
theorem dX7_copy_74 : decode cX7_copy 74 = .ok (.ifCond .eq 19, 3) := by decide +kernel
theorem dX7_copy_77 : decode cX7_copy 77 = .ok (.aload_n 0, 1) := by decide +kernel
theorem dX7_copy_78 : decode cX7_copy 78 = .ok (.getfield 11, 3) := by decide +kernel
theorem dX7_copy_81 : decode cX7_copy 81 = .ok (.iload_n 2, 1) := by decide +kernel
theorem dX7_copy_82 : decode cX7_copy 82 = .ok (.aaload, 1) := by decide +kernel
theorem dX7_copy_83 : decode cX7_copy 83 = .ok (.iload 4, 2) := by decide +kernel
theorem dX7_copy_85 : decode cX7_copy 85 = .ok (.iload 5, 2) := by decide +kernel
theorem dX7_copy_87 : decode cX7_copy 87 = .ok (.invokevirtual 105, 3) := by decide +kernel
theorem dX7_copy_90 : decode cX7_copy 90 = .ok (.ifCond .ne 10, 3) := by decide +kernel
theorem dX7_copy_93 : decode cX7_copy 93 = .ok (.aload_n 0, 1) := by decide +kernel
theorem dX7_copy_94 : decode cX7_copy 94 = .ok (.bipush (-5), 2) := by decide +kernel
theorem dX7_copy_96 : decode cX7_copy 96 = .ok (.invokevirtual 79, 3) := by decide +kernel
theorem dX7_copy_99 : decode cX7_copy 99 = .ok (.ireturn, 1) := by decide +kernel
theorem dX7_copy_100 : decode cX7_copy 100 = .ok (.aload_n 0, 1) := by decide +kernel
theorem dX7_copy_101 : decode cX7_copy 101 = .ok (.getfield 11, 3) := by decide +kernel
theorem dX7_copy_104 : decode cX7_copy 104 = .ok (.iload_n 1, 1) := by decide +kernel
theorem dX7_copy_105 : decode cX7_copy 105 = .ok (.aaload, 1) := by decide +kernel
theorem dX7_copy_106 : decode cX7_copy 106 = .ok (.getfield 109, 3) := by decide +kernel
theorem dX7_copy_109 : decode cX7_copy 109 = .ok (.iload_n 3, 1) := by decide +kernel
theorem dX7_copy_110 : decode cX7_copy 110 = .ok (.aload_n 0, 1) := by decide +kernel
theorem dX7_copy_111 : decode cX7_copy 111 = .ok (.getfield 11, 3) := by decide +kernel
theorem dX7_copy_114 : decode cX7_copy 114 = .ok (.iload_n 2, 1) := by decide +kernel
theorem dX7_copy_115 : decode cX7_copy 115 = .ok (.aaload, 1) := by decide +kernel
theorem dX7_copy_116 : decode cX7_copy 116 = .ok (.getfield 109, 3) := by decide +kernel
theorem dX7_copy_119 : decode cX7_copy 119 = .ok (.iload 4, 2) := by decide +kernel
theorem dX7_copy_121 : decode cX7_copy 121 = .ok (.iload 5, 2) := by decide +kernel
theorem dX7_copy_123 : decode cX7_copy 123 = .ok (.invokestatic 113, 3) := by decide +kernel
theorem dX7_copy_126 : decode cX7_copy 126 = .ok (.iconst 1, 1) := by decide +kernel
theorem dX7_copy_127 : decode cX7_copy 127 = .ok (.ireturn, 1) := by decide +kernel
def B7_copy_93 (st : fkS) : Option (Int32 × fkS) :=
 fk_bind (F7_refuse (-5 : Int32) st) <| fun x20 st21 =>
 some (x20, st21)
set_option maxHeartbeats 1000000 in
set_option maxRecDepth 20000 in
theorem T7_copy_93 {g : fkG} {k : fkK} (hk : fk_ok wC g k RX7 cX7_copy 7 (some (.int)) 2 100) : ∀ (st : fkS), fk_J wC g fk_eI k 93 [(0, fk_r g 0)] [] st (B7_copy_93 st) := by
  intro st
  unfold B7_copy_93
  refine j_aload_n (pc := 93) hk 0 rfl ⟨_, rfl⟩ dX7_copy_93 ?_
  refine j_bipush (pc := 94) hk dX7_copy_94 (v := -5) (by decide) ?_
  refine j_callVi (pc := 96) hk [.int (-5 : Int32)] [] rfl (fun l o hq9 => C7_refuse (-5 : Int32) st l o hq9) (rcv_7 (rfl)) yv_X7_refuse ml_7_79 rfl (Nat.le_of_ble_eq_true rfl) (Nat.le_of_ble_eq_true rfl) (Nat.le_of_ble_eq_true rfl) dX7_copy_96 (fun x20 st21 => ?_)
  exact j_iret (pc := 99) hk dX7_copy_99
def B7_copy_38 (v1 : Int32) (v2 : Int32) (v3 : Int32) (v4 : Int32) (v5 : Int32) (v6 : Int32) (st : fkS) : Option (Int32 × fkS) :=
 if v6 = 0 then
 (if 0 ≤ v5 then
 (fk_chk (fk_in v1 8) <|
 fk_bind (F5_hasSpan (3 + v1.toNatClampNeg) v3 v5 st) <| fun x8 st9 =>
 if x8 = 0 then
 (B7_copy_93 st9)
 else
 (fk_chk (fk_in v2 8) <|
 fk_bind (F5_hasSpan (3 + v2.toNatClampNeg) v4 v5 st9) <| fun x11 st12 =>
 if x11 = 0 then
 (B7_copy_93 st12)
 else
 (fk_chk (fk_in v1 8) <|
 fk_chk (fk_in v2 8) <|
 fk_chk (fk_cp v3 v4 v5 160 160) <| fk_let (sLF st12 ((3 + v2.toNatClampNeg) + 8) (va_cpy (gL st12 ((3 + v1.toNatClampNeg) + 8)) (gL st12 ((3 + v2.toNatClampNeg) + 8)) v3.toNatClampNeg v4.toNatClampNeg v5.toNatClampNeg)) <| fun st15 =>
 some ((1 : Int32), st15))))
 else
 (fk_bind (F7_refuse (-4 : Int32) st) <| fun x16 st17 =>
 some (x16, st17)))
 else
 (fk_bind (F7_refuse v6 st) <| fun x18 st19 =>
 some (x18, st19))
set_option maxHeartbeats 1000000 in
set_option maxRecDepth 20000 in
theorem T7_copy_38 {g : fkG} {k : fkK} (hk : fk_ok wC g k RX7 cX7_copy 7 (some (.int)) 2 100) : ∀ (v1 : Int32) (v2 : Int32) (v3 : Int32) (v4 : Int32) (v5 : Int32) (v6 : Int32) (st : fkS), fk_J wC g fk_eI k 38 [(0, fk_r g 0), (1, .int v1), (2, .int v2), (3, .int v3), (4, .int v4), (5, .int v5), (6, .int v6)] [] st (B7_copy_38 v1 v2 v3 v4 v5 v6 st) := by
  intro v1 v2 v3 v4 v5 v6 st
  unfold B7_copy_38
  refine j_iload (pc := 38) hk 6 rfl dX7_copy_38 ?_
  refine j_if_eq (tgt := 50) (pc := 40) hk (by decide) dX7_copy_40 (fun _ => ?_) (fun _ => ?_)
  · refine j_iload (pc := 50) hk 5 rfl dX7_copy_50 ?_
    refine j_if_ge (tgt := 62) (pc := 52) hk (by decide) dX7_copy_52 (fun _ => ?_) (fun _ => ?_)
    · refine j_aload_n (pc := 62) hk 0 rfl ⟨_, rfl⟩ dX7_copy_62 ?_
      refine f_7_11 (pc := 63) hk (rfl) dX7_copy_63 ?_
      refine j_iload_n (pc := 66) hk 1 rfl dX7_copy_66 ?_
      refine a_shelf (pc := 67) hk dX7_copy_67 (fun hs7 => ?_)
      refine j_iload_n (pc := 68) hk 3 rfl dX7_copy_68 ?_
      refine j_iload (pc := 69) hk 5 rfl dX7_copy_69 ?_
      refine j_callVNi (pc := 71) hk [.int v3, .int v5] [] rfl (fun l o hq9 => C5_hasSpan (3 + v1.toNatClampNeg) (hs7) v3 v5 st l o hq9) (rcv_5 (hs7)) yv_X5_hasSpan ml_7_105 rfl (Nat.le_of_ble_eq_true rfl) (Nat.le_of_ble_eq_true rfl) (Nat.le_of_ble_eq_true rfl) dX7_copy_71 (fun x8 st9 => ?_)
      refine j_if_eq (tgt := 93) (pc := 74) hk (by decide) dX7_copy_74 (fun _ => ?_) (fun _ => ?_)
      · exact j_sub hk [0] rfl (T7_copy_93 hk st9)
      · refine j_aload_n (pc := 77) hk 0 rfl ⟨_, rfl⟩ dX7_copy_77 ?_
        refine f_7_11 (pc := 78) hk (rfl) dX7_copy_78 ?_
        refine j_iload_n (pc := 81) hk 2 rfl dX7_copy_81 ?_
        refine a_shelf (pc := 82) hk dX7_copy_82 (fun hs10 => ?_)
        refine j_iload (pc := 83) hk 4 rfl dX7_copy_83 ?_
        refine j_iload (pc := 85) hk 5 rfl dX7_copy_85 ?_
        refine j_callVNi (pc := 87) hk [.int v4, .int v5] [] rfl (fun l o hq9 => C5_hasSpan (3 + v2.toNatClampNeg) (hs10) v4 v5 st9 l o hq9) (rcv_5 (hs10)) yv_X5_hasSpan ml_7_105 rfl (Nat.le_of_ble_eq_true rfl) (Nat.le_of_ble_eq_true rfl) (Nat.le_of_ble_eq_true rfl) dX7_copy_87 (fun x11 st12 => ?_)
        refine j_if_ne (tgt := 100) (pc := 90) hk (by decide) dX7_copy_90 (fun _ => ?_) (fun _ => ?_)
        · exact j_sub hk [0] rfl (T7_copy_93 hk st12)
        · refine j_aload_n (pc := 100) hk 0 rfl ⟨_, rfl⟩ dX7_copy_100 ?_
          refine f_7_11 (pc := 101) hk (rfl) dX7_copy_101 ?_
          refine j_iload_n (pc := 104) hk 1 rfl dX7_copy_104 ?_
          refine a_shelf (pc := 105) hk dX7_copy_105 (fun hs13 => ?_)
          refine f_7_109 (pc := 106) hk (hs13) dX7_copy_106 ?_
          refine j_iload_n (pc := 109) hk 3 rfl dX7_copy_109 ?_
          refine j_aload_n (pc := 110) hk 0 rfl ⟨_, rfl⟩ dX7_copy_110 ?_
          refine f_7_11 (pc := 111) hk (rfl) dX7_copy_111 ?_
          refine j_iload_n (pc := 114) hk 2 rfl dX7_copy_114 ?_
          refine a_shelf (pc := 115) hk dX7_copy_115 (fun hs14 => ?_)
          refine f_7_109 (pc := 116) hk (hs14) dX7_copy_116 ?_
          refine j_iload (pc := 119) hk 4 rfl dX7_copy_119 ?_
          refine j_iload (pc := 121) hk 5 rfl dX7_copy_121 ?_
          refine a_lcopy (pc := 123) hk (isL_5_4 (hs13)) (isL_5_4 (hs14)) ml_7_113 (Nat.le_of_ble_eq_true rfl) (Nat.le_of_ble_eq_true rfl) dX7_copy_123 (fun st15 => ?_)
          refine j_iconst (pc := 126) hk dX7_copy_126 (v := 1) (by decide) ?_
          exact j_iret (pc := 127) hk dX7_copy_127
    · refine j_aload_n (pc := 55) hk 0 rfl ⟨_, rfl⟩ dX7_copy_55 ?_
      refine j_bipush (pc := 56) hk dX7_copy_56 (v := -4) (by decide) ?_
      refine j_callVi (pc := 58) hk [.int (-4 : Int32)] [] rfl (fun l o hq9 => C7_refuse (-4 : Int32) st l o hq9) (rcv_7 (rfl)) yv_X7_refuse ml_7_79 rfl (Nat.le_of_ble_eq_true rfl) (Nat.le_of_ble_eq_true rfl) (Nat.le_of_ble_eq_true rfl) dX7_copy_58 (fun x16 st17 => ?_)
      exact j_iret (pc := 61) hk dX7_copy_61
  · refine j_aload_n (pc := 43) hk 0 rfl ⟨_, rfl⟩ dX7_copy_43 ?_
    refine j_iload (pc := 44) hk 6 rfl dX7_copy_44 ?_
    refine j_callVi (pc := 46) hk [.int v6] [] rfl (fun l o hq9 => C7_refuse v6 st l o hq9) (rcv_7 (rfl)) yv_X7_refuse ml_7_79 rfl (Nat.le_of_ble_eq_true rfl) (Nat.le_of_ble_eq_true rfl) (Nat.le_of_ble_eq_true rfl) dX7_copy_46 (fun x18 st19 => ?_)
    exact j_iret (pc := 49) hk dX7_copy_49
def F7_copy (p1 : Int32) (p2 : Int32) (p3 : Int32) (p4 : Int32) (p5 : Int32) (st : fkS) : Option (Int32 × fkS) :=
 fk_bind (F7_noRows p1 p2 st) <| fun x1 st2 =>
 if x1 = 0 then
 (fk_chk (fk_in p1 8) <|
 fk_let (gI st2 102 (3 + p1.toNatClampNeg)) <| fun x4 =>
 fk_chk (fk_in p2 8) <|
 fk_let (gI st2 102 (3 + p2.toNatClampNeg)) <| fun x6 =>
 if x4 = x6 then
 (B7_copy_38 p1 p2 p3 p4 p5 x1 st2)
 else
 (B7_copy_38 p1 p2 p3 p4 p5 (-2 : Int32) st2))
 else
 (B7_copy_38 p1 p2 p3 p4 p5 x1 st2)
set_option maxHeartbeats 1000000 in
set_option maxRecDepth 20000 in
theorem C7_copy (p1 : Int32) (p2 : Int32) (p3 : Int32) (p4 : Int32) (p5 : Int32) (st : fkS) {g : fkG} (l : Launch) (o : Int32 × fkS) (hF : F7_copy p1 p2 p3 p4 p5 st = some o) : fk_C wC yX7_copy cX7_copy 7 (some (.int)) 2 100 l g [fk_r g 0, .int p1, .int p2, .int p3, .int p4, .int p5] st (fk_eI o.1) o.2 := by
  refine fk_begin rfl (Nat.le_of_ble_eq_true rfl) (fun k hk => ?_) o hF
  have hk : fk_ok wC g k RX7 cX7_copy 7 (some (.int)) 2 100 := hk
  show fk_J wC g fk_eI k 0 [(0, fk_r g 0), (1, .int p1), (2, .int p2), (3, .int p3), (4, .int p4), (5, .int p5)] [] st (F7_copy p1 p2 p3 p4 p5 st)
  unfold F7_copy
  refine j_aload_n (pc := 0) hk 0 rfl ⟨_, rfl⟩ dX7_copy_0 ?_
  refine j_iload_n (pc := 1) hk 1 rfl dX7_copy_1 ?_
  refine j_iload_n (pc := 2) hk 2 rfl dX7_copy_2 ?_
  refine j_callVi (pc := 3) hk [.int p1, .int p2] [] rfl (fun l o hq9 => C7_noRows p1 p2 st l o hq9) (rcv_7 (rfl)) yv_X7_noRows ml_7_98 rfl (Nat.le_of_ble_eq_true rfl) (Nat.le_of_ble_eq_true rfl) (Nat.le_of_ble_eq_true rfl) dX7_copy_3 (fun x1 st2 => ?_)
  refine j_istore (lv' := ((6, .int x1) :: [(0, fk_r g 0), (1, .int p1), (2, .int p2), (3, .int p3), (4, .int p4), (5, .int p5)])) (pc := 6) hk (by decide) rfl dX7_copy_6 ?_
  refine j_sub hk (lv' := [(0, fk_r g 0), (1, .int p1), (2, .int p2), (3, .int p3), (4, .int p4), (5, .int p5), (6, .int x1)]) [1, 2, 3, 4, 5, 6, 0] rfl ?_
  refine j_iload (pc := 8) hk 6 rfl dX7_copy_8 ?_
  refine j_if_ne (tgt := 38) (pc := 10) hk (by decide) dX7_copy_10 (fun _ => ?_) (fun _ => ?_)
  · refine j_aload_n (pc := 13) hk 0 rfl ⟨_, rfl⟩ dX7_copy_13 ?_
    refine f_7_11 (pc := 14) hk (rfl) dX7_copy_14 ?_
    refine j_iload_n (pc := 17) hk 1 rfl dX7_copy_17 ?_
    refine a_shelf (pc := 18) hk dX7_copy_18 (fun hs3 => ?_)
    refine f_7_102 (pc := 19) hk (hs3) dX7_copy_19 (fun x4 => ?_)
    refine j_aload_n (pc := 22) hk 0 rfl ⟨_, rfl⟩ dX7_copy_22 ?_
    refine f_7_11 (pc := 23) hk (rfl) dX7_copy_23 ?_
    refine j_iload_n (pc := 26) hk 2 rfl dX7_copy_26 ?_
    refine a_shelf (pc := 27) hk dX7_copy_27 (fun hs5 => ?_)
    refine f_7_102 (pc := 28) hk (hs5) dX7_copy_28 (fun x6 => ?_)
    refine j_icmp_eq (tgt := 38) (pc := 31) hk (by decide) dX7_copy_31 (fun _ => ?_) (fun _ => ?_)
    · exact j_sub hk [0, 1, 2, 3, 4, 5, 6] rfl (T7_copy_38 hk p1 p2 p3 p4 p5 x1 st2)
    · refine j_bipush (pc := 34) hk dX7_copy_34 (v := -2) (by decide) ?_
      refine j_istore (lv' := ((6, .int (-2 : Int32)) :: [(0, fk_r g 0), (1, .int p1), (2, .int p2), (3, .int p3), (4, .int p4), (5, .int p5)])) (pc := 36) hk (by decide) rfl dX7_copy_36 ?_
      refine j_sub hk (lv' := [(0, fk_r g 0), (1, .int p1), (2, .int p2), (3, .int p3), (4, .int p4), (5, .int p5), (6, .int (-2 : Int32))]) [1, 2, 3, 4, 5, 6, 0] rfl ?_
      exact j_sub hk [0, 1, 2, 3, 4, 5, 6] rfl (T7_copy_38 hk p1 p2 p3 p4 p5 (-2 : Int32) st2)
  · exact j_sub hk [0, 1, 2, 3, 4, 5, 6] rfl (T7_copy_38 hk p1 p2 p3 p4 p5 x1 st2)
theorem dX7_element_0 : decode cX7_element 0 = .ok (.aload_n 0, 1) := by decide +kernel
theorem dX7_element_1 : decode cX7_element 1 = .ok (.iload_n 1, 1) := by decide +kernel
theorem dX7_element_2 : decode cX7_element 2 = .ok (.invokevirtual 87, 3) := by decide +kernel
theorem dX7_element_5 : decode cX7_element 5 = .ok (.ifCond .eq 5, 3) := by decide +kernel
theorem dX7_element_8 : decode cX7_element 8 = .ok (.lconst 0, 1) := by decide +kernel
theorem dX7_element_9 : decode cX7_element 9 = .ok (.lreturn, 1) := by decide +kernel
theorem dX7_element_10 : decode cX7_element 10 = .ok (.aload_n 0, 1) := by decide +kernel
theorem dX7_element_11 : decode cX7_element 11 = .ok (.getfield 11, 3) := by decide +kernel
theorem dX7_element_14 : decode cX7_element 14 = .ok (.iload_n 1, 1) := by decide +kernel
theorem dX7_element_15 : decode cX7_element 15 = .ok (.aaload, 1) := by decide +kernel
theorem dX7_element_16 : decode cX7_element 16 = .ok (.iload_n 2, 1) := by decide +kernel
theorem dX7_element_17 : decode cX7_element 17 = .ok (.invokevirtual 119, 3) := by decide +kernel
theorem dX7_element_20 : decode cX7_element 20 = .ok (.lreturn, 1) := by decide +kernel
def F7_element (p1 : Int32) (p2 : Int32) (st : fkS) : Option (Int64 × fkS) :=
 fk_bind (F7_noRow p1 st) <| fun x1 st2 =>
 if x1 = 0 then
 (fk_chk (fk_in p1 8) <|
 fk_bind (F5_whole (3 + p1.toNatClampNeg) p2 st2) <| fun x4 st5 =>
 some (x4, st5))
 else
 (some ((0 : Int64), st2))
set_option maxHeartbeats 1000000 in
set_option maxRecDepth 20000 in
theorem C7_element (p1 : Int32) (p2 : Int32) (st : fkS) {g : fkG} (l : Launch) (o : Int64 × fkS) (hF : F7_element p1 p2 st = some o) : fk_C wC yX7_element cX7_element 3 (some (.long)) 3 64 l g [fk_r g 0, .int p1, .int p2] st (fk_eL o.1) o.2 := by
  refine fk_begin rfl (Nat.le_of_ble_eq_true rfl) (fun k hk => ?_) o hF
  have hk : fk_ok wC g k RX7 cX7_element 3 (some (.long)) 3 64 := hk
  show fk_J wC g fk_eL k 0 [(0, fk_r g 0), (1, .int p1), (2, .int p2)] [] st (F7_element p1 p2 st)
  unfold F7_element
  refine j_aload_n (pc := 0) hk 0 rfl ⟨_, rfl⟩ dX7_element_0 ?_
  refine j_iload_n (pc := 1) hk 1 rfl dX7_element_1 ?_
  refine j_callVi (pc := 2) hk [.int p1] [] rfl (fun l o hq9 => C7_noRow p1 st l o hq9) (rcv_7 (rfl)) yv_X7_noRow ml_7_87 rfl (Nat.le_of_ble_eq_true rfl) (Nat.le_of_ble_eq_true rfl) (Nat.le_of_ble_eq_true rfl) dX7_element_2 (fun x1 st2 => ?_)
  refine j_if_eq (tgt := 10) (pc := 5) hk (by decide) dX7_element_5 (fun _ => ?_) (fun _ => ?_)
  · refine j_aload_n (pc := 10) hk 0 rfl ⟨_, rfl⟩ dX7_element_10 ?_
    refine f_7_11 (pc := 11) hk (rfl) dX7_element_11 ?_
    refine j_iload_n (pc := 14) hk 1 rfl dX7_element_14 ?_
    refine a_shelf (pc := 15) hk dX7_element_15 (fun hs3 => ?_)
    refine j_iload_n (pc := 16) hk 2 rfl dX7_element_16 ?_
    refine j_callVNl (pc := 17) hk [.int p2] [] rfl (fun l o hq9 => C5_whole (3 + p1.toNatClampNeg) (hs3) p2 st2 l o hq9) (rcv_5 (hs3)) yv_X5_whole ml_7_119 rfl (Nat.le_of_ble_eq_true rfl) (Nat.le_of_ble_eq_true rfl) (Nat.le_of_ble_eq_true rfl) dX7_element_17 (fun x4 st5 => ?_)
    exact j_lret (pc := 20) hk dX7_element_20
  · refine j_lconst (pc := 8) hk dX7_element_8 (v := 0) (by decide) ?_
    exact j_lret (pc := 9) hk dX7_element_9
theorem dX7_show_0 : decode cX7_show 0 = .ok (.aload_n 0, 1) := by decide +kernel
theorem dX7_show_1 : decode cX7_show 1 = .ok (.iload_n 1, 1) := by decide +kernel
theorem dX7_show_2 : decode cX7_show 2 = .ok (.invokevirtual 75, 3) := by decide +kernel
theorem dX7_show_5 : decode cX7_show 5 = .ok (.ifCond .eq 9, 3) := by decide +kernel
theorem dX7_show_8 : decode cX7_show 8 = .ok (.aload_n 0, 1) := by decide +kernel
theorem dX7_show_9 : decode cX7_show 9 = .ok (.iconst (-1), 1) := by decide +kernel
theorem dX7_show_10 : decode cX7_show 10 = .ok (.invokevirtual 79, 3) := by decide +kernel
theorem dX7_show_13 : decode cX7_show 13 = .ok (.ireturn, 1) := by decide +kernel
theorem dX7_show_14 : decode cX7_show 14 = .ok (.iload_n 2, 1) := by decide +kernel
theorem dX7_show_15 : decode cX7_show 15 = .ok (.iconst (-1), 1) := by decide +kernel
theorem dX7_show_16 : decode cX7_show 16 = .ok (.if_icmp .ne 14, 3) := by decide +kernel
theorem dX7_show_19 : decode cX7_show 19 = .ok (.aload_n 0, 1) := by decide +kernel
theorem dX7_show_20 : decode cX7_show 20 = .ok (.getfield 11, 3) := by decide +kernel
theorem dX7_show_23 : decode cX7_show 23 = .ok (.iload_n 1, 1) := by decide +kernel
theorem dX7_show_24 : decode cX7_show 24 = .ok (.aaload, 1) := by decide +kernel
theorem dX7_show_25 : decode cX7_show 25 = .ok (.invokevirtual 123, 3) := by decide +kernel
theorem dX7_show_28 : decode cX7_show 28 = .ok (.iconst 0, 1) := by decide +kernel
theorem dX7_show_29 : decode cX7_show 29 = .ok (.ireturn, 1) := by decide +kernel
theorem dX7_show_30 : decode cX7_show 30 = .ok (.aload_n 0, 1) := by decide +kernel
theorem dX7_show_31 : decode cX7_show 31 = .ok (.getfield 18, 3) := by decide +kernel
theorem dX7_show_34 : decode cX7_show 34 = .ok (.iload_n 2, 1) := by decide +kernel
theorem dX7_show_35 : decode cX7_show 35 = .ok (.invokevirtual 126, 3) := by decide +kernel
theorem dX7_show_38 : decode cX7_show 38 = .ok (.ifCond .eq 9, 3) := by decide +kernel
theorem dX7_show_41 : decode cX7_show 41 = .ok (.aload_n 0, 1) := by decide +kernel
theorem dX7_show_42 : decode cX7_show 42 = .ok (.iconst (-1), 1) := by decide +kernel
theorem dX7_show_43 : decode cX7_show 43 = .ok (.invokevirtual 79, 3) := by decide +kernel
theorem dX7_show_46 : decode cX7_show 46 = .ok (.ireturn, 1) := by decide +kernel
theorem dX7_show_47 : decode cX7_show 47 = .ok (.aload_n 0, 1) := by decide +kernel
theorem dX7_show_48 : decode cX7_show 48 = .ok (.getfield 11, 3) := by decide +kernel
theorem dX7_show_51 : decode cX7_show 51 = .ok (.iload_n 1, 1) := by decide +kernel
theorem dX7_show_52 : decode cX7_show 52 = .ok (.aaload, 1) := by decide +kernel
theorem dX7_show_53 : decode cX7_show 53 = .ok (.iload_n 2, 1) := by decide +kernel
theorem dX7_show_54 : decode cX7_show 54 = .ok (.invokevirtual 129, 3) := by decide +kernel
theorem dX7_show_57 : decode cX7_show 57 = .ok (.iconst 1, 1) := by decide +kernel
theorem dX7_show_58 : decode cX7_show 58 = .ok (.ireturn, 1) := by decide +kernel
def F7_show (p1 : Int32) (p2 : Int32) (st : fkS) : Option (Int32 × fkS) :=
 fk_bind (F7_noShelf p1 st) <| fun x1 st2 =>
 if x1 = 0 then
 (if p2 = (-1 : Int32) then
 (fk_chk (fk_in p1 8) <|
 fk_bind (F5_holdNothing (3 + p1.toNatClampNeg) st2) <| fun _ st4 =>
 some ((0 : Int32), st4))
 else
 (fk_bind (F0_lacks 19 p2 st2) <| fun x5 st6 =>
 if x5 = 0 then
 (fk_chk (fk_in p1 8) <|
 fk_bind (F5_holdBird (3 + p1.toNatClampNeg) p2 st6) <| fun _ st8 =>
 some ((1 : Int32), st8))
 else
 (fk_bind (F7_refuse (-1 : Int32) st6) <| fun x9 st10 =>
 some (x9, st10))))
 else
 (fk_bind (F7_refuse (-1 : Int32) st2) <| fun x11 st12 =>
 some (x11, st12))
set_option maxHeartbeats 1000000 in
set_option maxRecDepth 20000 in
theorem C7_show (p1 : Int32) (p2 : Int32) (st : fkS) {g : fkG} (l : Launch) (o : Int32 × fkS) (hF : F7_show p1 p2 st = some o) : fk_C wC yX7_show cX7_show 3 (some (.int)) 1 22 l g [fk_r g 0, .int p1, .int p2] st (fk_eI o.1) o.2 := by
  refine fk_begin rfl (Nat.le_of_ble_eq_true rfl) (fun k hk => ?_) o hF
  have hk : fk_ok wC g k RX7 cX7_show 3 (some (.int)) 1 22 := hk
  show fk_J wC g fk_eI k 0 [(0, fk_r g 0), (1, .int p1), (2, .int p2)] [] st (F7_show p1 p2 st)
  unfold F7_show
  refine j_aload_n (pc := 0) hk 0 rfl ⟨_, rfl⟩ dX7_show_0 ?_
  refine j_iload_n (pc := 1) hk 1 rfl dX7_show_1 ?_
  refine j_callVi (pc := 2) hk [.int p1] [] rfl (fun l o hq9 => C7_noShelf p1 st l o hq9) (rcv_7 (rfl)) yv_X7_noShelf ml_7_75 rfl (Nat.le_of_ble_eq_true rfl) (Nat.le_of_ble_eq_true rfl) (Nat.le_of_ble_eq_true rfl) dX7_show_2 (fun x1 st2 => ?_)
  refine j_if_eq (tgt := 14) (pc := 5) hk (by decide) dX7_show_5 (fun _ => ?_) (fun _ => ?_)
  · refine j_iload_n (pc := 14) hk 2 rfl dX7_show_14 ?_
    refine j_iconst (pc := 15) hk dX7_show_15 (v := -1) (by decide) ?_
    refine j_icmp_ne (tgt := 30) (pc := 16) hk (by decide) dX7_show_16 (fun _ => ?_) (fun _ => ?_)
    · refine j_aload_n (pc := 19) hk 0 rfl ⟨_, rfl⟩ dX7_show_19 ?_
      refine f_7_11 (pc := 20) hk (rfl) dX7_show_20 ?_
      refine j_iload_n (pc := 23) hk 1 rfl dX7_show_23 ?_
      refine a_shelf (pc := 24) hk dX7_show_24 (fun hs3 => ?_)
      refine j_callVNv (pc := 25) hk [] [] rfl (fun l o hq9 => C5_holdNothing (3 + p1.toNatClampNeg) (hs3) st2 l o hq9) (rcv_5 (hs3)) yv_X5_holdNothing ml_7_123 rfl (Nat.le_of_ble_eq_true rfl) (Nat.le_of_ble_eq_true rfl) (Nat.le_of_ble_eq_true rfl) dX7_show_25 (fun _ st4 => ?_)
      refine j_iconst (pc := 28) hk dX7_show_28 (v := 0) (by decide) ?_
      exact j_iret (pc := 29) hk dX7_show_29
    · refine j_aload_n (pc := 30) hk 0 rfl ⟨_, rfl⟩ dX7_show_30 ?_
      refine f_7_18 (pc := 31) hk (rfl) dX7_show_31 ?_
      refine j_iload_n (pc := 34) hk 2 rfl dX7_show_34 ?_
      refine j_callVNi (pc := 35) hk [.int p2] [] rfl (fun l o hq9 => C0_lacks 19 (rfl) p2 st2 l o hq9) (rcv_0 (rfl)) yv_X0_lacks ml_7_126 rfl (Nat.le_of_ble_eq_true rfl) (Nat.le_of_ble_eq_true rfl) (Nat.le_of_ble_eq_true rfl) dX7_show_35 (fun x5 st6 => ?_)
      refine j_if_eq (tgt := 47) (pc := 38) hk (by decide) dX7_show_38 (fun _ => ?_) (fun _ => ?_)
      · refine j_aload_n (pc := 47) hk 0 rfl ⟨_, rfl⟩ dX7_show_47 ?_
        refine f_7_11 (pc := 48) hk (rfl) dX7_show_48 ?_
        refine j_iload_n (pc := 51) hk 1 rfl dX7_show_51 ?_
        refine a_shelf (pc := 52) hk dX7_show_52 (fun hs7 => ?_)
        refine j_iload_n (pc := 53) hk 2 rfl dX7_show_53 ?_
        refine j_callVNv (pc := 54) hk [.int p2] [] rfl (fun l o hq9 => C5_holdBird (3 + p1.toNatClampNeg) (hs7) p2 st6 l o hq9) (rcv_5 (hs7)) yv_X5_holdBird ml_7_129 rfl (Nat.le_of_ble_eq_true rfl) (Nat.le_of_ble_eq_true rfl) (Nat.le_of_ble_eq_true rfl) dX7_show_54 (fun _ st8 => ?_)
        refine j_iconst (pc := 57) hk dX7_show_57 (v := 1) (by decide) ?_
        exact j_iret (pc := 58) hk dX7_show_58
      · refine j_aload_n (pc := 41) hk 0 rfl ⟨_, rfl⟩ dX7_show_41 ?_
        refine j_iconst (pc := 42) hk dX7_show_42 (v := -1) (by decide) ?_
        refine j_callVi (pc := 43) hk [.int (-1 : Int32)] [] rfl (fun l o hq9 => C7_refuse (-1 : Int32) st6 l o hq9) (rcv_7 (rfl)) yv_X7_refuse ml_7_79 rfl (Nat.le_of_ble_eq_true rfl) (Nat.le_of_ble_eq_true rfl) (Nat.le_of_ble_eq_true rfl) dX7_show_43 (fun x9 st10 => ?_)
        exact j_iret (pc := 46) hk dX7_show_46
  · refine j_aload_n (pc := 8) hk 0 rfl ⟨_, rfl⟩ dX7_show_8 ?_
    refine j_iconst (pc := 9) hk dX7_show_9 (v := -1) (by decide) ?_
    refine j_callVi (pc := 10) hk [.int (-1 : Int32)] [] rfl (fun l o hq9 => C7_refuse (-1 : Int32) st2 l o hq9) (rcv_7 (rfl)) yv_X7_refuse ml_7_79 rfl (Nat.le_of_ble_eq_true rfl) (Nat.le_of_ble_eq_true rfl) (Nat.le_of_ble_eq_true rfl) dX7_show_10 (fun x11 st12 => ?_)
    exact j_iret (pc := 13) hk dX7_show_13
theorem dX7_holds_0 : decode cX7_holds 0 = .ok (.aload_n 0, 1) := by decide +kernel
theorem dX7_holds_1 : decode cX7_holds 1 = .ok (.iload_n 1, 1) := by decide +kernel
theorem dX7_holds_2 : decode cX7_holds 2 = .ok (.invokevirtual 75, 3) := by decide +kernel
theorem dX7_holds_5 : decode cX7_holds 5 = .ok (.ifCond .ne 15, 3) := by decide +kernel
theorem dX7_holds_8 : decode cX7_holds 8 = .ok (.aload_n 0, 1) := by decide +kernel
theorem dX7_holds_9 : decode cX7_holds 9 = .ok (.getfield 11, 3) := by decide +kernel
theorem dX7_holds_12 : decode cX7_holds 12 = .ok (.iload_n 1, 1) := by decide +kernel
theorem dX7_holds_13 : decode cX7_holds 13 = .ok (.aaload, 1) := by decide +kernel
theorem dX7_holds_14 : decode cX7_holds 14 = .ok (.getfield 133, 3) := by decide +kernel
theorem dX7_holds_17 : decode cX7_holds 17 = .ok (.ifCond .ne 5, 3) := by decide +kernel
theorem dX7_holds_20 : decode cX7_holds 20 = .ok (.iconst (-1), 1) := by decide +kernel
theorem dX7_holds_21 : decode cX7_holds 21 = .ok (.ireturn, 1) := by decide +kernel
theorem dX7_holds_22 : decode cX7_holds 22 = .ok (.aload_n 0, 1) := by decide +kernel
theorem dX7_holds_23 : decode cX7_holds 23 = .ok (.getfield 11, 3) := by decide +kernel
theorem dX7_holds_26 : decode cX7_holds 26 = .ok (.iload_n 1, 1) := by decide +kernel
theorem dX7_holds_27 : decode cX7_holds 27 = .ok (.aaload, 1) := by decide +kernel
theorem dX7_holds_28 : decode cX7_holds 28 = .ok (.getfield 133, 3) := by decide +kernel
theorem dX7_holds_31 : decode cX7_holds 31 = .ok (.iconst 1, 1) := by decide +kernel
theorem dX7_holds_32 : decode cX7_holds 32 = .ok (.if_icmp .ne 13, 3) := by decide +kernel
theorem dX7_holds_35 : decode cX7_holds 35 = .ok (.aload_n 0, 1) := by decide +kernel
theorem dX7_holds_36 : decode cX7_holds 36 = .ok (.getfield 11, 3) := by decide +kernel
theorem dX7_holds_39 : decode cX7_holds 39 = .ok (.iload_n 1, 1) := by decide +kernel
theorem dX7_holds_40 : decode cX7_holds 40 = .ok (.aaload, 1) := by decide +kernel
theorem dX7_holds_41 : decode cX7_holds 41 = .ok (.getfield 136, 3) := by decide +kernel
theorem dX7_holds_44 : decode cX7_holds 44 = .ok (.ireturn, 1) := by decide +kernel
theorem dX7_holds_45 : decode cX7_holds 45 = .ok (.bipush 100, 2) := by decide +kernel
theorem dX7_holds_47 : decode cX7_holds 47 = .ok (.aload_n 0, 1) := by decide +kernel
theorem dX7_holds_48 : decode cX7_holds 48 = .ok (.getfield 11, 3) := by decide +kernel
theorem dX7_holds_51 : decode cX7_holds 51 = .ok (.iload_n 1, 1) := by decide +kernel
theorem dX7_holds_52 : decode cX7_holds 52 = .ok (.aaload, 1) := by decide +kernel
theorem dX7_holds_53 : decode cX7_holds 53 = .ok (.getfield 102, 3) := by decide +kernel
theorem dX7_holds_56 : decode cX7_holds 56 = .ok (.iadd, 1) := by decide +kernel
theorem dX7_holds_57 : decode cX7_holds 57 = .ok (.ireturn, 1) := by decide +kernel
def F7_holds (p1 : Int32) (st : fkS) : Option (Int32 × fkS) :=
 fk_bind (F7_noShelf p1 st) <| fun x1 st2 =>
 if x1 = 0 then
 (fk_chk (fk_in p1 8) <|
 fk_let (gI st2 100 (3 + p1.toNatClampNeg)) <| fun x4 =>
 if x4 = 0 then
 (some ((-1 : Int32), st2))
 else
 (fk_chk (fk_in p1 8) <|
 fk_let (gI st2 100 (3 + p1.toNatClampNeg)) <| fun x6 =>
 if x6 = (1 : Int32) then
 (fk_chk (fk_in p1 8) <|
 fk_let (gI st2 101 (3 + p1.toNatClampNeg)) <| fun x8 =>
 some (x8, st2))
 else
 (fk_chk (fk_in p1 8) <|
 fk_let (gI st2 102 (3 + p1.toNatClampNeg)) <| fun x10 =>
 some (((100 : Int32) + x10), st2))))
 else
 (some ((-1 : Int32), st2))
set_option maxHeartbeats 1000000 in
set_option maxRecDepth 20000 in
theorem C7_holds (p1 : Int32) (st : fkS) {g : fkG} (l : Launch) (o : Int32 × fkS) (hF : F7_holds p1 st = some o) : fk_C wC yX7_holds cX7_holds 2 (some (.int)) 1 21 l g [fk_r g 0, .int p1] st (fk_eI o.1) o.2 := by
  refine fk_begin rfl (Nat.le_of_ble_eq_true rfl) (fun k hk => ?_) o hF
  have hk : fk_ok wC g k RX7 cX7_holds 2 (some (.int)) 1 21 := hk
  show fk_J wC g fk_eI k 0 [(0, fk_r g 0), (1, .int p1)] [] st (F7_holds p1 st)
  unfold F7_holds
  refine j_aload_n (pc := 0) hk 0 rfl ⟨_, rfl⟩ dX7_holds_0 ?_
  refine j_iload_n (pc := 1) hk 1 rfl dX7_holds_1 ?_
  refine j_callVi (pc := 2) hk [.int p1] [] rfl (fun l o hq9 => C7_noShelf p1 st l o hq9) (rcv_7 (rfl)) yv_X7_noShelf ml_7_75 rfl (Nat.le_of_ble_eq_true rfl) (Nat.le_of_ble_eq_true rfl) (Nat.le_of_ble_eq_true rfl) dX7_holds_2 (fun x1 st2 => ?_)
  refine j_if_ne (tgt := 20) (pc := 5) hk (by decide) dX7_holds_5 (fun _ => ?_) (fun _ => ?_)
  · refine j_aload_n (pc := 8) hk 0 rfl ⟨_, rfl⟩ dX7_holds_8 ?_
    refine f_7_11 (pc := 9) hk (rfl) dX7_holds_9 ?_
    refine j_iload_n (pc := 12) hk 1 rfl dX7_holds_12 ?_
    refine a_shelf (pc := 13) hk dX7_holds_13 (fun hs3 => ?_)
    refine f_7_133 (pc := 14) hk (hs3) dX7_holds_14 (fun x4 => ?_)
    refine j_if_ne (tgt := 22) (pc := 17) hk (by decide) dX7_holds_17 (fun _ => ?_) (fun _ => ?_)
    · refine j_iconst (pc := 20) hk dX7_holds_20 (v := -1) (by decide) ?_
      exact j_iret (pc := 21) hk dX7_holds_21
    · refine j_aload_n (pc := 22) hk 0 rfl ⟨_, rfl⟩ dX7_holds_22 ?_
      refine f_7_11 (pc := 23) hk (rfl) dX7_holds_23 ?_
      refine j_iload_n (pc := 26) hk 1 rfl dX7_holds_26 ?_
      refine a_shelf (pc := 27) hk dX7_holds_27 (fun hs5 => ?_)
      refine f_7_133 (pc := 28) hk (hs5) dX7_holds_28 (fun x6 => ?_)
      refine j_iconst (pc := 31) hk dX7_holds_31 (v := 1) (by decide) ?_
      refine j_icmp_ne (tgt := 45) (pc := 32) hk (by decide) dX7_holds_32 (fun _ => ?_) (fun _ => ?_)
      · refine j_aload_n (pc := 35) hk 0 rfl ⟨_, rfl⟩ dX7_holds_35 ?_
        refine f_7_11 (pc := 36) hk (rfl) dX7_holds_36 ?_
        refine j_iload_n (pc := 39) hk 1 rfl dX7_holds_39 ?_
        refine a_shelf (pc := 40) hk dX7_holds_40 (fun hs7 => ?_)
        refine f_7_136 (pc := 41) hk (hs7) dX7_holds_41 (fun x8 => ?_)
        exact j_iret (pc := 44) hk dX7_holds_44
      · refine j_bipush (pc := 45) hk dX7_holds_45 (v := 100) (by decide) ?_
        refine j_aload_n (pc := 47) hk 0 rfl ⟨_, rfl⟩ dX7_holds_47 ?_
        refine f_7_11 (pc := 48) hk (rfl) dX7_holds_48 ?_
        refine j_iload_n (pc := 51) hk 1 rfl dX7_holds_51 ?_
        refine a_shelf (pc := 52) hk dX7_holds_52 (fun hs9 => ?_)
        refine f_7_102 (pc := 53) hk (hs9) dX7_holds_53 (fun x10 => ?_)
        refine j_iadd (pc := 56) hk dX7_holds_56 ?_
        exact j_iret (pc := 57) hk dX7_holds_57
  · refine j_iconst (pc := 20) hk dX7_holds_20 (v := -1) (by decide) ?_
    exact j_iret (pc := 21) hk dX7_holds_21
theorem dX7_refuseFar_0 : decode cX7_refuseFar 0 = .ok (.aload_n 0, 1) := by decide +kernel
theorem dX7_refuseFar_1 : decode cX7_refuseFar 1 = .ok (.iload_n 1, 1) := by decide +kernel
theorem dX7_refuseFar_2 : decode cX7_refuseFar 2 = .ok (.invokevirtual 79, 3) := by decide +kernel
theorem dX7_refuseFar_5 : decode cX7_refuseFar 5 = .ok (.bipush 10, 2) := by decide +kernel
theorem dX7_refuseFar_7 : decode cX7_refuseFar 7 = .ok (.isub, 1) := by decide +kernel
theorem dX7_refuseFar_8 : decode cX7_refuseFar 8 = .ok (.ireturn, 1) := by decide +kernel
def F7_refuseFar (p1 : Int32) (st : fkS) : Option (Int32 × fkS) :=
 fk_bind (F7_refuse p1 st) <| fun x1 st2 =>
 some ((x1 - (10 : Int32)), st2)
set_option maxHeartbeats 1000000 in
set_option maxRecDepth 20000 in
theorem C7_refuseFar (p1 : Int32) (st : fkS) {g : fkG} (l : Launch) (o : Int32 × fkS) (hF : F7_refuseFar p1 st = some o) : fk_C wC yX7_refuseFar cX7_refuseFar 2 (some (.int)) 1 22 l g [fk_r g 0, .int p1] st (fk_eI o.1) o.2 := by
  refine fk_begin rfl (Nat.le_of_ble_eq_true rfl) (fun k hk => ?_) o hF
  have hk : fk_ok wC g k RX7 cX7_refuseFar 2 (some (.int)) 1 22 := hk
  show fk_J wC g fk_eI k 0 [(0, fk_r g 0), (1, .int p1)] [] st (F7_refuseFar p1 st)
  unfold F7_refuseFar
  refine j_aload_n (pc := 0) hk 0 rfl ⟨_, rfl⟩ dX7_refuseFar_0 ?_
  refine j_iload_n (pc := 1) hk 1 rfl dX7_refuseFar_1 ?_
  refine j_callVi (pc := 2) hk [.int p1] [] rfl (fun l o hq9 => C7_refuse p1 st l o hq9) (rcv_7 (rfl)) yv_X7_refuse ml_7_79 rfl (Nat.le_of_ble_eq_true rfl) (Nat.le_of_ble_eq_true rfl) (Nat.le_of_ble_eq_true rfl) dX7_refuseFar_2 (fun x1 st2 => ?_)
  refine j_bipush (pc := 5) hk dX7_refuseFar_5 (v := 10) (by decide) ?_
  refine j_isub (pc := 7) hk dX7_refuseFar_7 ?_
  exact j_iret (pc := 8) hk dX7_refuseFar_8
theorem dX7_isUnder_0 : decode cX7_isUnder 0 = .ok (.iload_n 0, 1) := by decide +kernel
theorem dX7_isUnder_1 : decode cX7_isUnder 1 = .ok (.istore_n 2, 1) := by decide +kernel
theorem dX7_isUnder_2 : decode cX7_isUnder 2 = .ok (.iconst 0, 1) := by decide +kernel
theorem dX7_isUnder_3 : decode cX7_isUnder 3 = .ok (.istore_n 3, 1) := by decide +kernel
theorem dX7_isUnder_4 : decode cX7_isUnder 4 = .ok (.iload_n 3, 1) := by decide +kernel
theorem dX7_isUnder_5 : decode cX7_isUnder 5 = .ok (.bipush 7, 2) := by decide +kernel
theorem dX7_isUnder_7 : decode cX7_isUnder 7 = .ok (.if_icmp .ge 32, 3) := by decide +kernel
theorem dX7_isUnder_10 : decode cX7_isUnder 10 = .ok (.iload_n 2, 1) := by decide +kernel
theorem dX7_isUnder_11 : decode cX7_isUnder 11 = .ok (.ifCond .lt 28, 3) := by decide +kernel
theorem dX7_isUnder_14 : decode cX7_isUnder 14 = .ok (.iload_n 2, 1) := by decide +kernel
theorem dX7_isUnder_15 : decode cX7_isUnder 15 = .ok (.bipush 7, 2) := by decide +kernel
theorem dX7_isUnder_17 : decode cX7_isUnder 17 = .ok (.if_icmp .ge 22, 3) := by decide +kernel
theorem dX7_isUnder_20 : decode cX7_isUnder 20 = .ok (.iload_n 2, 1) := by decide +kernel
theorem dX7_isUnder_21 : decode cX7_isUnder 21 = .ok (.iload_n 1, 1) := by decide +kernel
theorem dX7_isUnder_22 : decode cX7_isUnder 22 = .ok (.if_icmp .ne 5, 3) := by decide +kernel
theorem dX7_isUnder_25 : decode cX7_isUnder 25 = .ok (.iconst 1, 1) := by decide +kernel
theorem dX7_isUnder_26 : decode cX7_isUnder 26 = .ok (.ireturn, 1) := by decide +kernel
theorem dX7_isUnder_27 : decode cX7_isUnder 27 = .ok (.getstatic 341, 3) := by decide +kernel
theorem dX7_isUnder_30 : decode cX7_isUnder 30 = .ok (.iload_n 2, 1) := by decide +kernel
theorem dX7_isUnder_31 : decode cX7_isUnder 31 = .ok (.iaload, 1) := by decide +kernel
theorem dX7_isUnder_32 : decode cX7_isUnder 32 = .ok (.istore_n 2, 1) := by decide +kernel
theorem dX7_isUnder_33 : decode cX7_isUnder 33 = .ok (.iinc 3 1, 3) := by decide +kernel
theorem dX7_isUnder_36 : decode cX7_isUnder 36 = .ok (.goto (-32), 3) := by decide +kernel
theorem dX7_isUnder_39 : decode cX7_isUnder 39 = .ok (.iconst 0, 1) := by decide +kernel
theorem dX7_isUnder_40 : decode cX7_isUnder 40 = .ok (.ireturn, 1) := by decide +kernel
def B7_isUnder_4 (k4 : Int32 → Int32 → Int32 → fkS → Option (Int32 × fkS)) (v1 : Int32) (v2 : Int32) (v3 : Int32) (st : fkS) : Option (Int32 × fkS) :=
 if (7 : Int32) ≤ v3 then
 (some ((0 : Int32), st))
 else
 (if v2 < 0 then
 (some ((0 : Int32), st))
 else
 (if (7 : Int32) ≤ v2 then
 (some ((0 : Int32), st))
 else
 (if v2 = v1 then
 (some ((1 : Int32), st))
 else
 (fk_chk (fk_in v2 7) <| fk_let (fk_ka v2.toNatClampNeg) <| fun x1 =>
 k4 v1 x1 (v3 + (1 : Int32)) st))))
set_option maxHeartbeats 1000000 in
set_option maxRecDepth 20000 in
theorem T7_isUnder_4 {g : fkG} {k : fkK} (hk : fk_ok wC g k RX7 cX7_isUnder 4 (some (.boolean)) 0 0) (k4 : Int32 → Int32 → Int32 → fkS → Option (Int32 × fkS)) (H4 : ∀ (v1 : Int32) (v2 : Int32) (v3 : Int32) (st : fkS), fk_J wC g fk_eI k 4 [(1, .int v1), (2, .int v2), (3, .int v3)] [] st (k4 v1 v2 v3 st)) : ∀ (v1 : Int32) (v2 : Int32) (v3 : Int32) (st : fkS), fk_J wC g fk_eI k 4 [(1, .int v1), (2, .int v2), (3, .int v3)] [] st (B7_isUnder_4 k4 v1 v2 v3 st) := by
  intro v1 v2 v3 st
  unfold B7_isUnder_4
  refine j_iload_n (pc := 4) hk 2 rfl dX7_isUnder_4 ?_
  refine j_bipush (pc := 5) hk dX7_isUnder_5 (v := 7) (by decide) ?_
  refine j_icmp_ge (tgt := 39) (pc := 7) hk (by decide) dX7_isUnder_7 (fun _ => ?_) (fun _ => ?_)
  · refine j_iconst (pc := 39) hk dX7_isUnder_39 (v := 0) (by decide) ?_
    exact j_zret (pc := 40) hk rfl dX7_isUnder_40
  · refine j_iload_n (pc := 10) hk 1 rfl dX7_isUnder_10 ?_
    refine j_if_lt (tgt := 39) (pc := 11) hk (by decide) dX7_isUnder_11 (fun _ => ?_) (fun _ => ?_)
    · refine j_iconst (pc := 39) hk dX7_isUnder_39 (v := 0) (by decide) ?_
      exact j_zret (pc := 40) hk rfl dX7_isUnder_40
    · refine j_iload_n (pc := 14) hk 1 rfl dX7_isUnder_14 ?_
      refine j_bipush (pc := 15) hk dX7_isUnder_15 (v := 7) (by decide) ?_
      refine j_icmp_ge (tgt := 39) (pc := 17) hk (by decide) dX7_isUnder_17 (fun _ => ?_) (fun _ => ?_)
      · refine j_iconst (pc := 39) hk dX7_isUnder_39 (v := 0) (by decide) ?_
        exact j_zret (pc := 40) hk rfl dX7_isUnder_40
      · refine j_iload_n (pc := 20) hk 1 rfl dX7_isUnder_20 ?_
        refine j_iload_n (pc := 21) hk 0 rfl dX7_isUnder_21 ?_
        refine j_icmp_ne (tgt := 27) (pc := 22) hk (by decide) dX7_isUnder_22 (fun _ => ?_) (fun _ => ?_)
        · refine j_iconst (pc := 25) hk dX7_isUnder_25 (v := 1) (by decide) ?_
          exact j_zret (pc := 26) hk rfl dX7_isUnder_26
        · refine a_kaget (pc := 27) hk dX7_isUnder_27 ?_
          refine j_iload_n (pc := 30) hk 1 rfl dX7_isUnder_30 ?_
          refine a_kaload (pc := 31) hk dX7_isUnder_31 (fun x1 => ?_)
          refine j_istore_n (lv' := ((2, .int x1) :: [(1, .int v1), (3, .int v3)])) (pc := 32) hk rfl (by decide) rfl dX7_isUnder_32 ?_
          refine j_sub hk (lv' := [(1, .int v1), (2, .int x1), (3, .int v3)]) [1, 0, 2] rfl ?_
          refine j_iinc (dd := (1 : Int32)) (lv' := ((3, .int (v3 + (1 : Int32))) :: [(1, .int v1), (2, .int x1)])) (pc := 33) hk 2 rfl (by decide) (by decide) rfl dX7_isUnder_33 ?_
          refine j_sub hk (lv' := [(1, .int v1), (2, .int x1), (3, .int (v3 + (1 : Int32)))]) [1, 2, 0] rfl ?_
          refine j_goto (tgt := 4) (pc := 36) hk (by decide) dX7_isUnder_36 ?_
          exact j_sub hk [0, 1, 2] rfl (H4 v1 x1 (v3 + (1 : Int32)) st)
set_option maxHeartbeats 1000000 in
set_option maxRecDepth 20000 in
theorem L7_isUnder_4 {g : fkG} {k : fkK} (hk : fk_ok wC g k RX7 cX7_isUnder 4 (some (.boolean)) 0 0) (fu : Nat) : ∀ (v1 : Int32) (v2 : Int32) (v3 : Int32) (st : fkS), fk_J wC g fk_eI k 4 [(1, .int v1), (2, .int v2), (3, .int v3)] [] st (fk_lp3 (B7_isUnder_4) fu v1 v2 v3 st) := by
  induction fu with
  | zero =>
    intro v1 v2 v3 st
    exact j_none hk
  | succ fu ih =>
    exact T7_isUnder_4 hk _ ih
def F7_isUnder (p0 : Int32) (p1 : Int32) (st : fkS) : Option (Int32 × fkS) :=
 fk_lp3 (B7_isUnder_4) fk_fuel p1 p0 (0 : Int32) st
set_option maxHeartbeats 1000000 in
set_option maxRecDepth 20000 in
theorem C7_isUnder (p0 : Int32) (p1 : Int32) (st : fkS) {g : fkG} (l : Launch) (o : Int32 × fkS) (hF : F7_isUnder p0 p1 st = some o) : fk_C wC yX7_isUnder cX7_isUnder 4 (some (.boolean)) 0 0 l g [.int p0, .int p1] st (fk_eI o.1) o.2 := by
  refine fk_begin rfl (Nat.le_of_ble_eq_true rfl) (fun k hk => ?_) o hF
  have hk : fk_ok wC g k RX7 cX7_isUnder 4 (some (.boolean)) 0 0 := hk
  show fk_J wC g fk_eI k 0 [(0, .int p0), (1, .int p1)] [] st (F7_isUnder p0 p1 st)
  unfold F7_isUnder
  refine j_iload_n (pc := 0) hk 0 rfl dX7_isUnder_0 ?_
  refine j_istore_n (lv' := ((2, .int p0) :: [(0, .int p0), (1, .int p1)])) (pc := 1) hk rfl (by decide) rfl dX7_isUnder_1 ?_
  refine j_sub hk (lv' := [(0, .int p0), (1, .int p1), (2, .int p0)]) [1, 2, 0] rfl ?_
  refine j_iconst (pc := 2) hk dX7_isUnder_2 (v := 0) (by decide) ?_
  refine j_istore_n (lv' := ((3, .int (0 : Int32)) :: [(0, .int p0), (1, .int p1), (2, .int p0)])) (pc := 3) hk rfl (by decide) rfl dX7_isUnder_3 ?_
  refine j_sub hk (lv' := [(0, .int p0), (1, .int p1), (2, .int p0), (3, .int (0 : Int32))]) [1, 2, 3, 0] rfl ?_
  exact j_sub hk [1, 2, 3] rfl (L7_isUnder_4 hk fk_fuel p1 p0 (0 : Int32) st)
theorem dX7_says_0 : decode cX7_says 0 = .ok (.aload_n 0, 1) := by decide +kernel
theorem dX7_says_1 : decode cX7_says 1 = .ok (.iload_n 1, 1) := by decide +kernel
theorem dX7_says_2 : decode cX7_says 2 = .ok (.invokevirtual 75, 3) := by decide +kernel
theorem dX7_says_5 : decode cX7_says 5 = .ok (.ifCond .ne 13, 3) := by decide +kernel
theorem dX7_says_8 : decode cX7_says 8 = .ok (.iload_n 2, 1) := by decide +kernel
theorem dX7_says_9 : decode cX7_says 9 = .ok (.ifCond .lt 9, 3) := by decide +kernel
theorem dX7_says_12 : decode cX7_says 12 = .ok (.iload_n 2, 1) := by decide +kernel
theorem dX7_says_13 : decode cX7_says 13 = .ok (.bipush 7, 2) := by decide +kernel
theorem dX7_says_15 : decode cX7_says 15 = .ok (.if_icmp .lt 9, 3) := by decide +kernel
theorem dX7_says_18 : decode cX7_says 18 = .ok (.aload_n 0, 1) := by decide +kernel
theorem dX7_says_19 : decode cX7_says 19 = .ok (.iconst (-1), 1) := by decide +kernel
theorem dX7_says_20 : decode cX7_says 20 = .ok (.invokevirtual 139, 3) := by decide +kernel
theorem dX7_says_23 : decode cX7_says 23 = .ok (.ireturn, 1) := by decide +kernel
theorem dX7_says_24 : decode cX7_says 24 = .ok (.aload_n 0, 1) := by decide +kernel
theorem dX7_says_25 : decode cX7_says 25 = .ok (.getfield 11, 3) := by decide +kernel
theorem dX7_says_28 : decode cX7_says 28 = .ok (.iload_n 1, 1) := by decide +kernel
theorem dX7_says_29 : decode cX7_says 29 = .ok (.aaload, 1) := by decide +kernel
theorem dX7_says_30 : decode cX7_says 30 = .ok (.astore_n 3, 1) := by decide +kernel
theorem dX7_says_31 : decode cX7_says 31 = .ok (.aload_n 3, 1) := by decide +kernel
theorem dX7_says_32 : decode cX7_says 32 = .ok (.getfield 133, 3) := by decide +kernel
theorem dX7_says_35 : decode cX7_says 35 = .ok (.ifCond .ne 10, 3) := by decide +kernel
theorem dX7_says_38 : decode cX7_says 38 = .ok (.aload_n 0, 1) := by decide +kernel
theorem dX7_says_39 : decode cX7_says 39 = .ok (.bipush (-3), 2) := by decide +kernel
theorem dX7_says_41 : decode cX7_says 41 = .ok (.invokevirtual 139, 3) := by decide +kernel
theorem dX7_says_44 : decode cX7_says 44 = .ok (.ireturn, 1) := by decide +kernel
theorem dX7_says_45 : decode cX7_says 45 = .ok (.aload_n 3, 1) := by decide +kernel
theorem dX7_says_46 : decode cX7_says 46 = .ok (.getfield 133, 3) := by decide +kernel
theorem dX7_says_49 : decode cX7_says 49 = .ok (.iconst 1, 1) := by decide +kernel
theorem dX7_says_50 : decode cX7_says 50 = .ok (.if_icmp .ne 36, 3) := by decide +kernel
theorem dX7_says_53 : decode cX7_says 53 = .ok (.aload_n 0, 1) := by decide +kernel
theorem dX7_says_54 : decode cX7_says 54 = .ok (.getfield 18, 3) := by decide +kernel
theorem dX7_says_57 : decode cX7_says 57 = .ok (.aload_n 3, 1) := by decide +kernel
theorem dX7_says_58 : decode cX7_says 58 = .ok (.getfield 136, 3) := by decide +kernel
theorem dX7_says_61 : decode cX7_says 61 = .ok (.invokevirtual 126, 3) := by decide +kernel
theorem dX7_says_64 : decode cX7_says 64 = .ok (.ifCond .ne 22, 3) := by decide +kernel
theorem dX7_says_67 : decode cX7_says 67 = .ok (.aload_n 0, 1) := by decide +kernel
theorem dX7_says_68 : decode cX7_says 68 = .ok (.getfield 18, 3) := by decide +kernel
theorem dX7_says_71 : decode cX7_says 71 = .ok (.getfield 142, 3) := by decide +kernel
theorem dX7_says_74 : decode cX7_says 74 = .ok (.aload_n 3, 1) := by decide +kernel
theorem dX7_says_75 : decode cX7_says 75 = .ok (.getfield 136, 3) := by decide +kernel
theorem dX7_says_78 : decode cX7_says 78 = .ok (.iaload, 1) := by decide +kernel
theorem dX7_says_79 : decode cX7_says 79 = .ok (.iload_n 2, 1) := by decide +kernel
theorem dX7_says_80 : decode cX7_says 80 = .ok (.invokestatic 145, 3) := by decide +kernel
theorem dX7_says_83 : decode cX7_says 83 = .ok (.ifCond .ne 10, 3) := by decide +kernel
theorem dX7_says_86 : decode cX7_says 86 = .ok (.aload_n 0, 1) := by decide +kernel
theorem dX7_says_87 : decode cX7_says 87 = .ok (.bipush (-2), 2) := by decide +kernel
theorem dX7_says_89 : decode cX7_says 89 = .ok (.invokevirtual 139, 3) := by decide +kernel
theorem dX7_says_92 : decode cX7_says 92 = .ok (.ireturn, 1) := by decide +kernel
theorem dX7_says_93 : decode cX7_says 93 = .ok (.aload_n 0, 1) := by decide +kernel
theorem dX7_says_94 : decode cX7_says 94 = .ok (.getfield 56, 3) := by decide +kernel
theorem dX7_says_97 : decode cX7_says 97 = .ok (.aload_n 0, 1) := by decide +kernel
theorem dX7_says_98 : decode cX7_says 98 = .ok (.getfield 18, 3) := by decide +kernel
theorem dX7_says_101 : decode cX7_says 101 = .ok (.aload_n 3, 1) := by decide +kernel
theorem dX7_says_102 : decode cX7_says 102 = .ok (.getfield 136, 3) := by decide +kernel
theorem dX7_says_105 : decode cX7_says 105 = .ok (.invokevirtual 148, 3) := by decide +kernel
theorem dX7_says_108 : decode cX7_says 108 = .ok (.iload_n 2, 1) := by decide +kernel
theorem dX7_says_109 : decode cX7_says 109 = .ok (.tableswitch 106 0 5 #[39, 106, 47, 106, 75, 47], 39) := by decide +kernel
theorem dX7_says_148 : decode cX7_says 148 = .ok (.aload_n 0, 1) := by decide +kernel
theorem dX7_says_149 : decode cX7_says 149 = .ok (.getfield 56, 3) := by decide +kernel
theorem dX7_says_152 : decode cX7_says 152 = .ok (.getfield 152, 3) := by decide +kernel
theorem dX7_says_155 : decode cX7_says 155 = .ok (.ireturn, 1) := by decide +kernel
theorem dX7_says_156 : decode cX7_says 156 = .ok (.aload_n 0, 1) := by decide +kernel
theorem dX7_says_157 : decode cX7_says 157 = .ok (.getfield 49, 3) := by decide +kernel
theorem dX7_says_160 : decode cX7_says 160 = .ok (.iconst 3, 1) := by decide +kernel
theorem dX7_says_161 : decode cX7_says 161 = .ok (.iconst 0, 1) := by decide +kernel
theorem dX7_says_162 : decode cX7_says 162 = .ok (.invokevirtual 155, 3) := by decide +kernel
theorem dX7_says_165 : decode cX7_says 165 = .ok (.aload_n 0, 1) := by decide +kernel
theorem dX7_says_166 : decode cX7_says 166 = .ok (.getfield 56, 3) := by decide +kernel
theorem dX7_says_169 : decode cX7_says 169 = .ok (.aload_n 0, 1) := by decide +kernel
theorem dX7_says_170 : decode cX7_says 170 = .ok (.getfield 49, 3) := by decide +kernel
theorem dX7_says_173 : decode cX7_says 173 = .ok (.invokevirtual 158, 3) := by decide +kernel
theorem dX7_says_176 : decode cX7_says 176 = .ok (.aload_n 0, 1) := by decide +kernel
theorem dX7_says_177 : decode cX7_says 177 = .ok (.getfield 56, 3) := by decide +kernel
theorem dX7_says_180 : decode cX7_says 180 = .ok (.getfield 162, 3) := by decide +kernel
theorem dX7_says_183 : decode cX7_says 183 = .ok (.ireturn, 1) := by decide +kernel
theorem dX7_says_184 : decode cX7_says 184 = .ok (.aload_n 0, 1) := by decide +kernel
theorem dX7_says_185 : decode cX7_says 185 = .ok (.getfield 49, 3) := by decide +kernel
theorem dX7_says_188 : decode cX7_says 188 = .ok (.iconst 3, 1) := by decide +kernel
theorem dX7_says_189 : decode cX7_says 189 = .ok (.sipush 210, 3) := by decide +kernel
theorem dX7_says_192 : decode cX7_says 192 = .ok (.invokevirtual 155, 3) := by decide +kernel
theorem dX7_says_195 : decode cX7_says 195 = .ok (.aload_n 0, 1) := by decide +kernel
theorem dX7_says_196 : decode cX7_says 196 = .ok (.getfield 56, 3) := by decide +kernel
theorem dX7_says_199 : decode cX7_says 199 = .ok (.aload_n 0, 1) := by decide +kernel
theorem dX7_says_200 : decode cX7_says 200 = .ok (.getfield 49, 3) := by decide +kernel
theorem dX7_says_203 : decode cX7_says 203 = .ok (.invokevirtual 158, 3) := by decide +kernel
theorem dX7_says_206 : decode cX7_says 206 = .ok (.aload_n 0, 1) := by decide +kernel
theorem dX7_says_207 : decode cX7_says 207 = .ok (.getfield 56, 3) := by decide +kernel
theorem dX7_says_210 : decode cX7_says 210 = .ok (.iconst 0, 1) := by decide +kernel
theorem dX7_says_211 : decode cX7_says 211 = .ok (.invokevirtual 165, 3) := by decide +kernel
theorem dX7_says_214 : decode cX7_says 214 = .ok (.ireturn, 1) := by decide +kernel
theorem dX7_says_215 : decode cX7_says 215 = .ok (.aload_n 0, 1) := by decide +kernel
theorem dX7_says_216 : decode cX7_says 216 = .ok (.getfield 56, 3) := by decide +kernel
theorem dX7_says_219 : decode cX7_says 219 = .ok (.getfield 168, 3) := by decide +kernel
theorem dX7_says_222 : decode cX7_says 222 = .ok (.ireturn, 1) := by decide +kernel
def B7_says_18 (st : fkS) : Option (Int32 × fkS) :=
 fk_bind (F7_refuseFar (-1 : Int32) st) <| fun x37 st38 =>
 some (x37, st38)
set_option maxHeartbeats 1000000 in
set_option maxRecDepth 20000 in
theorem T7_says_18 {g : fkG} {k : fkK} (hk : fk_ok wC g k RX7 cX7_says 4 (some (.int)) 3 143) : ∀ (st : fkS), fk_J wC g fk_eI k 18 [(0, fk_r g 0)] [] st (B7_says_18 st) := by
  intro st
  unfold B7_says_18
  refine j_aload_n (pc := 18) hk 0 rfl ⟨_, rfl⟩ dX7_says_18 ?_
  refine j_iconst (pc := 19) hk dX7_says_19 (v := -1) (by decide) ?_
  refine j_callVi (pc := 20) hk [.int (-1 : Int32)] [] rfl (fun l o hq9 => C7_refuseFar (-1 : Int32) st l o hq9) (rcv_7 (rfl)) yv_X7_refuseFar ml_7_139 rfl (Nat.le_of_ble_eq_true rfl) (Nat.le_of_ble_eq_true rfl) (Nat.le_of_ble_eq_true rfl) dX7_says_20 (fun x37 st38 => ?_)
  exact j_iret (pc := 23) hk dX7_says_23
def B7_says_86 (st : fkS) : Option (Int32 × fkS) :=
 fk_bind (F7_refuseFar (-2 : Int32) st) <| fun x39 st40 =>
 some (x39, st40)
set_option maxHeartbeats 1000000 in
set_option maxRecDepth 20000 in
theorem T7_says_86 {g : fkG} {k : fkK} (hk : fk_ok wC g k RX7 cX7_says 4 (some (.int)) 3 143) : ∀ (st : fkS), fk_J wC g fk_eI k 86 [(0, fk_r g 0)] [] st (B7_says_86 st) := by
  intro st
  unfold B7_says_86
  refine j_aload_n (pc := 86) hk 0 rfl ⟨_, rfl⟩ dX7_says_86 ?_
  refine j_bipush (pc := 87) hk dX7_says_87 (v := -2) (by decide) ?_
  refine j_callVi (pc := 89) hk [.int (-2 : Int32)] [] rfl (fun l o hq9 => C7_refuseFar (-2 : Int32) st l o hq9) (rcv_7 (rfl)) yv_X7_refuseFar ml_7_139 rfl (Nat.le_of_ble_eq_true rfl) (Nat.le_of_ble_eq_true rfl) (Nat.le_of_ble_eq_true rfl) dX7_says_89 (fun x39 st40 => ?_)
  exact j_iret (pc := 92) hk dX7_says_92
def F7_says (p1 : Int32) (p2 : Int32) (st : fkS) : Option (Int32 × fkS) :=
 fk_bind (F7_noShelf p1 st) <| fun x1 st2 =>
 if x1 = 0 then
 (if p2 < 0 then
 (B7_says_18 st2)
 else
 (if p2 < (7 : Int32) then
 (fk_chk (fk_in p1 8) <|
 fk_let (gI st2 100 (3 + p1.toNatClampNeg)) <| fun x4 =>
 if x4 = 0 then
 (fk_bind (F7_refuseFar (-3 : Int32) st2) <| fun x5 st6 =>
 some (x5, st6))
 else
 (fk_let (gI st2 100 (3 + p1.toNatClampNeg)) <| fun x7 =>
 if x7 = (1 : Int32) then
 (fk_let (gI st2 101 (3 + p1.toNatClampNeg)) <| fun x8 =>
 fk_bind (F0_lacks 19 x8 st2) <| fun x9 st10 =>
 if x9 = 0 then
 (fk_let (gI st10 101 (3 + p1.toNatClampNeg)) <| fun x11 =>
 fk_chk (fk_in x11 7) <| fk_let (gA st10 22 x11.toNatClampNeg) <| fun x12 =>
 fk_bind (F7_isUnder x12 p2 st10) <| fun x13 st14 =>
 if x13 = 0 then
 (B7_says_86 st14)
 else
 (fk_let (gI st14 101 (3 + p1.toNatClampNeg)) <| fun x15 =>
 fk_bind (F6_take 40 19 x15 st14) <| fun _ st16 =>
 if p2 = (0 : Int32) then
 (fk_let (gI st16 122 40) <| fun x18 =>
 some (x18, st16))
 else
 (if p2 = (1 : Int32) then
 (fk_let (gI st16 121 40) <| fun x20 =>
 some (x20, st16))
 else
 (if p2 = (2 : Int32) then
 (fk_bind (F3_setByNumber (3 : Int32) (0 : Int32) st16) <| fun _ st22 =>
 fk_bind (F6_speak 40 st22) <| fun _ st23 =>
 fk_let (gI st23 124 40) <| fun x24 =>
 some (x24, st23))
 else
 (if p2 = (3 : Int32) then
 (fk_let (gI st16 121 40) <| fun x26 =>
 some (x26, st16))
 else
 (if p2 = (4 : Int32) then
 (fk_bind (F3_setByNumber (3 : Int32) (210 : Int32) st16) <| fun _ st28 =>
 fk_bind (F6_speak 40 st28) <| fun _ st29 =>
 fk_bind (F6_sign 40 (0 : Int32) st29) <| fun x30 st31 =>
 some (x30, st31))
 else
 (if p2 = (5 : Int32) then
 (fk_bind (F3_setByNumber (3 : Int32) (0 : Int32) st16) <| fun _ st33 =>
 fk_bind (F6_speak 40 st33) <| fun _ st34 =>
 fk_let (gI st34 124 40) <| fun x35 =>
 some (x35, st34))
 else
 (fk_let (gI st16 121 40) <| fun x36 =>
 some (x36, st16)))))))))
 else
 (B7_says_86 st10))
 else
 (B7_says_86 st2)))
 else
 (B7_says_18 st2)))
 else
 (B7_says_18 st2)
set_option maxHeartbeats 1000000 in
set_option maxRecDepth 20000 in
theorem C7_says (p1 : Int32) (p2 : Int32) (st : fkS) {g : fkG} (l : Launch) (o : Int32 × fkS) (hF : F7_says p1 p2 st = some o) : fk_C wC yX7_says cX7_says 4 (some (.int)) 3 143 l g [fk_r g 0, .int p1, .int p2] st (fk_eI o.1) o.2 := by
  refine fk_begin rfl (Nat.le_of_ble_eq_true rfl) (fun k hk => ?_) o hF
  have hk : fk_ok wC g k RX7 cX7_says 4 (some (.int)) 3 143 := hk
  show fk_J wC g fk_eI k 0 [(0, fk_r g 0), (1, .int p1), (2, .int p2)] [] st (F7_says p1 p2 st)
  unfold F7_says
  refine j_aload_n (pc := 0) hk 0 rfl ⟨_, rfl⟩ dX7_says_0 ?_
  refine j_iload_n (pc := 1) hk 1 rfl dX7_says_1 ?_
  refine j_callVi (pc := 2) hk [.int p1] [] rfl (fun l o hq9 => C7_noShelf p1 st l o hq9) (rcv_7 (rfl)) yv_X7_noShelf ml_7_75 rfl (Nat.le_of_ble_eq_true rfl) (Nat.le_of_ble_eq_true rfl) (Nat.le_of_ble_eq_true rfl) dX7_says_2 (fun x1 st2 => ?_)
  refine j_if_ne (tgt := 18) (pc := 5) hk (by decide) dX7_says_5 (fun _ => ?_) (fun _ => ?_)
  · refine j_iload_n (pc := 8) hk 2 rfl dX7_says_8 ?_
    refine j_if_lt (tgt := 18) (pc := 9) hk (by decide) dX7_says_9 (fun _ => ?_) (fun _ => ?_)
    · exact j_sub hk [0] rfl (T7_says_18 hk st2)
    · refine j_iload_n (pc := 12) hk 2 rfl dX7_says_12 ?_
      refine j_bipush (pc := 13) hk dX7_says_13 (v := 7) (by decide) ?_
      refine j_icmp_lt (tgt := 24) (pc := 15) hk (by decide) dX7_says_15 (fun _ => ?_) (fun _ => ?_)
      · refine j_aload_n (pc := 24) hk 0 rfl ⟨_, rfl⟩ dX7_says_24 ?_
        refine f_7_11 (pc := 25) hk (rfl) dX7_says_25 ?_
        refine j_iload_n (pc := 28) hk 1 rfl dX7_says_28 ?_
        refine a_shelf (pc := 29) hk dX7_says_29 (fun hs3 => ?_)
        refine j_astore_n (lv' := ((3, fk_r g (3 + p1.toNatClampNeg)) :: [(0, fk_r g 0), (1, .int p1), (2, .int p2)])) (pc := 30) hk ⟨_, rfl⟩ rfl (by decide) rfl dX7_says_30 ?_
        refine j_sub hk (lv' := [(0, fk_r g 0), (1, .int p1), (2, .int p2), (3, fk_r g (3 + p1.toNatClampNeg))]) [1, 2, 3, 0] rfl ?_
        refine j_aload_n (pc := 31) hk 3 rfl ⟨_, rfl⟩ dX7_says_31 ?_
        refine f_7_133 (pc := 32) hk (hs3) dX7_says_32 (fun x4 => ?_)
        refine j_if_ne (tgt := 45) (pc := 35) hk (by decide) dX7_says_35 (fun _ => ?_) (fun _ => ?_)
        · refine j_aload_n (pc := 38) hk 0 rfl ⟨_, rfl⟩ dX7_says_38 ?_
          refine j_bipush (pc := 39) hk dX7_says_39 (v := -3) (by decide) ?_
          refine j_callVi (pc := 41) hk [.int (-3 : Int32)] [] rfl (fun l o hq9 => C7_refuseFar (-3 : Int32) st2 l o hq9) (rcv_7 (rfl)) yv_X7_refuseFar ml_7_139 rfl (Nat.le_of_ble_eq_true rfl) (Nat.le_of_ble_eq_true rfl) (Nat.le_of_ble_eq_true rfl) dX7_says_41 (fun x5 st6 => ?_)
          exact j_iret (pc := 44) hk dX7_says_44
        · refine j_aload_n (pc := 45) hk 3 rfl ⟨_, rfl⟩ dX7_says_45 ?_
          refine f_7_133 (pc := 46) hk (hs3) dX7_says_46 (fun x7 => ?_)
          refine j_iconst (pc := 49) hk dX7_says_49 (v := 1) (by decide) ?_
          refine j_icmp_ne (tgt := 86) (pc := 50) hk (by decide) dX7_says_50 (fun _ => ?_) (fun _ => ?_)
          · refine j_aload_n (pc := 53) hk 0 rfl ⟨_, rfl⟩ dX7_says_53 ?_
            refine f_7_18 (pc := 54) hk (rfl) dX7_says_54 ?_
            refine j_aload_n (pc := 57) hk 3 rfl ⟨_, rfl⟩ dX7_says_57 ?_
            refine f_7_136 (pc := 58) hk (hs3) dX7_says_58 (fun x8 => ?_)
            refine j_callVNi (pc := 61) hk [.int x8] [] rfl (fun l o hq9 => C0_lacks 19 (rfl) x8 st2 l o hq9) (rcv_0 (rfl)) yv_X0_lacks ml_7_126 rfl (Nat.le_of_ble_eq_true rfl) (Nat.le_of_ble_eq_true rfl) (Nat.le_of_ble_eq_true rfl) dX7_says_61 (fun x9 st10 => ?_)
            refine j_if_ne (tgt := 86) (pc := 64) hk (by decide) dX7_says_64 (fun _ => ?_) (fun _ => ?_)
            · refine j_aload_n (pc := 67) hk 0 rfl ⟨_, rfl⟩ dX7_says_67 ?_
              refine f_7_18 (pc := 68) hk (rfl) dX7_says_68 ?_
              refine f_7_142 (pc := 71) hk (rfl) dX7_says_71 ?_
              refine j_aload_n (pc := 74) hk 3 rfl ⟨_, rfl⟩ dX7_says_74 ?_
              refine f_7_136 (pc := 75) hk (hs3) dX7_says_75 (fun x11 => ?_)
              refine a_iload (pc := 78) hk (isI_0_1 (rfl)) dX7_says_78 (fun x12 => ?_)
              refine j_iload_n (pc := 79) hk 2 rfl dX7_says_79 ?_
              refine j_callSi (pc := 80) hk [.int x12, .int p2] [] rfl (fun l o hq9 => C7_isUnder x12 p2 st10 l o hq9) yv_X7_isUnder ml_7_145 rfl (Nat.le_of_ble_eq_true rfl) (Nat.le_of_ble_eq_true rfl) (Nat.le_of_ble_eq_true rfl) dX7_says_80 (fun x13 st14 => ?_)
              refine j_if_ne (tgt := 93) (pc := 83) hk (by decide) dX7_says_83 (fun _ => ?_) (fun _ => ?_)
              · exact j_sub hk [0] rfl (T7_says_86 hk st14)
              · refine j_aload_n (pc := 93) hk 0 rfl ⟨_, rfl⟩ dX7_says_93 ?_
                refine f_7_56 (pc := 94) hk (rfl) dX7_says_94 ?_
                refine j_aload_n (pc := 97) hk 0 rfl ⟨_, rfl⟩ dX7_says_97 ?_
                refine f_7_18 (pc := 98) hk (rfl) dX7_says_98 ?_
                refine j_aload_n (pc := 101) hk 3 rfl ⟨_, rfl⟩ dX7_says_101 ?_
                refine f_7_136 (pc := 102) hk (hs3) dX7_says_102 (fun x15 => ?_)
                refine j_callVNv (pc := 105) hk [fk_r g 19, .int x15] [] rfl (fun l o hq9 => C6_take 40 19 (rfl) (rfl) x15 st14 l o hq9) (rcv_6 (rfl)) yv_X6_take ml_7_148 rfl (Nat.le_of_ble_eq_true rfl) (Nat.le_of_ble_eq_true rfl) (Nat.le_of_ble_eq_true rfl) dX7_says_105 (fun _ st16 => ?_)
                refine j_iload_n (pc := 108) hk 2 rfl dX7_says_108 ?_
                refine j_case (pc := 109) hk (fun n17 => ?_) (fun n17 => ?_)
                · refine j_tswIn (off := 39) (tgt := 148) (pc := 109) hk (by rw [n17]; decide) (by rw [n17]; decide) (by rw [n17]; decide) (by decide) dX7_says_109 ?_
                  refine j_aload_n (pc := 148) hk 0 rfl ⟨_, rfl⟩ dX7_says_148 ?_
                  refine f_7_56 (pc := 149) hk (rfl) dX7_says_149 ?_
                  refine f_7_152 (pc := 152) hk (rfl) dX7_says_152 (fun x18 => ?_)
                  exact j_iret (pc := 155) hk dX7_says_155
                · refine j_case (pc := 109) hk (fun n19 => ?_) (fun n19 => ?_)
                  · refine j_tswIn (off := 106) (tgt := 215) (pc := 109) hk (by rw [n19]; decide) (by rw [n19]; decide) (by rw [n19]; decide) (by decide) dX7_says_109 ?_
                    refine j_aload_n (pc := 215) hk 0 rfl ⟨_, rfl⟩ dX7_says_215 ?_
                    refine f_7_56 (pc := 216) hk (rfl) dX7_says_216 ?_
                    refine f_7_168 (pc := 219) hk (rfl) dX7_says_219 (fun x20 => ?_)
                    exact j_iret (pc := 222) hk dX7_says_222
                  · refine j_case (pc := 109) hk (fun n21 => ?_) (fun n21 => ?_)
                    · refine j_tswIn (off := 47) (tgt := 156) (pc := 109) hk (by rw [n21]; decide) (by rw [n21]; decide) (by rw [n21]; decide) (by decide) dX7_says_109 ?_
                      refine j_aload_n (pc := 156) hk 0 rfl ⟨_, rfl⟩ dX7_says_156 ?_
                      refine f_7_49 (pc := 157) hk (rfl) dX7_says_157 ?_
                      refine j_iconst (pc := 160) hk dX7_says_160 (v := 3) (by decide) ?_
                      refine j_iconst (pc := 161) hk dX7_says_161 (v := 0) (by decide) ?_
                      refine j_callVNv (pc := 162) hk [.int (3 : Int32), .int (0 : Int32)] [] rfl (fun l o hq9 => C3_setByNumber (3 : Int32) (0 : Int32) st16 l o hq9) (rcv_3 (rfl)) yv_X3_setByNumber ml_7_155 rfl (Nat.le_of_ble_eq_true rfl) (Nat.le_of_ble_eq_true rfl) (Nat.le_of_ble_eq_true rfl) dX7_says_162 (fun _ st22 => ?_)
                      refine j_aload_n (pc := 165) hk 0 rfl ⟨_, rfl⟩ dX7_says_165 ?_
                      refine f_7_56 (pc := 166) hk (rfl) dX7_says_166 ?_
                      refine j_aload_n (pc := 169) hk 0 rfl ⟨_, rfl⟩ dX7_says_169 ?_
                      refine f_7_49 (pc := 170) hk (rfl) dX7_says_170 ?_
                      refine j_callVNv (pc := 173) hk [fk_r g 38] [] rfl (fun l o hq9 => C6_speak 40 (rfl) st22 l o hq9) (rcv_6 (rfl)) yv_X6_speak ml_7_158 rfl (Nat.le_of_ble_eq_true rfl) (Nat.le_of_ble_eq_true rfl) (Nat.le_of_ble_eq_true rfl) dX7_says_173 (fun _ st23 => ?_)
                      refine j_aload_n (pc := 176) hk 0 rfl ⟨_, rfl⟩ dX7_says_176 ?_
                      refine f_7_56 (pc := 177) hk (rfl) dX7_says_177 ?_
                      refine f_7_162 (pc := 180) hk (rfl) dX7_says_180 (fun x24 => ?_)
                      exact j_iret (pc := 183) hk dX7_says_183
                    · refine j_case (pc := 109) hk (fun n25 => ?_) (fun n25 => ?_)
                      · refine j_tswIn (off := 106) (tgt := 215) (pc := 109) hk (by rw [n25]; decide) (by rw [n25]; decide) (by rw [n25]; decide) (by decide) dX7_says_109 ?_
                        refine j_aload_n (pc := 215) hk 0 rfl ⟨_, rfl⟩ dX7_says_215 ?_
                        refine f_7_56 (pc := 216) hk (rfl) dX7_says_216 ?_
                        refine f_7_168 (pc := 219) hk (rfl) dX7_says_219 (fun x26 => ?_)
                        exact j_iret (pc := 222) hk dX7_says_222
                      · refine j_case (pc := 109) hk (fun n27 => ?_) (fun n27 => ?_)
                        · refine j_tswIn (off := 75) (tgt := 184) (pc := 109) hk (by rw [n27]; decide) (by rw [n27]; decide) (by rw [n27]; decide) (by decide) dX7_says_109 ?_
                          refine j_aload_n (pc := 184) hk 0 rfl ⟨_, rfl⟩ dX7_says_184 ?_
                          refine f_7_49 (pc := 185) hk (rfl) dX7_says_185 ?_
                          refine j_iconst (pc := 188) hk dX7_says_188 (v := 3) (by decide) ?_
                          refine j_sipush (pc := 189) hk dX7_says_189 (v := 210) (by decide) ?_
                          refine j_callVNv (pc := 192) hk [.int (3 : Int32), .int (210 : Int32)] [] rfl (fun l o hq9 => C3_setByNumber (3 : Int32) (210 : Int32) st16 l o hq9) (rcv_3 (rfl)) yv_X3_setByNumber ml_7_155 rfl (Nat.le_of_ble_eq_true rfl) (Nat.le_of_ble_eq_true rfl) (Nat.le_of_ble_eq_true rfl) dX7_says_192 (fun _ st28 => ?_)
                          refine j_aload_n (pc := 195) hk 0 rfl ⟨_, rfl⟩ dX7_says_195 ?_
                          refine f_7_56 (pc := 196) hk (rfl) dX7_says_196 ?_
                          refine j_aload_n (pc := 199) hk 0 rfl ⟨_, rfl⟩ dX7_says_199 ?_
                          refine f_7_49 (pc := 200) hk (rfl) dX7_says_200 ?_
                          refine j_callVNv (pc := 203) hk [fk_r g 38] [] rfl (fun l o hq9 => C6_speak 40 (rfl) st28 l o hq9) (rcv_6 (rfl)) yv_X6_speak ml_7_158 rfl (Nat.le_of_ble_eq_true rfl) (Nat.le_of_ble_eq_true rfl) (Nat.le_of_ble_eq_true rfl) dX7_says_203 (fun _ st29 => ?_)
                          refine j_aload_n (pc := 206) hk 0 rfl ⟨_, rfl⟩ dX7_says_206 ?_
                          refine f_7_56 (pc := 207) hk (rfl) dX7_says_207 ?_
                          refine j_iconst (pc := 210) hk dX7_says_210 (v := 0) (by decide) ?_
                          refine j_callVNi (pc := 211) hk [.int (0 : Int32)] [] rfl (fun l o hq9 => C6_sign 40 (rfl) (0 : Int32) st29 l o hq9) (rcv_6 (rfl)) yv_X6_sign ml_7_165 rfl (Nat.le_of_ble_eq_true rfl) (Nat.le_of_ble_eq_true rfl) (Nat.le_of_ble_eq_true rfl) dX7_says_211 (fun x30 st31 => ?_)
                          exact j_iret (pc := 214) hk dX7_says_214
                        · refine j_case (pc := 109) hk (fun n32 => ?_) (fun n32 => ?_)
                          · refine j_tswIn (off := 47) (tgt := 156) (pc := 109) hk (by rw [n32]; decide) (by rw [n32]; decide) (by rw [n32]; decide) (by decide) dX7_says_109 ?_
                            refine j_aload_n (pc := 156) hk 0 rfl ⟨_, rfl⟩ dX7_says_156 ?_
                            refine f_7_49 (pc := 157) hk (rfl) dX7_says_157 ?_
                            refine j_iconst (pc := 160) hk dX7_says_160 (v := 3) (by decide) ?_
                            refine j_iconst (pc := 161) hk dX7_says_161 (v := 0) (by decide) ?_
                            refine j_callVNv (pc := 162) hk [.int (3 : Int32), .int (0 : Int32)] [] rfl (fun l o hq9 => C3_setByNumber (3 : Int32) (0 : Int32) st16 l o hq9) (rcv_3 (rfl)) yv_X3_setByNumber ml_7_155 rfl (Nat.le_of_ble_eq_true rfl) (Nat.le_of_ble_eq_true rfl) (Nat.le_of_ble_eq_true rfl) dX7_says_162 (fun _ st33 => ?_)
                            refine j_aload_n (pc := 165) hk 0 rfl ⟨_, rfl⟩ dX7_says_165 ?_
                            refine f_7_56 (pc := 166) hk (rfl) dX7_says_166 ?_
                            refine j_aload_n (pc := 169) hk 0 rfl ⟨_, rfl⟩ dX7_says_169 ?_
                            refine f_7_49 (pc := 170) hk (rfl) dX7_says_170 ?_
                            refine j_callVNv (pc := 173) hk [fk_r g 38] [] rfl (fun l o hq9 => C6_speak 40 (rfl) st33 l o hq9) (rcv_6 (rfl)) yv_X6_speak ml_7_158 rfl (Nat.le_of_ble_eq_true rfl) (Nat.le_of_ble_eq_true rfl) (Nat.le_of_ble_eq_true rfl) dX7_says_173 (fun _ st34 => ?_)
                            refine j_aload_n (pc := 176) hk 0 rfl ⟨_, rfl⟩ dX7_says_176 ?_
                            refine f_7_56 (pc := 177) hk (rfl) dX7_says_177 ?_
                            refine f_7_162 (pc := 180) hk (rfl) dX7_says_180 (fun x35 => ?_)
                            exact j_iret (pc := 183) hk dX7_says_183
                          · have mn17 := lv_neT (a := 0) n17 (by decide)
                            have mn19 := lv_neT (a := 1) n19 (by decide)
                            have mn21 := lv_neT (a := 2) n21 (by decide)
                            have mn25 := lv_neT (a := 3) n25 (by decide)
                            have mn27 := lv_neT (a := 4) n27 (by decide)
                            have mn32 := lv_neT (a := 5) n32 (by decide)
                            refine j_tswOut (tgt := 215) (pc := 109) hk (by omega) (by decide) dX7_says_109 ?_
                            refine j_aload_n (pc := 215) hk 0 rfl ⟨_, rfl⟩ dX7_says_215 ?_
                            refine f_7_56 (pc := 216) hk (rfl) dX7_says_216 ?_
                            refine f_7_168 (pc := 219) hk (rfl) dX7_says_219 (fun x36 => ?_)
                            exact j_iret (pc := 222) hk dX7_says_222
            · exact j_sub hk [0] rfl (T7_says_86 hk st10)
          · exact j_sub hk [0] rfl (T7_says_86 hk st2)
      · exact j_sub hk [0] rfl (T7_says_18 hk st2)
  · exact j_sub hk [0] rfl (T7_says_18 hk st2)
theorem dX7_bird_0 : decode cX7_bird 0 = .ok (.iload_n 1, 1) := by decide +kernel
theorem dX7_bird_1 : decode cX7_bird 1 = .ok (.ifCond .lt 9, 3) := by decide +kernel
theorem dX7_bird_4 : decode cX7_bird 4 = .ok (.iload_n 1, 1) := by decide +kernel
theorem dX7_bird_5 : decode cX7_bird 5 = .ok (.bipush 7, 2) := by decide +kernel
theorem dX7_bird_7 : decode cX7_bird 7 = .ok (.if_icmp .lt 9, 3) := by decide +kernel
theorem dX7_bird_10 : decode cX7_bird 10 = .ok (.aload_n 0, 1) := by decide +kernel
theorem dX7_bird_11 : decode cX7_bird 11 = .ok (.iconst (-1), 1) := by decide +kernel
theorem dX7_bird_12 : decode cX7_bird 12 = .ok (.invokevirtual 79, 3) := by decide +kernel
theorem dX7_bird_15 : decode cX7_bird 15 = .ok (.ireturn, 1) := by decide +kernel
theorem dX7_bird_16 : decode cX7_bird 16 = .ok (.iload_n 2, 1) := by decide +kernel
theorem dX7_bird_17 : decode cX7_bird 17 = .ok (.ifCond .lt 19, 3) := by decide +kernel
theorem dX7_bird_20 : decode cX7_bird 20 = .ok (.iload_n 2, 1) := by decide +kernel
theorem dX7_bird_21 : decode cX7_bird 21 = .ok (.bipush 10, 2) := by decide +kernel
theorem dX7_bird_23 : decode cX7_bird 23 = .ok (.if_icmp .ge 13, 3) := by decide +kernel
theorem dX7_bird_26 : decode cX7_bird 26 = .ok (.iload_n 3, 1) := by decide +kernel
theorem dX7_bird_27 : decode cX7_bird 27 = .ok (.ifCond .lt 9, 3) := by decide +kernel
theorem dX7_bird_30 : decode cX7_bird 30 = .ok (.iload_n 3, 1) := by decide +kernel
theorem dX7_bird_31 : decode cX7_bird 31 = .ok (.bipush 20, 2) := by decide +kernel
theorem dX7_bird_33 : decode cX7_bird 33 = .ok (.if_icmp .lt 10, 3) := by decide +kernel
theorem dX7_bird_36 : decode cX7_bird 36 = .ok (.aload_n 0, 1) := by decide +kernel
theorem dX7_bird_37 : decode cX7_bird 37 = .ok (.bipush (-6), 2) := by decide +kernel
theorem dX7_bird_39 : decode cX7_bird 39 = .ok (.invokevirtual 79, 3) := by decide +kernel
theorem dX7_bird_42 : decode cX7_bird 42 = .ok (.ireturn, 1) := by decide +kernel
theorem dX7_bird_43 : decode cX7_bird 43 = .ok (.aload_n 0, 1) := by decide +kernel
theorem dX7_bird_44 : decode cX7_bird 44 = .ok (.getfield 18, 3) := by decide +kernel
theorem dX7_bird_47 : decode cX7_bird 47 = .ok (.getfield 171, 3) := by decide +kernel
theorem dX7_bird_50 : decode cX7_bird 50 = .ok (.bipush 7, 2) := by decide +kernel
theorem dX7_bird_52 : decode cX7_bird 52 = .ok (.if_icmp .lt 10, 3) := by decide +kernel
theorem dX7_bird_55 : decode cX7_bird 55 = .ok (.aload_n 0, 1) := by decide +kernel
theorem dX7_bird_56 : decode cX7_bird 56 = .ok (.bipush (-7), 2) := by decide +kernel
theorem dX7_bird_58 : decode cX7_bird 58 = .ok (.invokevirtual 79, 3) := by decide +kernel
theorem dX7_bird_61 : decode cX7_bird 61 = .ok (.ireturn, 1) := by decide +kernel
theorem dX7_bird_62 : decode cX7_bird 62 = .ok (.aload_n 0, 1) := by decide +kernel
theorem dX7_bird_63 : decode cX7_bird 63 = .ok (.getfield 18, 3) := by decide +kernel
theorem dX7_bird_66 : decode cX7_bird 66 = .ok (.iload_n 1, 1) := by decide +kernel
theorem dX7_bird_67 : decode cX7_bird 67 = .ok (.iload_n 2, 1) := by decide +kernel
theorem dX7_bird_68 : decode cX7_bird 68 = .ok (.iload_n 3, 1) := by decide +kernel
theorem dX7_bird_69 : decode cX7_bird 69 = .ok (.invokevirtual 174, 3) := by decide +kernel
theorem dX7_bird_72 : decode cX7_bird 72 = .ok (.aload_n 0, 1) := by decide +kernel
theorem dX7_bird_73 : decode cX7_bird 73 = .ok (.getfield 18, 3) := by decide +kernel
theorem dX7_bird_76 : decode cX7_bird 76 = .ok (.getfield 171, 3) := by decide +kernel
theorem dX7_bird_79 : decode cX7_bird 79 = .ok (.iconst 1, 1) := by decide +kernel
theorem dX7_bird_80 : decode cX7_bird 80 = .ok (.isub, 1) := by decide +kernel
theorem dX7_bird_81 : decode cX7_bird 81 = .ok (.ireturn, 1) := by decide +kernel
def B7_bird_10 (st : fkS) : Option (Int32 × fkS) :=
 fk_bind (F7_refuse (-1 : Int32) st) <| fun x6 st7 =>
 some (x6, st7)
set_option maxHeartbeats 1000000 in
set_option maxRecDepth 20000 in
theorem T7_bird_10 {g : fkG} {k : fkK} (hk : fk_ok wC g k RX7 cX7_bird 4 (some (.int)) 1 23) : ∀ (st : fkS), fk_J wC g fk_eI k 10 [(0, fk_r g 0)] [] st (B7_bird_10 st) := by
  intro st
  unfold B7_bird_10
  refine j_aload_n (pc := 10) hk 0 rfl ⟨_, rfl⟩ dX7_bird_10 ?_
  refine j_iconst (pc := 11) hk dX7_bird_11 (v := -1) (by decide) ?_
  refine j_callVi (pc := 12) hk [.int (-1 : Int32)] [] rfl (fun l o hq9 => C7_refuse (-1 : Int32) st l o hq9) (rcv_7 (rfl)) yv_X7_refuse ml_7_79 rfl (Nat.le_of_ble_eq_true rfl) (Nat.le_of_ble_eq_true rfl) (Nat.le_of_ble_eq_true rfl) dX7_bird_12 (fun x6 st7 => ?_)
  exact j_iret (pc := 15) hk dX7_bird_15
def B7_bird_36 (st : fkS) : Option (Int32 × fkS) :=
 fk_bind (F7_refuse (-6 : Int32) st) <| fun x8 st9 =>
 some (x8, st9)
set_option maxHeartbeats 1000000 in
set_option maxRecDepth 20000 in
theorem T7_bird_36 {g : fkG} {k : fkK} (hk : fk_ok wC g k RX7 cX7_bird 4 (some (.int)) 1 23) : ∀ (st : fkS), fk_J wC g fk_eI k 36 [(0, fk_r g 0)] [] st (B7_bird_36 st) := by
  intro st
  unfold B7_bird_36
  refine j_aload_n (pc := 36) hk 0 rfl ⟨_, rfl⟩ dX7_bird_36 ?_
  refine j_bipush (pc := 37) hk dX7_bird_37 (v := -6) (by decide) ?_
  refine j_callVi (pc := 39) hk [.int (-6 : Int32)] [] rfl (fun l o hq9 => C7_refuse (-6 : Int32) st l o hq9) (rcv_7 (rfl)) yv_X7_refuse ml_7_79 rfl (Nat.le_of_ble_eq_true rfl) (Nat.le_of_ble_eq_true rfl) (Nat.le_of_ble_eq_true rfl) dX7_bird_39 (fun x8 st9 => ?_)
  exact j_iret (pc := 42) hk dX7_bird_42
def F7_bird (p1 : Int32) (p2 : Int32) (p3 : Int32) (st : fkS) : Option (Int32 × fkS) :=
 if p1 < 0 then
 (B7_bird_10 st)
 else
 (if p1 < (7 : Int32) then
 (if p2 < 0 then
 (B7_bird_36 st)
 else
 (if (10 : Int32) ≤ p2 then
 (B7_bird_36 st)
 else
 (if p3 < 0 then
 (B7_bird_36 st)
 else
 (if p3 < (20 : Int32) then
 (fk_let (gI st 0 19) <| fun x1 =>
 if x1 < (7 : Int32) then
 (fk_bind (F0_add 19 p1 p2 p3 st) <| fun _ st2 =>
 fk_let (gI st2 0 19) <| fun x3 =>
 some ((x3 - (1 : Int32)), st2))
 else
 (fk_bind (F7_refuse (-7 : Int32) st) <| fun x4 st5 =>
 some (x4, st5)))
 else
 (B7_bird_36 st)))))
 else
 (B7_bird_10 st))
set_option maxHeartbeats 1000000 in
set_option maxRecDepth 20000 in
theorem C7_bird (p1 : Int32) (p2 : Int32) (p3 : Int32) (st : fkS) {g : fkG} (l : Launch) (o : Int32 × fkS) (hF : F7_bird p1 p2 p3 st = some o) : fk_C wC yX7_bird cX7_bird 4 (some (.int)) 1 23 l g [fk_r g 0, .int p1, .int p2, .int p3] st (fk_eI o.1) o.2 := by
  refine fk_begin rfl (Nat.le_of_ble_eq_true rfl) (fun k hk => ?_) o hF
  have hk : fk_ok wC g k RX7 cX7_bird 4 (some (.int)) 1 23 := hk
  show fk_J wC g fk_eI k 0 [(0, fk_r g 0), (1, .int p1), (2, .int p2), (3, .int p3)] [] st (F7_bird p1 p2 p3 st)
  unfold F7_bird
  refine j_iload_n (pc := 0) hk 1 rfl dX7_bird_0 ?_
  refine j_if_lt (tgt := 10) (pc := 1) hk (by decide) dX7_bird_1 (fun _ => ?_) (fun _ => ?_)
  · exact j_sub hk [0] rfl (T7_bird_10 hk st)
  · refine j_iload_n (pc := 4) hk 1 rfl dX7_bird_4 ?_
    refine j_bipush (pc := 5) hk dX7_bird_5 (v := 7) (by decide) ?_
    refine j_icmp_lt (tgt := 16) (pc := 7) hk (by decide) dX7_bird_7 (fun _ => ?_) (fun _ => ?_)
    · refine j_iload_n (pc := 16) hk 2 rfl dX7_bird_16 ?_
      refine j_if_lt (tgt := 36) (pc := 17) hk (by decide) dX7_bird_17 (fun _ => ?_) (fun _ => ?_)
      · exact j_sub hk [0] rfl (T7_bird_36 hk st)
      · refine j_iload_n (pc := 20) hk 2 rfl dX7_bird_20 ?_
        refine j_bipush (pc := 21) hk dX7_bird_21 (v := 10) (by decide) ?_
        refine j_icmp_ge (tgt := 36) (pc := 23) hk (by decide) dX7_bird_23 (fun _ => ?_) (fun _ => ?_)
        · exact j_sub hk [0] rfl (T7_bird_36 hk st)
        · refine j_iload_n (pc := 26) hk 3 rfl dX7_bird_26 ?_
          refine j_if_lt (tgt := 36) (pc := 27) hk (by decide) dX7_bird_27 (fun _ => ?_) (fun _ => ?_)
          · exact j_sub hk [0] rfl (T7_bird_36 hk st)
          · refine j_iload_n (pc := 30) hk 3 rfl dX7_bird_30 ?_
            refine j_bipush (pc := 31) hk dX7_bird_31 (v := 20) (by decide) ?_
            refine j_icmp_lt (tgt := 43) (pc := 33) hk (by decide) dX7_bird_33 (fun _ => ?_) (fun _ => ?_)
            · refine j_aload_n (pc := 43) hk 0 rfl ⟨_, rfl⟩ dX7_bird_43 ?_
              refine f_7_18 (pc := 44) hk (rfl) dX7_bird_44 ?_
              refine f_7_171 (pc := 47) hk (rfl) dX7_bird_47 (fun x1 => ?_)
              refine j_bipush (pc := 50) hk dX7_bird_50 (v := 7) (by decide) ?_
              refine j_icmp_lt (tgt := 62) (pc := 52) hk (by decide) dX7_bird_52 (fun _ => ?_) (fun _ => ?_)
              · refine j_aload_n (pc := 62) hk 0 rfl ⟨_, rfl⟩ dX7_bird_62 ?_
                refine f_7_18 (pc := 63) hk (rfl) dX7_bird_63 ?_
                refine j_iload_n (pc := 66) hk 1 rfl dX7_bird_66 ?_
                refine j_iload_n (pc := 67) hk 2 rfl dX7_bird_67 ?_
                refine j_iload_n (pc := 68) hk 3 rfl dX7_bird_68 ?_
                refine j_callVNv (pc := 69) hk [.int p1, .int p2, .int p3] [] rfl (fun l o hq9 => C0_add 19 (rfl) p1 p2 p3 st l o hq9) (rcv_0 (rfl)) yv_X0_add ml_7_174 rfl (Nat.le_of_ble_eq_true rfl) (Nat.le_of_ble_eq_true rfl) (Nat.le_of_ble_eq_true rfl) dX7_bird_69 (fun _ st2 => ?_)
                refine j_aload_n (pc := 72) hk 0 rfl ⟨_, rfl⟩ dX7_bird_72 ?_
                refine f_7_18 (pc := 73) hk (rfl) dX7_bird_73 ?_
                refine f_7_171 (pc := 76) hk (rfl) dX7_bird_76 (fun x3 => ?_)
                refine j_iconst (pc := 79) hk dX7_bird_79 (v := 1) (by decide) ?_
                refine j_isub (pc := 80) hk dX7_bird_80 ?_
                exact j_iret (pc := 81) hk dX7_bird_81
              · refine j_aload_n (pc := 55) hk 0 rfl ⟨_, rfl⟩ dX7_bird_55 ?_
                refine j_bipush (pc := 56) hk dX7_bird_56 (v := -7) (by decide) ?_
                refine j_callVi (pc := 58) hk [.int (-7 : Int32)] [] rfl (fun l o hq9 => C7_refuse (-7 : Int32) st l o hq9) (rcv_7 (rfl)) yv_X7_refuse ml_7_79 rfl (Nat.le_of_ble_eq_true rfl) (Nat.le_of_ble_eq_true rfl) (Nat.le_of_ble_eq_true rfl) dX7_bird_58 (fun x4 st5 => ?_)
                exact j_iret (pc := 61) hk dX7_bird_61
            · exact j_sub hk [0] rfl (T7_bird_36 hk st)
    · exact j_sub hk [0] rfl (T7_bird_10 hk st)
theorem dX7_ask_0 : decode cX7_ask 0 = .ok (.iload_n 1, 1) := by decide +kernel
theorem dX7_ask_1 : decode cX7_ask 1 = .ok (.ifCond .ne 32, 3) := by decide +kernel
theorem dX7_ask_4 : decode cX7_ask 4 = .ok (.iload_n 2, 1) := by decide +kernel
theorem dX7_ask_5 : decode cX7_ask 5 = .ok (.ifCond .lt 28, 3) := by decide +kernel
theorem dX7_ask_8 : decode cX7_ask 8 = .ok (.iload_n 2, 1) := by decide +kernel
theorem dX7_ask_9 : decode cX7_ask 9 = .ok (.bipush 10, 2) := by decide +kernel
theorem dX7_ask_11 : decode cX7_ask 11 = .ok (.if_icmp .ge 22, 3) := by decide +kernel
theorem dX7_ask_14 : decode cX7_ask 14 = .ok (.aload_n 0, 1) := by decide +kernel
theorem dX7_ask_15 : decode cX7_ask 15 = .ok (.getfield 18, 3) := by decide +kernel
theorem dX7_ask_18 : decode cX7_ask 18 = .ok (.getfield 178, 3) := by decide +kernel
theorem dX7_ask_21 : decode cX7_ask 21 = .ok (.istore_n 3, 1) := by decide +kernel
theorem dX7_ask_22 : decode cX7_ask 22 = .ok (.aload_n 0, 1) := by decide +kernel
theorem dX7_ask_23 : decode cX7_ask 23 = .ok (.getfield 18, 3) := by decide +kernel
theorem dX7_ask_26 : decode cX7_ask 26 = .ok (.iload_n 2, 1) := by decide +kernel
theorem dX7_ask_27 : decode cX7_ask 27 = .ok (.putfield 178, 3) := by decide +kernel
theorem dX7_ask_30 : decode cX7_ask 30 = .ok (.goto 79, 3) := by decide +kernel
theorem dX7_ask_33 : decode cX7_ask 33 = .ok (.iload_n 1, 1) := by decide +kernel
theorem dX7_ask_34 : decode cX7_ask 34 = .ok (.iconst 1, 1) := by decide +kernel
theorem dX7_ask_35 : decode cX7_ask 35 = .ok (.if_icmp .ne 32, 3) := by decide +kernel
theorem dX7_ask_38 : decode cX7_ask 38 = .ok (.iload_n 2, 1) := by decide +kernel
theorem dX7_ask_39 : decode cX7_ask 39 = .ok (.ifCond .lt 28, 3) := by decide +kernel
theorem dX7_ask_42 : decode cX7_ask 42 = .ok (.iload_n 2, 1) := by decide +kernel
theorem dX7_ask_43 : decode cX7_ask 43 = .ok (.bipush 8, 2) := by decide +kernel
theorem dX7_ask_45 : decode cX7_ask 45 = .ok (.if_icmp .ge 22, 3) := by decide +kernel
theorem dX7_ask_48 : decode cX7_ask 48 = .ok (.aload_n 0, 1) := by decide +kernel
theorem dX7_ask_49 : decode cX7_ask 49 = .ok (.getfield 18, 3) := by decide +kernel
theorem dX7_ask_52 : decode cX7_ask 52 = .ok (.getfield 181, 3) := by decide +kernel
theorem dX7_ask_55 : decode cX7_ask 55 = .ok (.istore_n 3, 1) := by decide +kernel
theorem dX7_ask_56 : decode cX7_ask 56 = .ok (.aload_n 0, 1) := by decide +kernel
theorem dX7_ask_57 : decode cX7_ask 57 = .ok (.getfield 18, 3) := by decide +kernel
theorem dX7_ask_60 : decode cX7_ask 60 = .ok (.iload_n 2, 1) := by decide +kernel
theorem dX7_ask_61 : decode cX7_ask 61 = .ok (.putfield 181, 3) := by decide +kernel
theorem dX7_ask_64 : decode cX7_ask 64 = .ok (.goto 45, 3) := by decide +kernel
theorem dX7_ask_67 : decode cX7_ask 67 = .ok (.iload_n 1, 1) := by decide +kernel
theorem dX7_ask_68 : decode cX7_ask 68 = .ok (.iconst 2, 1) := by decide +kernel
theorem dX7_ask_69 : decode cX7_ask 69 = .ok (.if_icmp .ne 33, 3) := by decide +kernel
theorem dX7_ask_72 : decode cX7_ask 72 = .ok (.iload_n 2, 1) := by decide +kernel
theorem dX7_ask_73 : decode cX7_ask 73 = .ok (.ifCond .lt 29, 3) := by decide +kernel
theorem dX7_ask_76 : decode cX7_ask 76 = .ok (.iload_n 2, 1) := by decide +kernel
theorem dX7_ask_77 : decode cX7_ask 77 = .ok (.sipush 256, 3) := by decide +kernel
theorem dX7_ask_80 : decode cX7_ask 80 = .ok (.if_icmp .ge 22, 3) := by decide +kernel
theorem dX7_ask_83 : decode cX7_ask 83 = .ok (.aload_n 0, 1) := by decide +kernel
theorem dX7_ask_84 : decode cX7_ask 84 = .ok (.getfield 18, 3) := by decide +kernel
theorem dX7_ask_87 : decode cX7_ask 87 = .ok (.getfield 184, 3) := by decide +kernel
theorem dX7_ask_90 : decode cX7_ask 90 = .ok (.istore_n 3, 1) := by decide +kernel
theorem dX7_ask_91 : decode cX7_ask 91 = .ok (.aload_n 0, 1) := by decide +kernel
theorem dX7_ask_92 : decode cX7_ask 92 = .ok (.getfield 18, 3) := by decide +kernel
theorem dX7_ask_95 : decode cX7_ask 95 = .ok (.iload_n 2, 1) := by decide +kernel
theorem dX7_ask_96 : decode cX7_ask 96 = .ok (.putfield 184, 3) := by decide +kernel
theorem dX7_ask_99 : decode cX7_ask 99 = .ok (.goto 10, 3) := by decide +kernel
theorem dX7_ask_102 : decode cX7_ask 102 = .ok (.aload_n 0, 1) := by decide +kernel
theorem dX7_ask_103 : decode cX7_ask 103 = .ok (.bipush (-6), 2) := by decide +kernel
theorem dX7_ask_105 : decode cX7_ask 105 = .ok (.invokevirtual 79, 3) := by decide +kernel
theorem dX7_ask_108 : decode cX7_ask 108 = .ok (.ireturn, 1) := by decide +kernel
theorem dX7_ask_109 : decode cX7_ask 109 = .ok (.iload_n 3, 1) := by decide +kernel
theorem dX7_ask_110 : decode cX7_ask 110 = .ok (.ireturn, 1) := by decide +kernel
def B7_ask_102 (st : fkS) : Option (Int32 × fkS) :=
 fk_bind (F7_refuse (-6 : Int32) st) <| fun x7 st8 =>
 some (x7, st8)
set_option maxHeartbeats 1000000 in
set_option maxRecDepth 20000 in
theorem T7_ask_102 {g : fkG} {k : fkK} (hk : fk_ok wC g k RX7 cX7_ask 4 (some (.int)) 1 22) : ∀ (st : fkS), fk_J wC g fk_eI k 102 [(0, fk_r g 0)] [] st (B7_ask_102 st) := by
  intro st
  unfold B7_ask_102
  refine j_aload_n (pc := 102) hk 0 rfl ⟨_, rfl⟩ dX7_ask_102 ?_
  refine j_bipush (pc := 103) hk dX7_ask_103 (v := -6) (by decide) ?_
  refine j_callVi (pc := 105) hk [.int (-6 : Int32)] [] rfl (fun l o hq9 => C7_refuse (-6 : Int32) st l o hq9) (rcv_7 (rfl)) yv_X7_refuse ml_7_79 rfl (Nat.le_of_ble_eq_true rfl) (Nat.le_of_ble_eq_true rfl) (Nat.le_of_ble_eq_true rfl) dX7_ask_105 (fun x7 st8 => ?_)
  exact j_iret (pc := 108) hk dX7_ask_108
def B7_ask_67 (v1 : Int32) (v2 : Int32) (st : fkS) : Option (Int32 × fkS) :=
 if v1 = (2 : Int32) then
 (if v2 < 0 then
 (B7_ask_102 st)
 else
 (if (256 : Int32) ≤ v2 then
 (B7_ask_102 st)
 else
 (fk_let (gI st 7 19) <| fun x5 =>
 fk_let (sI st 7 19 v2) <| fun st6 =>
 some (x5, st6))))
 else
 (B7_ask_102 st)
set_option maxHeartbeats 1000000 in
set_option maxRecDepth 20000 in
theorem T7_ask_67 {g : fkG} {k : fkK} (hk : fk_ok wC g k RX7 cX7_ask 4 (some (.int)) 1 22) : ∀ (v1 : Int32) (v2 : Int32) (st : fkS), fk_J wC g fk_eI k 67 [(0, fk_r g 0), (1, .int v1), (2, .int v2)] [] st (B7_ask_67 v1 v2 st) := by
  intro v1 v2 st
  unfold B7_ask_67
  refine j_iload_n (pc := 67) hk 1 rfl dX7_ask_67 ?_
  refine j_iconst (pc := 68) hk dX7_ask_68 (v := 2) (by decide) ?_
  refine j_icmp_ne (tgt := 102) (pc := 69) hk (by decide) dX7_ask_69 (fun _ => ?_) (fun _ => ?_)
  · refine j_iload_n (pc := 72) hk 2 rfl dX7_ask_72 ?_
    refine j_if_lt (tgt := 102) (pc := 73) hk (by decide) dX7_ask_73 (fun _ => ?_) (fun _ => ?_)
    · exact j_sub hk [0] rfl (T7_ask_102 hk st)
    · refine j_iload_n (pc := 76) hk 2 rfl dX7_ask_76 ?_
      refine j_sipush (pc := 77) hk dX7_ask_77 (v := 256) (by decide) ?_
      refine j_icmp_ge (tgt := 102) (pc := 80) hk (by decide) dX7_ask_80 (fun _ => ?_) (fun _ => ?_)
      · exact j_sub hk [0] rfl (T7_ask_102 hk st)
      · refine j_aload_n (pc := 83) hk 0 rfl ⟨_, rfl⟩ dX7_ask_83 ?_
        refine f_7_18 (pc := 84) hk (rfl) dX7_ask_84 ?_
        refine f_7_184 (pc := 87) hk (rfl) dX7_ask_87 (fun x5 => ?_)
        refine j_istore_n (lv' := ((3, .int x5) :: [(0, fk_r g 0), (1, .int v1), (2, .int v2)])) (pc := 90) hk rfl (by decide) rfl dX7_ask_90 ?_
        refine j_sub hk (lv' := [(0, fk_r g 0), (1, .int v1), (2, .int v2), (3, .int x5)]) [1, 2, 3, 0] rfl ?_
        refine j_aload_n (pc := 91) hk 0 rfl ⟨_, rfl⟩ dX7_ask_91 ?_
        refine f_7_18 (pc := 92) hk (rfl) dX7_ask_92 ?_
        refine j_iload_n (pc := 95) hk 2 rfl dX7_ask_95 ?_
        refine p_7_184 (pc := 96) hk (rfl) dX7_ask_96 (fun st6 => ?_)
        refine j_goto (tgt := 109) (pc := 99) hk (by decide) dX7_ask_99 ?_
        refine j_iload_n (pc := 109) hk 3 rfl dX7_ask_109 ?_
        exact j_iret (pc := 110) hk dX7_ask_110
  · exact j_sub hk [0] rfl (T7_ask_102 hk st)
def B7_ask_33 (v1 : Int32) (v2 : Int32) (st : fkS) : Option (Int32 × fkS) :=
 if v1 = (1 : Int32) then
 (if v2 < 0 then
 (B7_ask_67 v1 v2 st)
 else
 (if (8 : Int32) ≤ v2 then
 (B7_ask_67 v1 v2 st)
 else
 (fk_let (gI st 6 19) <| fun x3 =>
 fk_let (sI st 6 19 v2) <| fun st4 =>
 some (x3, st4))))
 else
 (B7_ask_67 v1 v2 st)
set_option maxHeartbeats 1000000 in
set_option maxRecDepth 20000 in
theorem T7_ask_33 {g : fkG} {k : fkK} (hk : fk_ok wC g k RX7 cX7_ask 4 (some (.int)) 1 22) : ∀ (v1 : Int32) (v2 : Int32) (st : fkS), fk_J wC g fk_eI k 33 [(0, fk_r g 0), (1, .int v1), (2, .int v2)] [] st (B7_ask_33 v1 v2 st) := by
  intro v1 v2 st
  unfold B7_ask_33
  refine j_iload_n (pc := 33) hk 1 rfl dX7_ask_33 ?_
  refine j_iconst (pc := 34) hk dX7_ask_34 (v := 1) (by decide) ?_
  refine j_icmp_ne (tgt := 67) (pc := 35) hk (by decide) dX7_ask_35 (fun _ => ?_) (fun _ => ?_)
  · refine j_iload_n (pc := 38) hk 2 rfl dX7_ask_38 ?_
    refine j_if_lt (tgt := 67) (pc := 39) hk (by decide) dX7_ask_39 (fun _ => ?_) (fun _ => ?_)
    · exact j_sub hk [0, 1, 2] rfl (T7_ask_67 hk v1 v2 st)
    · refine j_iload_n (pc := 42) hk 2 rfl dX7_ask_42 ?_
      refine j_bipush (pc := 43) hk dX7_ask_43 (v := 8) (by decide) ?_
      refine j_icmp_ge (tgt := 67) (pc := 45) hk (by decide) dX7_ask_45 (fun _ => ?_) (fun _ => ?_)
      · exact j_sub hk [0, 1, 2] rfl (T7_ask_67 hk v1 v2 st)
      · refine j_aload_n (pc := 48) hk 0 rfl ⟨_, rfl⟩ dX7_ask_48 ?_
        refine f_7_18 (pc := 49) hk (rfl) dX7_ask_49 ?_
        refine f_7_181 (pc := 52) hk (rfl) dX7_ask_52 (fun x3 => ?_)
        refine j_istore_n (lv' := ((3, .int x3) :: [(0, fk_r g 0), (1, .int v1), (2, .int v2)])) (pc := 55) hk rfl (by decide) rfl dX7_ask_55 ?_
        refine j_sub hk (lv' := [(0, fk_r g 0), (1, .int v1), (2, .int v2), (3, .int x3)]) [1, 2, 3, 0] rfl ?_
        refine j_aload_n (pc := 56) hk 0 rfl ⟨_, rfl⟩ dX7_ask_56 ?_
        refine f_7_18 (pc := 57) hk (rfl) dX7_ask_57 ?_
        refine j_iload_n (pc := 60) hk 2 rfl dX7_ask_60 ?_
        refine p_7_181 (pc := 61) hk (rfl) dX7_ask_61 (fun st4 => ?_)
        refine j_goto (tgt := 109) (pc := 64) hk (by decide) dX7_ask_64 ?_
        refine j_iload_n (pc := 109) hk 3 rfl dX7_ask_109 ?_
        exact j_iret (pc := 110) hk dX7_ask_110
  · exact j_sub hk [0, 1, 2] rfl (T7_ask_67 hk v1 v2 st)
def F7_ask (p1 : Int32) (p2 : Int32) (st : fkS) : Option (Int32 × fkS) :=
 if p1 = 0 then
 (if p2 < 0 then
 (B7_ask_33 p1 p2 st)
 else
 (if (10 : Int32) ≤ p2 then
 (B7_ask_33 p1 p2 st)
 else
 (fk_let (gI st 5 19) <| fun x1 =>
 fk_let (sI st 5 19 p2) <| fun st2 =>
 some (x1, st2))))
 else
 (B7_ask_33 p1 p2 st)
set_option maxHeartbeats 1000000 in
set_option maxRecDepth 20000 in
theorem C7_ask (p1 : Int32) (p2 : Int32) (st : fkS) {g : fkG} (l : Launch) (o : Int32 × fkS) (hF : F7_ask p1 p2 st = some o) : fk_C wC yX7_ask cX7_ask 4 (some (.int)) 1 22 l g [fk_r g 0, .int p1, .int p2] st (fk_eI o.1) o.2 := by
  refine fk_begin rfl (Nat.le_of_ble_eq_true rfl) (fun k hk => ?_) o hF
  have hk : fk_ok wC g k RX7 cX7_ask 4 (some (.int)) 1 22 := hk
  show fk_J wC g fk_eI k 0 [(0, fk_r g 0), (1, .int p1), (2, .int p2)] [] st (F7_ask p1 p2 st)
  unfold F7_ask
  refine j_iload_n (pc := 0) hk 1 rfl dX7_ask_0 ?_
  refine j_if_ne (tgt := 33) (pc := 1) hk (by decide) dX7_ask_1 (fun _ => ?_) (fun _ => ?_)
  · refine j_iload_n (pc := 4) hk 2 rfl dX7_ask_4 ?_
    refine j_if_lt (tgt := 33) (pc := 5) hk (by decide) dX7_ask_5 (fun _ => ?_) (fun _ => ?_)
    · exact j_sub hk [0, 1, 2] rfl (T7_ask_33 hk p1 p2 st)
    · refine j_iload_n (pc := 8) hk 2 rfl dX7_ask_8 ?_
      refine j_bipush (pc := 9) hk dX7_ask_9 (v := 10) (by decide) ?_
      refine j_icmp_ge (tgt := 33) (pc := 11) hk (by decide) dX7_ask_11 (fun _ => ?_) (fun _ => ?_)
      · exact j_sub hk [0, 1, 2] rfl (T7_ask_33 hk p1 p2 st)
      · refine j_aload_n (pc := 14) hk 0 rfl ⟨_, rfl⟩ dX7_ask_14 ?_
        refine f_7_18 (pc := 15) hk (rfl) dX7_ask_15 ?_
        refine f_7_178 (pc := 18) hk (rfl) dX7_ask_18 (fun x1 => ?_)
        refine j_istore_n (lv' := ((3, .int x1) :: [(0, fk_r g 0), (1, .int p1), (2, .int p2)])) (pc := 21) hk rfl (by decide) rfl dX7_ask_21 ?_
        refine j_sub hk (lv' := [(0, fk_r g 0), (1, .int p1), (2, .int p2), (3, .int x1)]) [1, 2, 3, 0] rfl ?_
        refine j_aload_n (pc := 22) hk 0 rfl ⟨_, rfl⟩ dX7_ask_22 ?_
        refine f_7_18 (pc := 23) hk (rfl) dX7_ask_23 ?_
        refine j_iload_n (pc := 26) hk 2 rfl dX7_ask_26 ?_
        refine p_7_178 (pc := 27) hk (rfl) dX7_ask_27 (fun st2 => ?_)
        refine j_goto (tgt := 109) (pc := 30) hk (by decide) dX7_ask_30 ?_
        refine j_iload_n (pc := 109) hk 3 rfl dX7_ask_109 ?_
        exact j_iret (pc := 110) hk dX7_ask_110
  · exact j_sub hk [0, 1, 2] rfl (T7_ask_33 hk p1 p2 st)
theorem dX7_table_0 : decode cX7_table 0 = .ok (.aload_n 0, 1) := by decide +kernel
theorem dX7_table_1 : decode cX7_table 1 = .ok (.getfield 18, 3) := by decide +kernel
theorem dX7_table_4 : decode cX7_table 4 = .ok (.iload_n 1, 1) := by decide +kernel
theorem dX7_table_5 : decode cX7_table 5 = .ok (.iload_n 2, 1) := by decide +kernel
theorem dX7_table_6 : decode cX7_table 6 = .ok (.invokevirtual 187, 3) := by decide +kernel
theorem dX7_table_9 : decode cX7_table 9 = .ok (.istore 4, 2) := by decide +kernel
theorem dX7_table_11 : decode cX7_table 11 = .ok (.iload 4, 2) := by decide +kernel
theorem dX7_table_13 : decode cX7_table 13 = .ok (.iconst (-1), 1) := by decide +kernel
theorem dX7_table_14 : decode cX7_table 14 = .ok (.if_icmp .eq 13, 3) := by decide +kernel
theorem dX7_table_17 : decode cX7_table 17 = .ok (.iload_n 3, 1) := by decide +kernel
theorem dX7_table_18 : decode cX7_table 18 = .ok (.ifCond .lt 9, 3) := by decide +kernel
theorem dX7_table_21 : decode cX7_table 21 = .ok (.iload_n 3, 1) := by decide +kernel
theorem dX7_table_22 : decode cX7_table 22 = .ok (.bipush 8, 2) := by decide +kernel
theorem dX7_table_24 : decode cX7_table 24 = .ok (.if_icmp .lt 10, 3) := by decide +kernel
theorem dX7_table_27 : decode cX7_table 27 = .ok (.aload_n 0, 1) := by decide +kernel
theorem dX7_table_28 : decode cX7_table 28 = .ok (.bipush (-6), 2) := by decide +kernel
theorem dX7_table_30 : decode cX7_table 30 = .ok (.invokevirtual 79, 3) := by decide +kernel
theorem dX7_table_33 : decode cX7_table 33 = .ok (.ireturn, 1) := by decide +kernel
theorem dX7_table_34 : decode cX7_table 34 = .ok (.aload_n 0, 1) := by decide +kernel
theorem dX7_table_35 : decode cX7_table 35 = .ok (.getfield 18, 3) := by decide +kernel
theorem dX7_table_38 : decode cX7_table 38 = .ok (.iload_n 1, 1) := by decide +kernel
theorem dX7_table_39 : decode cX7_table 39 = .ok (.iload_n 2, 1) := by decide +kernel
theorem dX7_table_40 : decode cX7_table 40 = .ok (.iload_n 3, 1) := by decide +kernel
theorem dX7_table_41 : decode cX7_table 41 = .ok (.invokevirtual 190, 3) := by decide +kernel
theorem dX7_table_44 : decode cX7_table 44 = .ok (.iload 4, 2) := by decide +kernel
theorem dX7_table_46 : decode cX7_table 46 = .ok (.ireturn, 1) := by decide +kernel
def B7_table_27 (st : fkS) : Option (Int32 × fkS) :=
 fk_bind (F7_refuse (-6 : Int32) st) <| fun x4 st5 =>
 some (x4, st5)
set_option maxHeartbeats 1000000 in
set_option maxRecDepth 20000 in
theorem T7_table_27 {g : fkG} {k : fkK} (hk : fk_ok wC g k RX7 cX7_table 5 (some (.int)) 2 45) : ∀ (st : fkS), fk_J wC g fk_eI k 27 [(0, fk_r g 0)] [] st (B7_table_27 st) := by
  intro st
  unfold B7_table_27
  refine j_aload_n (pc := 27) hk 0 rfl ⟨_, rfl⟩ dX7_table_27 ?_
  refine j_bipush (pc := 28) hk dX7_table_28 (v := -6) (by decide) ?_
  refine j_callVi (pc := 30) hk [.int (-6 : Int32)] [] rfl (fun l o hq9 => C7_refuse (-6 : Int32) st l o hq9) (rcv_7 (rfl)) yv_X7_refuse ml_7_79 rfl (Nat.le_of_ble_eq_true rfl) (Nat.le_of_ble_eq_true rfl) (Nat.le_of_ble_eq_true rfl) dX7_table_30 (fun x4 st5 => ?_)
  exact j_iret (pc := 33) hk dX7_table_33
def F7_table (p1 : Int32) (p2 : Int32) (p3 : Int32) (st : fkS) : Option (Int32 × fkS) :=
 fk_bind (F0_comingBy 19 p1 p2 st) <| fun x1 st2 =>
 if x1 = (-1 : Int32) then
 (B7_table_27 st2)
 else
 (if p3 < 0 then
 (B7_table_27 st2)
 else
 (if p3 < (8 : Int32) then
 (fk_bind (F0_setComing 19 p1 p2 p3 st2) <| fun _ st3 =>
 some (x1, st3))
 else
 (B7_table_27 st2)))
set_option maxHeartbeats 1000000 in
set_option maxRecDepth 20000 in
theorem C7_table (p1 : Int32) (p2 : Int32) (p3 : Int32) (st : fkS) {g : fkG} (l : Launch) (o : Int32 × fkS) (hF : F7_table p1 p2 p3 st = some o) : fk_C wC yX7_table cX7_table 5 (some (.int)) 2 45 l g [fk_r g 0, .int p1, .int p2, .int p3] st (fk_eI o.1) o.2 := by
  refine fk_begin rfl (Nat.le_of_ble_eq_true rfl) (fun k hk => ?_) o hF
  have hk : fk_ok wC g k RX7 cX7_table 5 (some (.int)) 2 45 := hk
  show fk_J wC g fk_eI k 0 [(0, fk_r g 0), (1, .int p1), (2, .int p2), (3, .int p3)] [] st (F7_table p1 p2 p3 st)
  unfold F7_table
  refine j_aload_n (pc := 0) hk 0 rfl ⟨_, rfl⟩ dX7_table_0 ?_
  refine f_7_18 (pc := 1) hk (rfl) dX7_table_1 ?_
  refine j_iload_n (pc := 4) hk 1 rfl dX7_table_4 ?_
  refine j_iload_n (pc := 5) hk 2 rfl dX7_table_5 ?_
  refine j_callVNi (pc := 6) hk [.int p1, .int p2] [] rfl (fun l o hq9 => C0_comingBy 19 (rfl) p1 p2 st l o hq9) (rcv_0 (rfl)) yv_X0_comingBy ml_7_187 rfl (Nat.le_of_ble_eq_true rfl) (Nat.le_of_ble_eq_true rfl) (Nat.le_of_ble_eq_true rfl) dX7_table_6 (fun x1 st2 => ?_)
  refine j_istore (lv' := ((4, .int x1) :: [(0, fk_r g 0), (1, .int p1), (2, .int p2), (3, .int p3)])) (pc := 9) hk (by decide) rfl dX7_table_9 ?_
  refine j_sub hk (lv' := [(0, fk_r g 0), (1, .int p1), (2, .int p2), (3, .int p3), (4, .int x1)]) [1, 2, 3, 4, 0] rfl ?_
  refine j_iload (pc := 11) hk 4 rfl dX7_table_11 ?_
  refine j_iconst (pc := 13) hk dX7_table_13 (v := -1) (by decide) ?_
  refine j_icmp_eq (tgt := 27) (pc := 14) hk (by decide) dX7_table_14 (fun _ => ?_) (fun _ => ?_)
  · exact j_sub hk [0] rfl (T7_table_27 hk st2)
  · refine j_iload_n (pc := 17) hk 3 rfl dX7_table_17 ?_
    refine j_if_lt (tgt := 27) (pc := 18) hk (by decide) dX7_table_18 (fun _ => ?_) (fun _ => ?_)
    · exact j_sub hk [0] rfl (T7_table_27 hk st2)
    · refine j_iload_n (pc := 21) hk 3 rfl dX7_table_21 ?_
      refine j_bipush (pc := 22) hk dX7_table_22 (v := 8) (by decide) ?_
      refine j_icmp_lt (tgt := 34) (pc := 24) hk (by decide) dX7_table_24 (fun _ => ?_) (fun _ => ?_)
      · refine j_aload_n (pc := 34) hk 0 rfl ⟨_, rfl⟩ dX7_table_34 ?_
        refine f_7_18 (pc := 35) hk (rfl) dX7_table_35 ?_
        refine j_iload_n (pc := 38) hk 1 rfl dX7_table_38 ?_
        refine j_iload_n (pc := 39) hk 2 rfl dX7_table_39 ?_
        refine j_iload_n (pc := 40) hk 3 rfl dX7_table_40 ?_
        refine j_callVNv (pc := 41) hk [.int p1, .int p2, .int p3] [] rfl (fun l o hq9 => C0_setComing 19 (rfl) p1 p2 p3 st2 l o hq9) (rcv_0 (rfl)) yv_X0_setComing ml_7_190 rfl (Nat.le_of_ble_eq_true rfl) (Nat.le_of_ble_eq_true rfl) (Nat.le_of_ble_eq_true rfl) dX7_table_41 (fun _ st3 => ?_)
        refine j_iload (pc := 44) hk 4 rfl dX7_table_44 ?_
        exact j_iret (pc := 46) hk dX7_table_46
      · exact j_sub hk [0] rfl (T7_table_27 hk st2)
theorem dX7_comes_0 : decode cX7_comes 0 = .ok (.aload_n 0, 1) := by decide +kernel
theorem dX7_comes_1 : decode cX7_comes 1 = .ok (.getfield 18, 3) := by decide +kernel
theorem dX7_comes_4 : decode cX7_comes 4 = .ok (.iload_n 1, 1) := by decide +kernel
theorem dX7_comes_5 : decode cX7_comes 5 = .ok (.iload_n 2, 1) := by decide +kernel
theorem dX7_comes_6 : decode cX7_comes 6 = .ok (.invokevirtual 187, 3) := by decide +kernel
theorem dX7_comes_9 : decode cX7_comes 9 = .ok (.istore_n 3, 1) := by decide +kernel
theorem dX7_comes_10 : decode cX7_comes 10 = .ok (.iload_n 3, 1) := by decide +kernel
theorem dX7_comes_11 : decode cX7_comes 11 = .ok (.iconst (-1), 1) := by decide +kernel
theorem dX7_comes_12 : decode cX7_comes 12 = .ok (.if_icmp .ne 12, 3) := by decide +kernel
theorem dX7_comes_15 : decode cX7_comes 15 = .ok (.aload_n 0, 1) := by decide +kernel
theorem dX7_comes_16 : decode cX7_comes 16 = .ok (.bipush (-5), 2) := by decide +kernel
theorem dX7_comes_18 : decode cX7_comes 18 = .ok (.invokevirtual 79, 3) := by decide +kernel
theorem dX7_comes_21 : decode cX7_comes 21 = .ok (.goto 4, 3) := by decide +kernel
theorem dX7_comes_24 : decode cX7_comes 24 = .ok (.iload_n 3, 1) := by decide +kernel
theorem dX7_comes_25 : decode cX7_comes 25 = .ok (.ireturn, 1) := by decide +kernel
def F7_comes (p1 : Int32) (p2 : Int32) (st : fkS) : Option (Int32 × fkS) :=
 fk_bind (F0_comingBy 19 p1 p2 st) <| fun x1 st2 =>
 if x1 = (-1 : Int32) then
 (fk_bind (F7_refuse (-5 : Int32) st2) <| fun x3 st4 =>
 some (x3, st4))
 else
 (some (x1, st2))
set_option maxHeartbeats 1000000 in
set_option maxRecDepth 20000 in
theorem C7_comes (p1 : Int32) (p2 : Int32) (st : fkS) {g : fkG} (l : Launch) (o : Int32 × fkS) (hF : F7_comes p1 p2 st = some o) : fk_C wC yX7_comes cX7_comes 4 (some (.int)) 1 22 l g [fk_r g 0, .int p1, .int p2] st (fk_eI o.1) o.2 := by
  refine fk_begin rfl (Nat.le_of_ble_eq_true rfl) (fun k hk => ?_) o hF
  have hk : fk_ok wC g k RX7 cX7_comes 4 (some (.int)) 1 22 := hk
  show fk_J wC g fk_eI k 0 [(0, fk_r g 0), (1, .int p1), (2, .int p2)] [] st (F7_comes p1 p2 st)
  unfold F7_comes
  refine j_aload_n (pc := 0) hk 0 rfl ⟨_, rfl⟩ dX7_comes_0 ?_
  refine f_7_18 (pc := 1) hk (rfl) dX7_comes_1 ?_
  refine j_iload_n (pc := 4) hk 1 rfl dX7_comes_4 ?_
  refine j_iload_n (pc := 5) hk 2 rfl dX7_comes_5 ?_
  refine j_callVNi (pc := 6) hk [.int p1, .int p2] [] rfl (fun l o hq9 => C0_comingBy 19 (rfl) p1 p2 st l o hq9) (rcv_0 (rfl)) yv_X0_comingBy ml_7_187 rfl (Nat.le_of_ble_eq_true rfl) (Nat.le_of_ble_eq_true rfl) (Nat.le_of_ble_eq_true rfl) dX7_comes_6 (fun x1 st2 => ?_)
  refine j_istore_n (lv' := ((3, .int x1) :: [(0, fk_r g 0), (1, .int p1), (2, .int p2)])) (pc := 9) hk rfl (by decide) rfl dX7_comes_9 ?_
  refine j_sub hk (lv' := [(0, fk_r g 0), (1, .int p1), (2, .int p2), (3, .int x1)]) [1, 2, 3, 0] rfl ?_
  refine j_iload_n (pc := 10) hk 3 rfl dX7_comes_10 ?_
  refine j_iconst (pc := 11) hk dX7_comes_11 (v := -1) (by decide) ?_
  refine j_icmp_ne (tgt := 24) (pc := 12) hk (by decide) dX7_comes_12 (fun _ => ?_) (fun _ => ?_)
  · refine j_aload_n (pc := 15) hk 0 rfl ⟨_, rfl⟩ dX7_comes_15 ?_
    refine j_bipush (pc := 16) hk dX7_comes_16 (v := -5) (by decide) ?_
    refine j_callVi (pc := 18) hk [.int (-5 : Int32)] [] rfl (fun l o hq9 => C7_refuse (-5 : Int32) st2 l o hq9) (rcv_7 (rfl)) yv_X7_refuse ml_7_79 rfl (Nat.le_of_ble_eq_true rfl) (Nat.le_of_ble_eq_true rfl) (Nat.le_of_ble_eq_true rfl) dX7_comes_18 (fun x3 st4 => ?_)
    refine j_goto (tgt := 25) (pc := 21) hk (by decide) dX7_comes_21 ?_
    exact j_iret (pc := 25) hk dX7_comes_25
  · refine j_iload_n (pc := 24) hk 3 rfl dX7_comes_24 ?_
    exact j_iret (pc := 25) hk dX7_comes_25
theorem dX7_birdOf_0 : decode cX7_birdOf 0 = .ok (.aload_n 0, 1) := by decide +kernel
theorem dX7_birdOf_1 : decode cX7_birdOf 1 = .ok (.getfield 18, 3) := by decide +kernel
theorem dX7_birdOf_4 : decode cX7_birdOf 4 = .ok (.iload_n 1, 1) := by decide +kernel
theorem dX7_birdOf_5 : decode cX7_birdOf 5 = .ok (.invokevirtual 126, 3) := by decide +kernel
theorem dX7_birdOf_8 : decode cX7_birdOf 8 = .ok (.ifCond .ne 12, 3) := by decide +kernel
theorem dX7_birdOf_11 : decode cX7_birdOf 11 = .ok (.iload_n 2, 1) := by decide +kernel
theorem dX7_birdOf_12 : decode cX7_birdOf 12 = .ok (.ifCond .lt 8, 3) := by decide +kernel
theorem dX7_birdOf_15 : decode cX7_birdOf 15 = .ok (.iload_n 2, 1) := by decide +kernel
theorem dX7_birdOf_16 : decode cX7_birdOf 16 = .ok (.iconst 2, 1) := by decide +kernel
theorem dX7_birdOf_17 : decode cX7_birdOf 17 = .ok (.if_icmp .le 10, 3) := by decide +kernel
theorem dX7_birdOf_20 : decode cX7_birdOf 20 = .ok (.aload_n 0, 1) := by decide +kernel
theorem dX7_birdOf_21 : decode cX7_birdOf 21 = .ok (.bipush (-5), 2) := by decide +kernel
theorem dX7_birdOf_23 : decode cX7_birdOf 23 = .ok (.invokevirtual 79, 3) := by decide +kernel
theorem dX7_birdOf_26 : decode cX7_birdOf 26 = .ok (.ireturn, 1) := by decide +kernel
theorem dX7_birdOf_27 : decode cX7_birdOf 27 = .ok (.iload_n 2, 1) := by decide +kernel
theorem dX7_birdOf_28 : decode cX7_birdOf 28 = .ok (.lookupswitch 48 #[(0, 28), (1, 38)], 28) := by decide +kernel
theorem dX7_birdOf_56 : decode cX7_birdOf 56 = .ok (.aload_n 0, 1) := by decide +kernel
theorem dX7_birdOf_57 : decode cX7_birdOf 57 = .ok (.getfield 18, 3) := by decide +kernel
theorem dX7_birdOf_60 : decode cX7_birdOf 60 = .ok (.getfield 142, 3) := by decide +kernel
theorem dX7_birdOf_63 : decode cX7_birdOf 63 = .ok (.iload_n 1, 1) := by decide +kernel
theorem dX7_birdOf_64 : decode cX7_birdOf 64 = .ok (.iaload, 1) := by decide +kernel
theorem dX7_birdOf_65 : decode cX7_birdOf 65 = .ok (.ireturn, 1) := by decide +kernel
theorem dX7_birdOf_66 : decode cX7_birdOf 66 = .ok (.aload_n 0, 1) := by decide +kernel
theorem dX7_birdOf_67 : decode cX7_birdOf 67 = .ok (.getfield 18, 3) := by decide +kernel
theorem dX7_birdOf_70 : decode cX7_birdOf 70 = .ok (.getfield 193, 3) := by decide +kernel
theorem dX7_birdOf_73 : decode cX7_birdOf 73 = .ok (.iload_n 1, 1) := by decide +kernel
theorem dX7_birdOf_74 : decode cX7_birdOf 74 = .ok (.iaload, 1) := by decide +kernel
theorem dX7_birdOf_75 : decode cX7_birdOf 75 = .ok (.ireturn, 1) := by decide +kernel
theorem dX7_birdOf_76 : decode cX7_birdOf 76 = .ok (.aload_n 0, 1) := by decide +kernel
theorem dX7_birdOf_77 : decode cX7_birdOf 77 = .ok (.getfield 18, 3) := by decide +kernel
theorem dX7_birdOf_80 : decode cX7_birdOf 80 = .ok (.getfield 196, 3) := by decide +kernel
theorem dX7_birdOf_83 : decode cX7_birdOf 83 = .ok (.iload_n 1, 1) := by decide +kernel
theorem dX7_birdOf_84 : decode cX7_birdOf 84 = .ok (.iaload, 1) := by decide +kernel
theorem dX7_birdOf_85 : decode cX7_birdOf 85 = .ok (.ireturn, 1) := by decide +kernel
def B7_birdOf_20 (st : fkS) : Option (Int32 × fkS) :=
 fk_bind (F7_refuse (-5 : Int32) st) <| fun x8 st9 =>
 some (x8, st9)
set_option maxHeartbeats 1000000 in
set_option maxRecDepth 20000 in
theorem T7_birdOf_20 {g : fkG} {k : fkK} (hk : fk_ok wC g k RX7 cX7_birdOf 3 (some (.int)) 1 22) : ∀ (st : fkS), fk_J wC g fk_eI k 20 [(0, fk_r g 0)] [] st (B7_birdOf_20 st) := by
  intro st
  unfold B7_birdOf_20
  refine j_aload_n (pc := 20) hk 0 rfl ⟨_, rfl⟩ dX7_birdOf_20 ?_
  refine j_bipush (pc := 21) hk dX7_birdOf_21 (v := -5) (by decide) ?_
  refine j_callVi (pc := 23) hk [.int (-5 : Int32)] [] rfl (fun l o hq9 => C7_refuse (-5 : Int32) st l o hq9) (rcv_7 (rfl)) yv_X7_refuse ml_7_79 rfl (Nat.le_of_ble_eq_true rfl) (Nat.le_of_ble_eq_true rfl) (Nat.le_of_ble_eq_true rfl) dX7_birdOf_23 (fun x8 st9 => ?_)
  exact j_iret (pc := 26) hk dX7_birdOf_26
def F7_birdOf (p1 : Int32) (p2 : Int32) (st : fkS) : Option (Int32 × fkS) :=
 fk_bind (F0_lacks 19 p1 st) <| fun x1 st2 =>
 if x1 = 0 then
 (if p2 < 0 then
 (B7_birdOf_20 st2)
 else
 (if p2 ≤ (2 : Int32) then
 (if p2 = (0 : Int32) then
 (fk_chk (fk_in p1 7) <| fk_let (gA st2 22 p1.toNatClampNeg) <| fun x4 =>
 some (x4, st2))
 else
 (if p2 = (1 : Int32) then
 (fk_chk (fk_in p1 7) <| fk_let (gA st2 25 p1.toNatClampNeg) <| fun x6 =>
 some (x6, st2))
 else
 (fk_chk (fk_in p1 7) <| fk_let (gA st2 28 p1.toNatClampNeg) <| fun x7 =>
 some (x7, st2))))
 else
 (B7_birdOf_20 st2)))
 else
 (B7_birdOf_20 st2)
set_option maxHeartbeats 1000000 in
set_option maxRecDepth 20000 in
theorem C7_birdOf (p1 : Int32) (p2 : Int32) (st : fkS) {g : fkG} (l : Launch) (o : Int32 × fkS) (hF : F7_birdOf p1 p2 st = some o) : fk_C wC yX7_birdOf cX7_birdOf 3 (some (.int)) 1 22 l g [fk_r g 0, .int p1, .int p2] st (fk_eI o.1) o.2 := by
  refine fk_begin rfl (Nat.le_of_ble_eq_true rfl) (fun k hk => ?_) o hF
  have hk : fk_ok wC g k RX7 cX7_birdOf 3 (some (.int)) 1 22 := hk
  show fk_J wC g fk_eI k 0 [(0, fk_r g 0), (1, .int p1), (2, .int p2)] [] st (F7_birdOf p1 p2 st)
  unfold F7_birdOf
  refine j_aload_n (pc := 0) hk 0 rfl ⟨_, rfl⟩ dX7_birdOf_0 ?_
  refine f_7_18 (pc := 1) hk (rfl) dX7_birdOf_1 ?_
  refine j_iload_n (pc := 4) hk 1 rfl dX7_birdOf_4 ?_
  refine j_callVNi (pc := 5) hk [.int p1] [] rfl (fun l o hq9 => C0_lacks 19 (rfl) p1 st l o hq9) (rcv_0 (rfl)) yv_X0_lacks ml_7_126 rfl (Nat.le_of_ble_eq_true rfl) (Nat.le_of_ble_eq_true rfl) (Nat.le_of_ble_eq_true rfl) dX7_birdOf_5 (fun x1 st2 => ?_)
  refine j_if_ne (tgt := 20) (pc := 8) hk (by decide) dX7_birdOf_8 (fun _ => ?_) (fun _ => ?_)
  · refine j_iload_n (pc := 11) hk 2 rfl dX7_birdOf_11 ?_
    refine j_if_lt (tgt := 20) (pc := 12) hk (by decide) dX7_birdOf_12 (fun _ => ?_) (fun _ => ?_)
    · exact j_sub hk [0] rfl (T7_birdOf_20 hk st2)
    · refine j_iload_n (pc := 15) hk 2 rfl dX7_birdOf_15 ?_
      refine j_iconst (pc := 16) hk dX7_birdOf_16 (v := 2) (by decide) ?_
      refine j_icmp_le (tgt := 27) (pc := 17) hk (by decide) dX7_birdOf_17 (fun _ => ?_) (fun _ => ?_)
      · refine j_iload_n (pc := 27) hk 2 rfl dX7_birdOf_27 ?_
        refine j_case (pc := 28) hk (fun n3 => ?_) (fun n3 => ?_)
        · refine j_lsw (off := 28) (tgt := 56) (pc := 28) hk (by decide) (by rw [n3]; decide) (by decide) dX7_birdOf_28 ?_
          refine j_aload_n (pc := 56) hk 0 rfl ⟨_, rfl⟩ dX7_birdOf_56 ?_
          refine f_7_18 (pc := 57) hk (rfl) dX7_birdOf_57 ?_
          refine f_7_142 (pc := 60) hk (rfl) dX7_birdOf_60 ?_
          refine j_iload_n (pc := 63) hk 1 rfl dX7_birdOf_63 ?_
          refine a_iload (pc := 64) hk (isI_0_1 (rfl)) dX7_birdOf_64 (fun x4 => ?_)
          exact j_iret (pc := 65) hk dX7_birdOf_65
        · refine j_case (pc := 28) hk (fun n5 => ?_) (fun n5 => ?_)
          · refine j_lsw (off := 38) (tgt := 66) (pc := 28) hk (by decide) (by rw [n5]; decide) (by decide) dX7_birdOf_28 ?_
            refine j_aload_n (pc := 66) hk 0 rfl ⟨_, rfl⟩ dX7_birdOf_66 ?_
            refine f_7_18 (pc := 67) hk (rfl) dX7_birdOf_67 ?_
            refine f_7_193 (pc := 70) hk (rfl) dX7_birdOf_70 ?_
            refine j_iload_n (pc := 73) hk 1 rfl dX7_birdOf_73 ?_
            refine a_iload (pc := 74) hk (isI_0_2 (rfl)) dX7_birdOf_74 (fun x6 => ?_)
            exact j_iret (pc := 75) hk dX7_birdOf_75
          · have mn3 := lv_neT (a := 0) n3 (by decide)
            have mn5 := lv_neT (a := 1) n5 (by decide)
            refine j_lsw (off := 48) (tgt := 76) (pc := 28) hk (by decide) (fk_lsw (by intro q hq; simp only [List.mem_cons, List.not_mem_nil, or_false] at hq; rcases hq with rfl | rfl <;> simpa using by assumption)) (by decide) dX7_birdOf_28 ?_
            refine j_aload_n (pc := 76) hk 0 rfl ⟨_, rfl⟩ dX7_birdOf_76 ?_
            refine f_7_18 (pc := 77) hk (rfl) dX7_birdOf_77 ?_
            refine f_7_196 (pc := 80) hk (rfl) dX7_birdOf_80 ?_
            refine j_iload_n (pc := 83) hk 1 rfl dX7_birdOf_83 ?_
            refine a_iload (pc := 84) hk (isI_0_3 (rfl)) dX7_birdOf_84 (fun x7 => ?_)
            exact j_iret (pc := 85) hk dX7_birdOf_85
      · exact j_sub hk [0] rfl (T7_birdOf_20 hk st2)
  · exact j_sub hk [0] rfl (T7_birdOf_20 hk st2)
theorem dX7_bakery_0 : decode cX7_bakery 0 = .ok (.aload_n 0, 1) := by decide +kernel
theorem dX7_bakery_1 : decode cX7_bakery 1 = .ok (.iload_n 1, 1) := by decide +kernel
theorem dX7_bakery_2 : decode cX7_bakery 2 = .ok (.invokevirtual 87, 3) := by decide +kernel
theorem dX7_bakery_5 : decode cX7_bakery 5 = .ok (.istore_n 2, 1) := by decide +kernel
theorem dX7_bakery_6 : decode cX7_bakery 6 = .ok (.iload_n 2, 1) := by decide +kernel
theorem dX7_bakery_7 : decode cX7_bakery 7 = .ok (.ifCond .eq 9, 3) := by decide +kernel
theorem dX7_bakery_10 : decode cX7_bakery 10 = .ok (.aload_n 0, 1) := by decide +kernel
theorem dX7_bakery_11 : decode cX7_bakery 11 = .ok (.iload_n 2, 1) := by decide +kernel
theorem dX7_bakery_12 : decode cX7_bakery 12 = .ok (.invokevirtual 79, 3) := by decide +kernel
theorem dX7_bakery_15 : decode cX7_bakery 15 = .ok (.ireturn, 1) := by decide +kernel
theorem dX7_bakery_16 : decode cX7_bakery 16 = .ok (.aload_n 0, 1) := by decide +kernel
theorem dX7_bakery_17 : decode cX7_bakery 17 = .ok (.getfield 22, 3) := by decide +kernel
theorem dX7_bakery_20 : decode cX7_bakery 20 = .ok (.aload_n 0, 1) := by decide +kernel
theorem dX7_bakery_21 : decode cX7_bakery 21 = .ok (.getfield 18, 3) := by decide +kernel
theorem dX7_bakery_24 : decode cX7_bakery 24 = .ok (.invokevirtual 199, 3) := by decide +kernel
theorem dX7_bakery_27 : decode cX7_bakery 27 = .ok (.aload_n 0, 1) := by decide +kernel
theorem dX7_bakery_28 : decode cX7_bakery 28 = .ok (.getfield 35, 3) := by decide +kernel
theorem dX7_bakery_31 : decode cX7_bakery 31 = .ok (.aload_n 0, 1) := by decide +kernel
theorem dX7_bakery_32 : decode cX7_bakery 32 = .ok (.getfield 11, 3) := by decide +kernel
theorem dX7_bakery_35 : decode cX7_bakery 35 = .ok (.iload_n 1, 1) := by decide +kernel
theorem dX7_bakery_36 : decode cX7_bakery 36 = .ok (.aaload, 1) := by decide +kernel
theorem dX7_bakery_37 : decode cX7_bakery 37 = .ok (.aload_n 0, 1) := by decide +kernel
theorem dX7_bakery_38 : decode cX7_bakery 38 = .ok (.getfield 22, 3) := by decide +kernel
theorem dX7_bakery_41 : decode cX7_bakery 41 = .ok (.invokevirtual 203, 3) := by decide +kernel
theorem dX7_bakery_44 : decode cX7_bakery 44 = .ok (.istore_n 3, 1) := by decide +kernel
theorem dX7_bakery_45 : decode cX7_bakery 45 = .ok (.aload_n 0, 1) := by decide +kernel
theorem dX7_bakery_46 : decode cX7_bakery 46 = .ok (.getfield 35, 3) := by decide +kernel
theorem dX7_bakery_49 : decode cX7_bakery 49 = .ok (.getfield 207, 3) := by decide +kernel
theorem dX7_bakery_52 : decode cX7_bakery 52 = .ok (.iconst (-1), 1) := by decide +kernel
theorem dX7_bakery_53 : decode cX7_bakery 53 = .ok (.if_icmp .eq 10, 3) := by decide +kernel
theorem dX7_bakery_56 : decode cX7_bakery 56 = .ok (.aload_n 0, 1) := by decide +kernel
theorem dX7_bakery_57 : decode cX7_bakery 57 = .ok (.bipush (-6), 2) := by decide +kernel
theorem dX7_bakery_59 : decode cX7_bakery 59 = .ok (.invokevirtual 79, 3) := by decide +kernel
theorem dX7_bakery_62 : decode cX7_bakery 62 = .ok (.ireturn, 1) := by decide +kernel
theorem dX7_bakery_63 : decode cX7_bakery 63 = .ok (.aload_n 0, 1) := by decide +kernel
theorem dX7_bakery_64 : decode cX7_bakery 64 = .ok (.getfield 18, 3) := by decide +kernel
theorem dX7_bakery_67 : decode cX7_bakery 67 = .ok (.aload_n 0, 1) := by decide +kernel
theorem dX7_bakery_68 : decode cX7_bakery 68 = .ok (.getfield 22, 3) := by decide +kernel
theorem dX7_bakery_71 : decode cX7_bakery 71 = .ok (.invokevirtual 199, 3) := by decide +kernel
theorem dX7_bakery_74 : decode cX7_bakery 74 = .ok (.iload_n 3, 1) := by decide +kernel
theorem dX7_bakery_75 : decode cX7_bakery 75 = .ok (.ireturn, 1) := by decide +kernel
def F7_bakery (p1 : Int32) (st : fkS) : Option (Int32 × fkS) :=
 fk_bind (F7_noRow p1 st) <| fun x1 st2 =>
 if x1 = 0 then
 (fk_bind (F0_become 20 19 st2) <| fun _ st3 =>
 fk_chk (fk_in p1 8) <|
 fk_bind (F4_read (3 + p1.toNatClampNeg) 20 st3) <| fun x5 st6 =>
 fk_let (gI st6 80 34) <| fun x7 =>
 if x7 = (-1 : Int32) then
 (fk_bind (F0_become 19 20 st6) <| fun _ st8 =>
 some (x5, st8))
 else
 (fk_bind (F7_refuse (-6 : Int32) st6) <| fun x9 st10 =>
 some (x9, st10)))
 else
 (fk_bind (F7_refuse x1 st2) <| fun x11 st12 =>
 some (x11, st12))
set_option maxHeartbeats 1000000 in
set_option maxRecDepth 20000 in
theorem C7_bakery (p1 : Int32) (st : fkS) {g : fkG} (l : Launch) (o : Int32 × fkS) (hF : F7_bakery p1 st = some o) : fk_C wC yX7_bakery cX7_bakery 4 (some (.int)) 9 372 l g [fk_r g 0, .int p1] st (fk_eI o.1) o.2 := by
  refine fk_begin rfl (Nat.le_of_ble_eq_true rfl) (fun k hk => ?_) o hF
  have hk : fk_ok wC g k RX7 cX7_bakery 4 (some (.int)) 9 372 := hk
  show fk_J wC g fk_eI k 0 [(0, fk_r g 0), (1, .int p1)] [] st (F7_bakery p1 st)
  unfold F7_bakery
  refine j_aload_n (pc := 0) hk 0 rfl ⟨_, rfl⟩ dX7_bakery_0 ?_
  refine j_iload_n (pc := 1) hk 1 rfl dX7_bakery_1 ?_
  refine j_callVi (pc := 2) hk [.int p1] [] rfl (fun l o hq9 => C7_noRow p1 st l o hq9) (rcv_7 (rfl)) yv_X7_noRow ml_7_87 rfl (Nat.le_of_ble_eq_true rfl) (Nat.le_of_ble_eq_true rfl) (Nat.le_of_ble_eq_true rfl) dX7_bakery_2 (fun x1 st2 => ?_)
  refine j_istore_n (lv' := ((2, .int x1) :: [(0, fk_r g 0), (1, .int p1)])) (pc := 5) hk rfl (by decide) rfl dX7_bakery_5 ?_
  refine j_sub hk (lv' := [(0, fk_r g 0), (1, .int p1), (2, .int x1)]) [1, 2, 0] rfl ?_
  refine j_iload_n (pc := 6) hk 2 rfl dX7_bakery_6 ?_
  refine j_if_eq (tgt := 16) (pc := 7) hk (by decide) dX7_bakery_7 (fun _ => ?_) (fun _ => ?_)
  · refine j_aload_n (pc := 16) hk 0 rfl ⟨_, rfl⟩ dX7_bakery_16 ?_
    refine f_7_22 (pc := 17) hk (rfl) dX7_bakery_17 ?_
    refine j_aload_n (pc := 20) hk 0 rfl ⟨_, rfl⟩ dX7_bakery_20 ?_
    refine f_7_18 (pc := 21) hk (rfl) dX7_bakery_21 ?_
    refine j_callVNv (pc := 24) hk [fk_r g 19] [] rfl (fun l o hq9 => C0_become 20 19 (rfl) (rfl) st2 l o hq9) (rcv_0 (rfl)) yv_X0_become ml_7_199 rfl (Nat.le_of_ble_eq_true rfl) (Nat.le_of_ble_eq_true rfl) (Nat.le_of_ble_eq_true rfl) dX7_bakery_24 (fun _ st3 => ?_)
    refine j_aload_n (pc := 27) hk 0 rfl ⟨_, rfl⟩ dX7_bakery_27 ?_
    refine f_7_35 (pc := 28) hk (rfl) dX7_bakery_28 ?_
    refine j_aload_n (pc := 31) hk 0 rfl ⟨_, rfl⟩ dX7_bakery_31 ?_
    refine f_7_11 (pc := 32) hk (rfl) dX7_bakery_32 ?_
    refine j_iload_n (pc := 35) hk 1 rfl dX7_bakery_35 ?_
    refine a_shelf (pc := 36) hk dX7_bakery_36 (fun hs4 => ?_)
    refine j_aload_n (pc := 37) hk 0 rfl ⟨_, rfl⟩ dX7_bakery_37 ?_
    refine f_7_22 (pc := 38) hk (rfl) dX7_bakery_38 ?_
    refine j_callVNi (pc := 41) hk [fk_r g (3 + p1.toNatClampNeg), fk_r g 20] [] rfl (fun l o hq9 => C4_read (3 + p1.toNatClampNeg) 20 (hs4) (rfl) st3 l o hq9) (rcv_4 (rfl)) yv_X4_read ml_7_203 rfl (Nat.le_of_ble_eq_true rfl) (Nat.le_of_ble_eq_true rfl) (Nat.le_of_ble_eq_true rfl) dX7_bakery_41 (fun x5 st6 => ?_)
    refine j_istore_n (lv' := ((3, .int x5) :: [(0, fk_r g 0), (1, .int p1), (2, .int x1)])) (pc := 44) hk rfl (by decide) rfl dX7_bakery_44 ?_
    refine j_sub hk (lv' := [(0, fk_r g 0), (1, .int p1), (2, .int x1), (3, .int x5)]) [1, 2, 3, 0] rfl ?_
    refine j_aload_n (pc := 45) hk 0 rfl ⟨_, rfl⟩ dX7_bakery_45 ?_
    refine f_7_35 (pc := 46) hk (rfl) dX7_bakery_46 ?_
    refine f_7_207 (pc := 49) hk (rfl) dX7_bakery_49 (fun x7 => ?_)
    refine j_iconst (pc := 52) hk dX7_bakery_52 (v := -1) (by decide) ?_
    refine j_icmp_eq (tgt := 63) (pc := 53) hk (by decide) dX7_bakery_53 (fun _ => ?_) (fun _ => ?_)
    · refine j_aload_n (pc := 63) hk 0 rfl ⟨_, rfl⟩ dX7_bakery_63 ?_
      refine f_7_18 (pc := 64) hk (rfl) dX7_bakery_64 ?_
      refine j_aload_n (pc := 67) hk 0 rfl ⟨_, rfl⟩ dX7_bakery_67 ?_
      refine f_7_22 (pc := 68) hk (rfl) dX7_bakery_68 ?_
      refine j_callVNv (pc := 71) hk [fk_r g 20] [] rfl (fun l o hq9 => C0_become 19 20 (rfl) (rfl) st6 l o hq9) (rcv_0 (rfl)) yv_X0_become ml_7_199 rfl (Nat.le_of_ble_eq_true rfl) (Nat.le_of_ble_eq_true rfl) (Nat.le_of_ble_eq_true rfl) dX7_bakery_71 (fun _ st8 => ?_)
      refine j_iload_n (pc := 74) hk 3 rfl dX7_bakery_74 ?_
      exact j_iret (pc := 75) hk dX7_bakery_75
    · refine j_aload_n (pc := 56) hk 0 rfl ⟨_, rfl⟩ dX7_bakery_56 ?_
      refine j_bipush (pc := 57) hk dX7_bakery_57 (v := -6) (by decide) ?_
      refine j_callVi (pc := 59) hk [.int (-6 : Int32)] [] rfl (fun l o hq9 => C7_refuse (-6 : Int32) st6 l o hq9) (rcv_7 (rfl)) yv_X7_refuse ml_7_79 rfl (Nat.le_of_ble_eq_true rfl) (Nat.le_of_ble_eq_true rfl) (Nat.le_of_ble_eq_true rfl) dX7_bakery_59 (fun x9 st10 => ?_)
      exact j_iret (pc := 62) hk dX7_bakery_62
  · refine j_aload_n (pc := 10) hk 0 rfl ⟨_, rfl⟩ dX7_bakery_10 ?_
    refine j_iload_n (pc := 11) hk 2 rfl dX7_bakery_11 ?_
    refine j_callVi (pc := 12) hk [.int x1] [] rfl (fun l o hq9 => C7_refuse x1 st2 l o hq9) (rcv_7 (rfl)) yv_X7_refuse ml_7_79 rfl (Nat.le_of_ble_eq_true rfl) (Nat.le_of_ble_eq_true rfl) (Nat.le_of_ble_eq_true rfl) dX7_bakery_12 (fun x11 st12 => ?_)
    exact j_iret (pc := 15) hk dX7_bakery_15
theorem dX7_fault_0 : decode cX7_fault 0 = .ok (.aload_n 0, 1) := by decide +kernel
theorem dX7_fault_1 : decode cX7_fault 1 = .ok (.getfield 35, 3) := by decide +kernel
theorem dX7_fault_4 : decode cX7_fault 4 = .ok (.getfield 207, 3) := by decide +kernel
theorem dX7_fault_7 : decode cX7_fault 7 = .ok (.ireturn, 1) := by decide +kernel
def F7_fault (st : fkS) : Option (Int32 × fkS) :=
 fk_let (gI st 80 34) <| fun x1 =>
 some (x1, st)
set_option maxHeartbeats 1000000 in
set_option maxRecDepth 20000 in
theorem C7_fault (st : fkS) {g : fkG} (l : Launch) (o : Int32 × fkS) (hF : F7_fault st = some o) : fk_C wC yX7_fault cX7_fault 1 (some (.int)) 0 0 l g [fk_r g 0] st (fk_eI o.1) o.2 := by
  refine fk_begin rfl (Nat.le_of_ble_eq_true rfl) (fun k hk => ?_) o hF
  have hk : fk_ok wC g k RX7 cX7_fault 1 (some (.int)) 0 0 := hk
  show fk_J wC g fk_eI k 0 [(0, fk_r g 0)] [] st (F7_fault st)
  unfold F7_fault
  refine j_aload_n (pc := 0) hk 0 rfl ⟨_, rfl⟩ dX7_fault_0 ?_
  refine f_7_35 (pc := 1) hk (rfl) dX7_fault_1 ?_
  refine f_7_207 (pc := 4) hk (rfl) dX7_fault_4 (fun x1 => ?_)
  exact j_iret (pc := 7) hk dX7_fault_7
theorem dX7_noPieOfWhat_0 : decode cX7_noPieOfWhat 0 = .ok (.aload_n 0, 1) := by decide +kernel
theorem dX7_noPieOfWhat_1 : decode cX7_noPieOfWhat 1 = .ok (.iload_n 1, 1) := by decide +kernel
theorem dX7_noPieOfWhat_2 : decode cX7_noPieOfWhat 2 = .ok (.invokevirtual 75, 3) := by decide +kernel
theorem dX7_noPieOfWhat_5 : decode cX7_noPieOfWhat 5 = .ok (.ifCond .ne 14, 3) := by decide +kernel
theorem dX7_noPieOfWhat_8 : decode cX7_noPieOfWhat 8 = .ok (.aload_n 0, 1) := by decide +kernel
theorem dX7_noPieOfWhat_9 : decode cX7_noPieOfWhat 9 = .ok (.getfield 18, 3) := by decide +kernel
theorem dX7_noPieOfWhat_12 : decode cX7_noPieOfWhat 12 = .ok (.iload_n 2, 1) := by decide +kernel
theorem dX7_noPieOfWhat_13 : decode cX7_noPieOfWhat 13 = .ok (.invokevirtual 126, 3) := by decide +kernel
theorem dX7_noPieOfWhat_16 : decode cX7_noPieOfWhat 16 = .ok (.ifCond .eq 5, 3) := by decide +kernel
theorem dX7_noPieOfWhat_19 : decode cX7_noPieOfWhat 19 = .ok (.iconst (-1), 1) := by decide +kernel
theorem dX7_noPieOfWhat_20 : decode cX7_noPieOfWhat 20 = .ok (.ireturn, 1) := by decide +kernel
theorem dX7_noPieOfWhat_21 : decode cX7_noPieOfWhat 21 = .ok (.aload_n 0, 1) := by decide +kernel
theorem dX7_noPieOfWhat_22 : decode cX7_noPieOfWhat 22 = .ok (.iload_n 1, 1) := by decide +kernel
theorem dX7_noPieOfWhat_23 : decode cX7_noPieOfWhat 23 = .ok (.invokevirtual 87, 3) := by decide +kernel
theorem dX7_noPieOfWhat_26 : decode cX7_noPieOfWhat 26 = .ok (.istore 5, 2) := by decide +kernel
theorem dX7_noPieOfWhat_28 : decode cX7_noPieOfWhat 28 = .ok (.iload 5, 2) := by decide +kernel
theorem dX7_noPieOfWhat_30 : decode cX7_noPieOfWhat 30 = .ok (.ifCond .eq 6, 3) := by decide +kernel
theorem dX7_noPieOfWhat_33 : decode cX7_noPieOfWhat 33 = .ok (.iload 5, 2) := by decide +kernel
theorem dX7_noPieOfWhat_35 : decode cX7_noPieOfWhat 35 = .ok (.ireturn, 1) := by decide +kernel
theorem dX7_noPieOfWhat_36 : decode cX7_noPieOfWhat 36 = .ok (.iload_n 3, 1) := by decide +kernel
theorem dX7_noPieOfWhat_37 : decode cX7_noPieOfWhat 37 = .ok (.ifCond .lt 9, 3) := by decide +kernel
theorem dX7_noPieOfWhat_40 : decode cX7_noPieOfWhat 40 = .ok (.iload_n 3, 1) := by decide +kernel
theorem dX7_noPieOfWhat_41 : decode cX7_noPieOfWhat 41 = .ok (.iload 4, 2) := by decide +kernel
theorem dX7_noPieOfWhat_43 : decode cX7_noPieOfWhat 43 = .ok (.if_icmp .le 6, 3) := by decide +kernel
theorem dX7_noPieOfWhat_46 : decode cX7_noPieOfWhat 46 = .ok (.bipush (-5), 2) := by decide +kernel
theorem dX7_noPieOfWhat_48 : decode cX7_noPieOfWhat 48 = .ok (.ireturn, 1) := by decide +kernel
theorem dX7_noPieOfWhat_49 : decode cX7_noPieOfWhat 49 = .ok (.aload_n 0, 1) := by decide +kernel
theorem dX7_noPieOfWhat_50 : decode cX7_noPieOfWhat 50 = .ok (.getfield 49, 3) := by decide +kernel
theorem dX7_noPieOfWhat_53 : decode cX7_noPieOfWhat 53 = .ok (.aload_n 0, 1) := by decide +kernel
theorem dX7_noPieOfWhat_54 : decode cX7_noPieOfWhat 54 = .ok (.getfield 11, 3) := by decide +kernel
theorem dX7_noPieOfWhat_57 : decode cX7_noPieOfWhat 57 = .ok (.iload_n 1, 1) := by decide +kernel
theorem dX7_noPieOfWhat_58 : decode cX7_noPieOfWhat 58 = .ok (.aaload, 1) := by decide +kernel
theorem dX7_noPieOfWhat_59 : decode cX7_noPieOfWhat 59 = .ok (.iconst 0, 1) := by decide +kernel
theorem dX7_noPieOfWhat_60 : decode cX7_noPieOfWhat 60 = .ok (.invokevirtual 234, 3) := by decide +kernel
theorem dX7_noPieOfWhat_63 : decode cX7_noPieOfWhat 63 = .ok (.ifCond .eq 7, 3) := by decide +kernel
theorem dX7_noPieOfWhat_66 : decode cX7_noPieOfWhat 66 = .ok (.iconst 0, 1) := by decide +kernel
theorem dX7_noPieOfWhat_67 : decode cX7_noPieOfWhat 67 = .ok (.goto 5, 3) := by decide +kernel
theorem dX7_noPieOfWhat_70 : decode cX7_noPieOfWhat 70 = .ok (.bipush (-6), 2) := by decide +kernel
theorem dX7_noPieOfWhat_72 : decode cX7_noPieOfWhat 72 = .ok (.ireturn, 1) := by decide +kernel
def F7_noPieOfWhat (p1 : Int32) (p2 : Int32) (p3 : Int32) (p4 : Int32) (st : fkS) : Option (Int32 × fkS) :=
 fk_bind (F7_noShelf p1 st) <| fun x1 st2 =>
 if x1 = 0 then
 (fk_bind (F0_lacks 19 p2 st2) <| fun x3 st4 =>
 if x3 = 0 then
 (fk_bind (F7_noRow p1 st4) <| fun x5 st6 =>
 if x5 = 0 then
 (if p3 < 0 then
 (some ((-5 : Int32), st6))
 else
 (if p3 ≤ p4 then
 (fk_chk (fk_in p1 8) <|
 fk_bind (F3_take (3 + p1.toNatClampNeg) (0 : Int32) st6) <| fun x8 st9 =>
 if x8 = 0 then
 (some ((-6 : Int32), st9))
 else
 (some ((0 : Int32), st9)))
 else
 (some ((-5 : Int32), st6))))
 else
 (some (x5, st6)))
 else
 (some ((-1 : Int32), st4)))
 else
 (some ((-1 : Int32), st2))
set_option maxHeartbeats 1000000 in
set_option maxRecDepth 20000 in
theorem C7_noPieOfWhat (p1 : Int32) (p2 : Int32) (p3 : Int32) (p4 : Int32) (st : fkS) {g : fkG} (l : Launch) (o : Int32 × fkS) (hF : F7_noPieOfWhat p1 p2 p3 p4 st = some o) : fk_C wC yX7_noPieOfWhat cX7_noPieOfWhat 6 (some (.int)) 3 66 l g [fk_r g 0, .int p1, .int p2, .int p3, .int p4] st (fk_eI o.1) o.2 := by
  refine fk_begin rfl (Nat.le_of_ble_eq_true rfl) (fun k hk => ?_) o hF
  have hk : fk_ok wC g k RX7 cX7_noPieOfWhat 6 (some (.int)) 3 66 := hk
  show fk_J wC g fk_eI k 0 [(0, fk_r g 0), (1, .int p1), (2, .int p2), (3, .int p3), (4, .int p4)] [] st (F7_noPieOfWhat p1 p2 p3 p4 st)
  unfold F7_noPieOfWhat
  refine j_aload_n (pc := 0) hk 0 rfl ⟨_, rfl⟩ dX7_noPieOfWhat_0 ?_
  refine j_iload_n (pc := 1) hk 1 rfl dX7_noPieOfWhat_1 ?_
  refine j_callVi (pc := 2) hk [.int p1] [] rfl (fun l o hq9 => C7_noShelf p1 st l o hq9) (rcv_7 (rfl)) yv_X7_noShelf ml_7_75 rfl (Nat.le_of_ble_eq_true rfl) (Nat.le_of_ble_eq_true rfl) (Nat.le_of_ble_eq_true rfl) dX7_noPieOfWhat_2 (fun x1 st2 => ?_)
  refine j_if_ne (tgt := 19) (pc := 5) hk (by decide) dX7_noPieOfWhat_5 (fun _ => ?_) (fun _ => ?_)
  · refine j_aload_n (pc := 8) hk 0 rfl ⟨_, rfl⟩ dX7_noPieOfWhat_8 ?_
    refine f_7_18 (pc := 9) hk (rfl) dX7_noPieOfWhat_9 ?_
    refine j_iload_n (pc := 12) hk 2 rfl dX7_noPieOfWhat_12 ?_
    refine j_callVNi (pc := 13) hk [.int p2] [] rfl (fun l o hq9 => C0_lacks 19 (rfl) p2 st2 l o hq9) (rcv_0 (rfl)) yv_X0_lacks ml_7_126 rfl (Nat.le_of_ble_eq_true rfl) (Nat.le_of_ble_eq_true rfl) (Nat.le_of_ble_eq_true rfl) dX7_noPieOfWhat_13 (fun x3 st4 => ?_)
    refine j_if_eq (tgt := 21) (pc := 16) hk (by decide) dX7_noPieOfWhat_16 (fun _ => ?_) (fun _ => ?_)
    · refine j_aload_n (pc := 21) hk 0 rfl ⟨_, rfl⟩ dX7_noPieOfWhat_21 ?_
      refine j_iload_n (pc := 22) hk 1 rfl dX7_noPieOfWhat_22 ?_
      refine j_callVi (pc := 23) hk [.int p1] [] rfl (fun l o hq9 => C7_noRow p1 st4 l o hq9) (rcv_7 (rfl)) yv_X7_noRow ml_7_87 rfl (Nat.le_of_ble_eq_true rfl) (Nat.le_of_ble_eq_true rfl) (Nat.le_of_ble_eq_true rfl) dX7_noPieOfWhat_23 (fun x5 st6 => ?_)
      refine j_istore (lv' := ((5, .int x5) :: [(0, fk_r g 0), (1, .int p1), (2, .int p2), (3, .int p3), (4, .int p4)])) (pc := 26) hk (by decide) rfl dX7_noPieOfWhat_26 ?_
      refine j_sub hk (lv' := [(0, fk_r g 0), (1, .int p1), (2, .int p2), (3, .int p3), (4, .int p4), (5, .int x5)]) [1, 2, 3, 4, 5, 0] rfl ?_
      refine j_iload (pc := 28) hk 5 rfl dX7_noPieOfWhat_28 ?_
      refine j_if_eq (tgt := 36) (pc := 30) hk (by decide) dX7_noPieOfWhat_30 (fun _ => ?_) (fun _ => ?_)
      · refine j_iload_n (pc := 36) hk 3 rfl dX7_noPieOfWhat_36 ?_
        refine j_if_lt (tgt := 46) (pc := 37) hk (by decide) dX7_noPieOfWhat_37 (fun _ => ?_) (fun _ => ?_)
        · refine j_bipush (pc := 46) hk dX7_noPieOfWhat_46 (v := -5) (by decide) ?_
          exact j_iret (pc := 48) hk dX7_noPieOfWhat_48
        · refine j_iload_n (pc := 40) hk 3 rfl dX7_noPieOfWhat_40 ?_
          refine j_iload (pc := 41) hk 4 rfl dX7_noPieOfWhat_41 ?_
          refine j_icmp_le (tgt := 49) (pc := 43) hk (by decide) dX7_noPieOfWhat_43 (fun _ => ?_) (fun _ => ?_)
          · refine j_aload_n (pc := 49) hk 0 rfl ⟨_, rfl⟩ dX7_noPieOfWhat_49 ?_
            refine f_7_49 (pc := 50) hk (rfl) dX7_noPieOfWhat_50 ?_
            refine j_aload_n (pc := 53) hk 0 rfl ⟨_, rfl⟩ dX7_noPieOfWhat_53 ?_
            refine f_7_11 (pc := 54) hk (rfl) dX7_noPieOfWhat_54 ?_
            refine j_iload_n (pc := 57) hk 1 rfl dX7_noPieOfWhat_57 ?_
            refine a_shelf (pc := 58) hk dX7_noPieOfWhat_58 (fun hs7 => ?_)
            refine j_iconst (pc := 59) hk dX7_noPieOfWhat_59 (v := 0) (by decide) ?_
            refine j_callVNi (pc := 60) hk [fk_r g (3 + p1.toNatClampNeg), .int (0 : Int32)] [] rfl (fun l o hq9 => C3_take (3 + p1.toNatClampNeg) (hs7) (0 : Int32) st6 l o hq9) (rcv_3 (rfl)) yv_X3_take ml_7_234 rfl (Nat.le_of_ble_eq_true rfl) (Nat.le_of_ble_eq_true rfl) (Nat.le_of_ble_eq_true rfl) dX7_noPieOfWhat_60 (fun x8 st9 => ?_)
            refine j_if_eq (tgt := 70) (pc := 63) hk (by decide) dX7_noPieOfWhat_63 (fun _ => ?_) (fun _ => ?_)
            · refine j_bipush (pc := 70) hk dX7_noPieOfWhat_70 (v := -6) (by decide) ?_
              exact j_iret (pc := 72) hk dX7_noPieOfWhat_72
            · refine j_iconst (pc := 66) hk dX7_noPieOfWhat_66 (v := 0) (by decide) ?_
              refine j_goto (tgt := 72) (pc := 67) hk (by decide) dX7_noPieOfWhat_67 ?_
              exact j_iret (pc := 72) hk dX7_noPieOfWhat_72
          · refine j_bipush (pc := 46) hk dX7_noPieOfWhat_46 (v := -5) (by decide) ?_
            exact j_iret (pc := 48) hk dX7_noPieOfWhat_48
      · refine j_iload (pc := 33) hk 5 rfl dX7_noPieOfWhat_33 ?_
        exact j_iret (pc := 35) hk dX7_noPieOfWhat_35
    · refine j_iconst (pc := 19) hk dX7_noPieOfWhat_19 (v := -1) (by decide) ?_
      exact j_iret (pc := 20) hk dX7_noPieOfWhat_20
  · refine j_iconst (pc := 19) hk dX7_noPieOfWhat_19 (v := -1) (by decide) ?_
    exact j_iret (pc := 20) hk dX7_noPieOfWhat_20
theorem dX7_noPieOf_0 : decode cX7_noPieOf 0 = .ok (.aload_n 0, 1) := by decide +kernel
theorem dX7_noPieOf_1 : decode cX7_noPieOf 1 = .ok (.iload_n 1, 1) := by decide +kernel
theorem dX7_noPieOf_2 : decode cX7_noPieOf 2 = .ok (.iload_n 2, 1) := by decide +kernel
theorem dX7_noPieOf_3 : decode cX7_noPieOf 3 = .ok (.iconst 0, 1) := by decide +kernel
theorem dX7_noPieOf_4 : decode cX7_noPieOf 4 = .ok (.iconst 0, 1) := by decide +kernel
theorem dX7_noPieOf_5 : decode cX7_noPieOf 5 = .ok (.invokevirtual 213, 3) := by decide +kernel
theorem dX7_noPieOf_8 : decode cX7_noPieOf 8 = .ok (.ireturn, 1) := by decide +kernel
def F7_noPieOf (p1 : Int32) (p2 : Int32) (st : fkS) : Option (Int32 × fkS) :=
 fk_bind (F7_noPieOfWhat p1 p2 (0 : Int32) (0 : Int32) st) <| fun x1 st2 =>
 some (x1, st2)
set_option maxHeartbeats 1000000 in
set_option maxRecDepth 20000 in
theorem C7_noPieOf (p1 : Int32) (p2 : Int32) (st : fkS) {g : fkG} (l : Launch) (o : Int32 × fkS) (hF : F7_noPieOf p1 p2 st = some o) : fk_C wC yX7_noPieOf cX7_noPieOf 3 (some (.int)) 4 91 l g [fk_r g 0, .int p1, .int p2] st (fk_eI o.1) o.2 := by
  refine fk_begin rfl (Nat.le_of_ble_eq_true rfl) (fun k hk => ?_) o hF
  have hk : fk_ok wC g k RX7 cX7_noPieOf 3 (some (.int)) 4 91 := hk
  show fk_J wC g fk_eI k 0 [(0, fk_r g 0), (1, .int p1), (2, .int p2)] [] st (F7_noPieOf p1 p2 st)
  unfold F7_noPieOf
  refine j_aload_n (pc := 0) hk 0 rfl ⟨_, rfl⟩ dX7_noPieOf_0 ?_
  refine j_iload_n (pc := 1) hk 1 rfl dX7_noPieOf_1 ?_
  refine j_iload_n (pc := 2) hk 2 rfl dX7_noPieOf_2 ?_
  refine j_iconst (pc := 3) hk dX7_noPieOf_3 (v := 0) (by decide) ?_
  refine j_iconst (pc := 4) hk dX7_noPieOf_4 (v := 0) (by decide) ?_
  refine j_callVi (pc := 5) hk [.int p1, .int p2, .int (0 : Int32), .int (0 : Int32)] [] rfl (fun l o hq9 => C7_noPieOfWhat p1 p2 (0 : Int32) (0 : Int32) st l o hq9) (rcv_7 (rfl)) yv_X7_noPieOfWhat ml_7_213 rfl (Nat.le_of_ble_eq_true rfl) (Nat.le_of_ble_eq_true rfl) (Nat.le_of_ble_eq_true rfl) dX7_noPieOf_5 (fun x1 st2 => ?_)
  exact j_iret (pc := 8) hk dX7_noPieOf_8
