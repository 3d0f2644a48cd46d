theorem dX8_lays_0 : decode cX8_lays 0 = .ok (.aload_n 0, 1) := by decide +kernel
theorem dX8_lays_1 : decode cX8_lays 1 = .ok (.iload_n 1, 1) := by decide +kernel
theorem dX8_lays_2 : decode cX8_lays 2 = .ok (.putfield 112, 3) := by decide +kernel
theorem dX8_lays_5 : decode cX8_lays 5 = .ok (.iload_n 2, 1) := by decide +kernel
theorem dX8_lays_6 : decode cX8_lays 6 = .ok (.istore_n 3, 1) := by decide +kernel
theorem dX8_lays_7 : decode cX8_lays 7 = .ok (.iload_n 1, 1) := by decide +kernel
theorem dX8_lays_8 : decode cX8_lays 8 = .ok (.iconst 1, 1) := by decide +kernel
theorem dX8_lays_9 : decode cX8_lays 9 = .ok (.isub, 1) := by decide +kernel
theorem dX8_lays_10 : decode cX8_lays 10 = .ok (.istore 4, 2) := by decide +kernel
theorem dX8_lays_12 : decode cX8_lays 12 = .ok (.iload 4, 2) := by decide +kernel
theorem dX8_lays_14 : decode cX8_lays 14 = .ok (.ifCond .lt 25, 3) := by decide +kernel
theorem dX8_lays_17 : decode cX8_lays 17 = .ok (.aload_n 0, 1) := by decide +kernel
theorem dX8_lays_18 : decode cX8_lays 18 = .ok (.getfield 50, 3) := by decide +kernel
theorem dX8_lays_21 : decode cX8_lays 21 = .ok (.iload 4, 2) := by decide +kernel
theorem dX8_lays_23 : decode cX8_lays 23 = .ok (.iload_n 3, 1) := by decide +kernel
theorem dX8_lays_24 : decode cX8_lays 24 = .ok (.bipush 10, 2) := by decide +kernel
theorem dX8_lays_26 : decode cX8_lays 26 = .ok (.irem, 1) := by decide +kernel
theorem dX8_lays_27 : decode cX8_lays 27 = .ok (.iastore, 1) := by decide +kernel
theorem dX8_lays_28 : decode cX8_lays 28 = .ok (.iload_n 3, 1) := by decide +kernel
theorem dX8_lays_29 : decode cX8_lays 29 = .ok (.bipush 10, 2) := by decide +kernel
theorem dX8_lays_31 : decode cX8_lays 31 = .ok (.idiv, 1) := by decide +kernel
theorem dX8_lays_32 : decode cX8_lays 32 = .ok (.istore_n 3, 1) := by decide +kernel
theorem dX8_lays_33 : decode cX8_lays 33 = .ok (.iinc 4 (-1), 3) := by decide +kernel
theorem dX8_lays_36 : decode cX8_lays 36 = .ok (.goto (-24), 3) := by decide +kernel
theorem dX8_lays_39 : decode cX8_lays 39 = .ok (.return_, 1) := by decide +kernel
def B8_lays_12 (k12 : Int32 → Int32 → fkS → Option (Unit × fkS)) (v3 : Int32) (v4 : Int32) (st : fkS) : Option (Unit × fkS) :=
 if v4 < 0 then
 (some ((), st))
 else
 (fk_chk (fk_in v4 8) <| fk_let (sA st 14 v4.toNatClampNeg (fk_rem v3 (10 : Int32))) <| fun st2 =>
 k12 (v3 / (10 : Int32)) (v4 + (-1 : Int32)) st2)
set_option maxHeartbeats 1000000 in
set_option maxRecDepth 20000 in
theorem T8_lays_12 {g : fkG} {k : fkK} (hk : fk_ok wM g k RX8 cX8_lays 5 none 0 0) (k12 : Int32 → Int32 → fkS → Option (Unit × fkS)) (H12 : ∀ (v3 : Int32) (v4 : Int32) (st : fkS), fk_J wM g fk_eU k 12 [(0, fk_r g 0), (3, .int v3), (4, .int v4)] [] st (k12 v3 v4 st)) : ∀ (v3 : Int32) (v4 : Int32) (st : fkS), fk_J wM g fk_eU k 12 [(0, fk_r g 0), (3, .int v3), (4, .int v4)] [] st (B8_lays_12 k12 v3 v4 st) := by
  intro v3 v4 st
  unfold B8_lays_12
  refine j_iload (pc := 12) hk 2 rfl dX8_lays_12 ?_
  refine j_if_lt (tgt := 39) (pc := 14) hk (by decide) dX8_lays_14 (fun _ => ?_) (fun _ => ?_)
  · exact j_vret (pc := 39) hk dX8_lays_39
  · refine j_aload_n (pc := 17) hk 0 rfl ⟨_, rfl⟩ dX8_lays_17 ?_
    refine f_8_50 (pc := 18) hk (rfl) dX8_lays_18 ?_
    refine j_iload (pc := 21) hk 2 rfl dX8_lays_21 ?_
    refine j_iload_n (pc := 23) hk 1 rfl dX8_lays_23 ?_
    refine j_bipush (pc := 24) hk dX8_lays_24 (v := 10) (by decide) ?_
    refine j_irem (pc := 26) hk (show fk_nz (10 : Int32) = true from by decide) dX8_lays_26 ?_
    refine a_istore (pc := 27) hk (isI_8_23) dX8_lays_27 (fun st2 => ?_)
    refine j_iload_n (pc := 28) hk 1 rfl dX8_lays_28 ?_
    refine j_bipush (pc := 29) hk dX8_lays_29 (v := 10) (by decide) ?_
    refine j_idiv (pc := 31) hk (show fk_nz (10 : Int32) = true from by decide) dX8_lays_31 ?_
    refine j_istore_n (lv' := ((3, .int (v3 / (10 : Int32))) :: [(0, fk_r g 0), (4, .int v4)])) (pc := 32) hk rfl (by decide) rfl dX8_lays_32 ?_
    refine j_sub hk (lv' := [(0, fk_r g 0), (3, .int (v3 / (10 : Int32))), (4, .int v4)]) [1, 0, 2] rfl ?_
    refine j_iinc (dd := (-1 : Int32)) (lv' := ((4, .int (v4 + (-1 : Int32))) :: [(0, fk_r g 0), (3, .int (v3 / (10 : Int32)))])) (pc := 33) hk 2 rfl (by decide) (by decide) rfl dX8_lays_33 ?_
    refine j_sub hk (lv' := [(0, fk_r g 0), (3, .int (v3 / (10 : Int32))), (4, .int (v4 + (-1 : Int32)))]) [1, 2, 0] rfl ?_
    refine j_goto (tgt := 12) (pc := 36) hk (by decide) dX8_lays_36 ?_
    exact j_sub hk [0, 1, 2] rfl (H12 (v3 / (10 : Int32)) (v4 + (-1 : Int32)) st2)
set_option maxHeartbeats 1000000 in
set_option maxRecDepth 20000 in
theorem L8_lays_12 {g : fkG} {k : fkK} (hk : fk_ok wM g k RX8 cX8_lays 5 none 0 0) (fu : Nat) : ∀ (v3 : Int32) (v4 : Int32) (st : fkS), fk_J wM g fk_eU k 12 [(0, fk_r g 0), (3, .int v3), (4, .int v4)] [] st (fk_lp2 (B8_lays_12) fu v3 v4 st) := by
  induction fu with
  | zero =>
    intro v3 v4 st
    exact j_none hk
  | succ fu ih =>
    exact T8_lays_12 hk _ ih
def F8_lays (p1 : Int32) (p2 : Int32) (st : fkS) : Option (Unit × fkS) :=
 fk_let (sI st 22 0 p1) <| fun st1 =>
 fk_lp2 (B8_lays_12) fk_fuel p2 (p1 - (1 : Int32)) st1
set_option maxHeartbeats 1000000 in
set_option maxRecDepth 20000 in
theorem C8_lays (p1 : Int32) (p2 : Int32) (st : fkS) {g : fkG} (l : Launch) (o : Unit × fkS) (hF : F8_lays p1 p2 st = some o) : fk_C wM yX8_lays cX8_lays 5 none 0 0 l g [fk_r g 0, .int p1, .int p2] st (fk_eU o.1) o.2 := by
  refine fk_begin rfl (Nat.le_of_ble_eq_true rfl) (fun k hk => ?_) o hF
  have hk : fk_ok wM g k RX8 cX8_lays 5 none 0 0 := hk
  show fk_J wM g fk_eU k 0 [(0, fk_r g 0), (1, .int p1), (2, .int p2)] [] st (F8_lays p1 p2 st)
  unfold F8_lays
  refine j_aload_n (pc := 0) hk 0 rfl ⟨_, rfl⟩ dX8_lays_0 ?_
  refine j_iload_n (pc := 1) hk 1 rfl dX8_lays_1 ?_
  refine p_8_112 (pc := 2) hk (rfl) dX8_lays_2 (fun st1 => ?_)
  refine j_iload_n (pc := 5) hk 2 rfl dX8_lays_5 ?_
  refine j_istore_n (lv' := ((3, .int p2) :: [(0, fk_r g 0), (1, .int p1), (2, .int p2)])) (pc := 6) hk rfl (by decide) rfl dX8_lays_6 ?_
  refine j_sub hk (lv' := [(0, fk_r g 0), (1, .int p1), (2, .int p2), (3, .int p2)]) [1, 2, 3, 0] rfl ?_
  refine j_iload_n (pc := 7) hk 1 rfl dX8_lays_7 ?_
  refine j_iconst (pc := 8) hk dX8_lays_8 (v := 1) (by decide) ?_
  refine j_isub (pc := 9) hk dX8_lays_9 ?_
  refine j_istore (lv' := ((4, .int (p1 - (1 : Int32))) :: [(0, fk_r g 0), (1, .int p1), (2, .int p2), (3, .int p2)])) (pc := 10) hk (by decide) rfl dX8_lays_10 ?_
  refine j_sub hk (lv' := [(0, fk_r g 0), (1, .int p1), (2, .int p2), (3, .int p2), (4, .int (p1 - (1 : Int32)))]) [1, 2, 3, 4, 0] rfl ?_
  exact j_sub hk [0, 3, 4] rfl (L8_lays_12 hk fk_fuel p2 (p1 - (1 : Int32)) st1)
theorem dX8_soonest_0 : decode cX8_soonest 0 = .ok (.aload_n 0, 1) := by decide +kernel
theorem dX8_soonest_1 : decode cX8_soonest 1 = .ok (.iload_n 1, 1) := by decide +kernel
theorem dX8_soonest_2 : decode cX8_soonest 2 = .ok (.invokevirtual 99, 3) := by decide +kernel
theorem dX8_soonest_5 : decode cX8_soonest 5 = .ok (.ifCond .ne 9, 3) := by decide +kernel
theorem dX8_soonest_8 : decode cX8_soonest 8 = .ok (.aload_n 0, 1) := by decide +kernel
theorem dX8_soonest_9 : decode cX8_soonest 9 = .ok (.iconst (-1), 1) := by decide +kernel
theorem dX8_soonest_10 : decode cX8_soonest 10 = .ok (.invokevirtual 105, 3) := by decide +kernel
theorem dX8_soonest_13 : decode cX8_soonest 13 = .ok (.ireturn, 1) := by decide +kernel
theorem dX8_soonest_14 : decode cX8_soonest 14 = .ok (.iload_n 2, 1) := by decide +kernel
theorem dX8_soonest_15 : decode cX8_soonest 15 = .ok (.invokestatic 126, 3) := by decide +kernel
theorem dX8_soonest_18 : decode cX8_soonest 18 = .ok (.ifCond .ne 10, 3) := by decide +kernel
theorem dX8_soonest_21 : decode cX8_soonest 21 = .ok (.aload_n 0, 1) := by decide +kernel
theorem dX8_soonest_22 : decode cX8_soonest 22 = .ok (.bipush (-6), 2) := by decide +kernel
theorem dX8_soonest_24 : decode cX8_soonest 24 = .ok (.invokevirtual 105, 3) := by decide +kernel
theorem dX8_soonest_27 : decode cX8_soonest 27 = .ok (.ireturn, 1) := by decide +kernel
theorem dX8_soonest_28 : decode cX8_soonest 28 = .ok (.iconst 0, 1) := by decide +kernel
theorem dX8_soonest_29 : decode cX8_soonest 29 = .ok (.istore 4, 2) := by decide +kernel
theorem dX8_soonest_31 : decode cX8_soonest 31 = .ok (.iload 4, 2) := by decide +kernel
theorem dX8_soonest_33 : decode cX8_soonest 33 = .ok (.iconst 4, 1) := by decide +kernel
theorem dX8_soonest_34 : decode cX8_soonest 34 = .ok (.if_icmp .ge 94, 3) := by decide +kernel
theorem dX8_soonest_37 : decode cX8_soonest 37 = .ok (.iconst 0, 1) := by decide +kernel
theorem dX8_soonest_38 : decode cX8_soonest 38 = .ok (.istore 5, 2) := by decide +kernel
theorem dX8_soonest_40 : decode cX8_soonest 40 = .ok (.iload 5, 2) := by decide +kernel
theorem dX8_soonest_42 : decode cX8_soonest 42 = .ok (.iload 4, 2) := by decide +kernel
theorem dX8_soonest_44 : decode cX8_soonest 44 = .ok (.invokestatic 227, 3) := by decide +kernel
theorem dX8_soonest_47 : decode cX8_soonest 47 = .ok (.if_icmp .ge 75, 3) := by decide +kernel
theorem dX8_soonest_50 : decode cX8_soonest 50 = .ok (.aload_n 0, 1) := by decide +kernel
theorem dX8_soonest_51 : decode cX8_soonest 51 = .ok (.iload 4, 2) := by decide +kernel
theorem dX8_soonest_53 : decode cX8_soonest 53 = .ok (.iload 5, 2) := by decide +kernel
theorem dX8_soonest_55 : decode cX8_soonest 55 = .ok (.invokevirtual 230, 3) := by decide +kernel
theorem dX8_soonest_58 : decode cX8_soonest 58 = .ok (.aload_n 0, 1) := by decide +kernel
theorem dX8_soonest_59 : decode cX8_soonest 59 = .ok (.iload_n 1, 1) := by decide +kernel
theorem dX8_soonest_60 : decode cX8_soonest 60 = .ok (.aload_n 0, 1) := by decide +kernel
theorem dX8_soonest_61 : decode cX8_soonest 61 = .ok (.getfield 19, 3) := by decide +kernel
theorem dX8_soonest_64 : decode cX8_soonest 64 = .ok (.iconst 1, 1) := by decide +kernel
theorem dX8_soonest_65 : decode cX8_soonest 65 = .ok (.iaload, 1) := by decide +kernel
theorem dX8_soonest_66 : decode cX8_soonest 66 = .ok (.invokevirtual 224, 3) := by decide +kernel
theorem dX8_soonest_69 : decode cX8_soonest 69 = .ok (.aload_n 0, 1) := by decide +kernel
theorem dX8_soonest_70 : decode cX8_soonest 70 = .ok (.getfield 209, 3) := by decide +kernel
theorem dX8_soonest_73 : decode cX8_soonest 73 = .ok (.iload_n 2, 1) := by decide +kernel
theorem dX8_soonest_74 : decode cX8_soonest 74 = .ok (.if_icmp .eq 6, 3) := by decide +kernel
theorem dX8_soonest_77 : decode cX8_soonest 77 = .ok (.goto 39, 3) := by decide +kernel
theorem dX8_soonest_80 : decode cX8_soonest 80 = .ok (.iload_n 3, 1) := by decide +kernel
theorem dX8_soonest_81 : decode cX8_soonest 81 = .ok (.iconst (-1), 1) := by decide +kernel
theorem dX8_soonest_82 : decode cX8_soonest 82 = .ok (.if_icmp .ne 6, 3) := by decide +kernel
theorem dX8_soonest_85 : decode cX8_soonest 85 = .ok (.iload 4, 2) := by decide +kernel
theorem dX8_soonest_87 : decode cX8_soonest 87 = .ok (.ireturn, 1) := by decide +kernel
theorem dX8_soonest_88 : decode cX8_soonest 88 = .ok (.iload_n 3, 1) := by decide +kernel
theorem dX8_soonest_89 : decode cX8_soonest 89 = .ok (.iconst 0, 1) := by decide +kernel
theorem dX8_soonest_90 : decode cX8_soonest 90 = .ok (.iload 4, 2) := by decide +kernel
theorem dX8_soonest_92 : decode cX8_soonest 92 = .ok (.iconst 1, 1) := by decide +kernel
theorem dX8_soonest_93 : decode cX8_soonest 93 = .ok (.isub, 1) := by decide +kernel
theorem dX8_soonest_94 : decode cX8_soonest 94 = .ok (.invokestatic 88, 3) := by decide +kernel
theorem dX8_soonest_97 : decode cX8_soonest 97 = .ok (.ifCond .eq 12, 3) := by decide +kernel
theorem dX8_soonest_100 : decode cX8_soonest 100 = .ok (.aload_n 0, 1) := by decide +kernel
theorem dX8_soonest_101 : decode cX8_soonest 101 = .ok (.getfield 50, 3) := by decide +kernel
theorem dX8_soonest_104 : decode cX8_soonest 104 = .ok (.iload_n 3, 1) := by decide +kernel
theorem dX8_soonest_105 : decode cX8_soonest 105 = .ok (.iaload, 1) := by decide +kernel
theorem dX8_soonest_106 : decode cX8_soonest 106 = .ok (.goto 9, 3) := by decide +kernel
theorem dX8_soonest_109 : decode cX8_soonest 109 = .ok (.aload_n 0, 1) := by decide +kernel
theorem dX8_soonest_110 : decode cX8_soonest 110 = .ok (.bipush (-5), 2) := by decide +kernel
theorem dX8_soonest_112 : decode cX8_soonest 112 = .ok (.invokevirtual 105, 3) := by decide +kernel
theorem dX8_soonest_115 : decode cX8_soonest 115 = .ok (.ireturn, 1) := by decide +kernel
theorem dX8_soonest_116 : decode cX8_soonest 116 = .ok (.iinc 5 1, 3) := by decide +kernel
theorem dX8_soonest_119 : decode cX8_soonest 119 = .ok (.goto (-79), 3) := by decide +kernel
theorem dX8_soonest_122 : decode cX8_soonest 122 = .ok (.iinc 4 1, 3) := by decide +kernel
theorem dX8_soonest_125 : decode cX8_soonest 125 = .ok (.goto (-94), 3) := by decide +kernel
theorem dX8_soonest_128 : decode cX8_soonest 128 = .ok (.iload_n 3, 1) := by decide +kernel
theorem dX8_soonest_129 : decode cX8_soonest 129 = .ok (.iconst (-1), 1) := by decide +kernel
theorem dX8_soonest_130 : decode cX8_soonest 130 = .ok (.if_icmp .ne 7, 3) := by decide +kernel
theorem dX8_soonest_133 : decode cX8_soonest 133 = .ok (.iconst (-1), 1) := by decide +kernel
theorem dX8_soonest_134 : decode cX8_soonest 134 = .ok (.goto 9, 3) := by decide +kernel
theorem dX8_soonest_137 : decode cX8_soonest 137 = .ok (.aload_n 0, 1) := by decide +kernel
theorem dX8_soonest_138 : decode cX8_soonest 138 = .ok (.bipush (-5), 2) := by decide +kernel
theorem dX8_soonest_140 : decode cX8_soonest 140 = .ok (.invokevirtual 105, 3) := by decide +kernel
theorem dX8_soonest_143 : decode cX8_soonest 143 = .ok (.ireturn, 1) := by decide +kernel
def B8_soonest_40 (k31 : Int32 → Int32 → Int32 → Int32 → fkS → Option (Int32 × fkS)) (k40 : Int32 → Int32 → Int32 → Int32 → Int32 → fkS → Option (Int32 × fkS)) (v1 : Int32) (v2 : Int32) (v3 : Int32) (v4 : Int32) (v5 : Int32) (st : fkS) : Option (Int32 × fkS) :=
 fk_bind (F8_pow v4 st) <| fun x11 st12 =>
 if x11 ≤ v5 then
 (k31 v1 v2 v3 (v4 + (1 : Int32)) st12)
 else
 (fk_bind (F8_lays v4 v5 st12) <| fun _ st13 =>
 fk_chk (fk_in (1 : Int32) 3) <| fk_let (gA st13 4 (1 : Int32).toNatClampNeg) <| fun x14 =>
 fk_bind (F8_goes v1 x14 st13) <| fun _ st15 =>
 fk_let (gI st15 26 0) <| fun x16 =>
 if x16 = v2 then
 (if v3 = (-1 : Int32) then
 (some (v4, st15))
 else
 (fk_bind (F8_within v3 (0 : Int32) (v4 - (1 : Int32)) st15) <| fun x17 st18 =>
 if x17 = 0 then
 (fk_bind (F8_no10 (-5 : Int32) st18) <| fun x19 st20 =>
 some (x19, st20))
 else
 (fk_chk (fk_in v3 8) <| fk_let (gA st18 14 v3.toNatClampNeg) <| fun x21 =>
 some (x21, st18))))
 else
 (k40 v1 v2 v3 v4 (v5 + (1 : Int32)) st15))
set_option maxHeartbeats 1000000 in
set_option maxRecDepth 20000 in
theorem T8_soonest_40 {g : fkG} {k : fkK} (hk : fk_ok wM g k RX8 cX8_soonest 6 (some (.int)) 5 146) (k31 : Int32 → Int32 → Int32 → Int32 → fkS → Option (Int32 × fkS)) (H31 : ∀ (v1 : Int32) (v2 : Int32) (v3 : Int32) (v4 : Int32) (st : fkS), fk_J wM g fk_eI k 31 [(0, fk_r g 0), (1, .int v1), (2, .int v2), (3, .int v3), (4, .int v4)] [] st (k31 v1 v2 v3 v4 st)) (k40 : Int32 → Int32 → Int32 → Int32 → Int32 → fkS → Option (Int32 × fkS)) (H40 : ∀ (v1 : Int32) (v2 : Int32) (v3 : Int32) (v4 : Int32) (v5 : Int32) (st : fkS), fk_J wM g fk_eI k 40 [(0, fk_r g 0), (1, .int v1), (2, .int v2), (3, .int v3), (4, .int v4), (5, .int v5)] [] st (k40 v1 v2 v3 v4 v5 st)) : ∀ (v1 : Int32) (v2 : Int32) (v3 : Int32) (v4 : Int32) (v5 : Int32) (st : fkS), fk_J wM g fk_eI k 40 [(0, fk_r g 0), (1, .int v1), (2, .int v2), (3, .int v3), (4, .int v4), (5, .int v5)] [] st (B8_soonest_40 k31 k40 v1 v2 v3 v4 v5 st) := by
  intro v1 v2 v3 v4 v5 st
  unfold B8_soonest_40
  refine j_iload (pc := 40) hk 5 rfl dX8_soonest_40 ?_
  refine j_iload (pc := 42) hk 4 rfl dX8_soonest_42 ?_
  refine j_callSi (pc := 44) hk [.int v4] [.int v5] rfl (fun l o hq9 => C8_pow v4 st l o hq9) yv_X8_pow ml_8_227 rfl (Nat.le_of_ble_eq_true rfl) (Nat.le_of_ble_eq_true rfl) (Nat.le_of_ble_eq_true rfl) dX8_soonest_44 (fun x11 st12 => ?_)
  refine j_icmp_ge (tgt := 122) (pc := 47) hk (by decide) dX8_soonest_47 (fun _ => ?_) (fun _ => ?_)
  · refine j_iinc (dd := (1 : Int32)) (lv' := ((4, .int (v4 + (1 : Int32))) :: [(0, fk_r g 0), (1, .int v1), (2, .int v2), (3, .int v3), (5, .int v5)])) (pc := 122) hk 4 rfl (by decide) (by decide) rfl dX8_soonest_122 ?_
    refine j_sub hk (lv' := [(0, fk_r g 0), (1, .int v1), (2, .int v2), (3, .int v3), (4, .int (v4 + (1 : Int32))), (5, .int v5)]) [1, 2, 3, 4, 0, 5] rfl ?_
    refine j_goto (tgt := 31) (pc := 125) hk (by decide) dX8_soonest_125 ?_
    exact j_sub hk [0, 1, 2, 3, 4] rfl (H31 v1 v2 v3 (v4 + (1 : Int32)) st12)
  · refine j_aload_n (pc := 50) hk 0 rfl ⟨_, rfl⟩ dX8_soonest_50 ?_
    refine j_iload (pc := 51) hk 4 rfl dX8_soonest_51 ?_
    refine j_iload (pc := 53) hk 5 rfl dX8_soonest_53 ?_
    refine j_callVv (pc := 55) hk [.int v4, .int v5] [] rfl (fun l o hq9 => C8_lays v4 v5 st12 l o hq9) (rcv_8 (rfl)) yv_X8_lays ml_8_230 rfl (Nat.le_of_ble_eq_true rfl) (Nat.le_of_ble_eq_true rfl) (Nat.le_of_ble_eq_true rfl) dX8_soonest_55 (fun _ st13 => ?_)
    refine j_aload_n (pc := 58) hk 0 rfl ⟨_, rfl⟩ dX8_soonest_58 ?_
    refine j_iload_n (pc := 59) hk 1 rfl dX8_soonest_59 ?_
    refine j_aload_n (pc := 60) hk 0 rfl ⟨_, rfl⟩ dX8_soonest_60 ?_
    refine f_8_19 (pc := 61) hk (rfl) dX8_soonest_61 ?_
    refine j_iconst (pc := 64) hk dX8_soonest_64 (v := 1) (by decide) ?_
    refine a_iload (pc := 65) hk (isI_8_4) dX8_soonest_65 (fun x14 => ?_)
    refine j_callVv (pc := 66) hk [.int v1, .int x14] [] rfl (fun l o hq9 => C8_goes v1 x14 st13 l o hq9) (rcv_8 (rfl)) yv_X8_goes ml_8_224 rfl (Nat.le_of_ble_eq_true rfl) (Nat.le_of_ble_eq_true rfl) (Nat.le_of_ble_eq_true rfl) dX8_soonest_66 (fun _ st15 => ?_)
    refine j_aload_n (pc := 69) hk 0 rfl ⟨_, rfl⟩ dX8_soonest_69 ?_
    refine f_8_209 (pc := 70) hk (rfl) dX8_soonest_70 (fun x16 => ?_)
    refine j_iload_n (pc := 73) hk 2 rfl dX8_soonest_73 ?_
    refine j_icmp_eq (tgt := 80) (pc := 74) hk (by decide) dX8_soonest_74 (fun _ => ?_) (fun _ => ?_)
    · refine j_iload_n (pc := 80) hk 3 rfl dX8_soonest_80 ?_
      refine j_iconst (pc := 81) hk dX8_soonest_81 (v := -1) (by decide) ?_
      refine j_icmp_ne (tgt := 88) (pc := 82) hk (by decide) dX8_soonest_82 (fun _ => ?_) (fun _ => ?_)
      · refine j_iload (pc := 85) hk 4 rfl dX8_soonest_85 ?_
        exact j_iret (pc := 87) hk dX8_soonest_87
      · refine j_iload_n (pc := 88) hk 3 rfl dX8_soonest_88 ?_
        refine j_iconst (pc := 89) hk dX8_soonest_89 (v := 0) (by decide) ?_
        refine j_iload (pc := 90) hk 4 rfl dX8_soonest_90 ?_
        refine j_iconst (pc := 92) hk dX8_soonest_92 (v := 1) (by decide) ?_
        refine j_isub (pc := 93) hk dX8_soonest_93 ?_
        refine j_callSi (pc := 94) hk [.int v3, .int (0 : Int32), .int (v4 - (1 : Int32))] [] rfl (fun l o hq9 => C8_within v3 (0 : Int32) (v4 - (1 : Int32)) st15 l o hq9) yv_X8_within ml_8_88 rfl (Nat.le_of_ble_eq_true rfl) (Nat.le_of_ble_eq_true rfl) (Nat.le_of_ble_eq_true rfl) dX8_soonest_94 (fun x17 st18 => ?_)
        refine j_if_eq (tgt := 109) (pc := 97) hk (by decide) dX8_soonest_97 (fun _ => ?_) (fun _ => ?_)
        · refine j_aload_n (pc := 109) hk 0 rfl ⟨_, rfl⟩ dX8_soonest_109 ?_
          refine j_bipush (pc := 110) hk dX8_soonest_110 (v := -5) (by decide) ?_
          refine j_callVi (pc := 112) hk [.int (-5 : Int32)] [] rfl (fun l o hq9 => C8_no10 (-5 : Int32) st18 l o hq9) (rcv_8 (rfl)) yv_X8_no10 ml_8_105 rfl (Nat.le_of_ble_eq_true rfl) (Nat.le_of_ble_eq_true rfl) (Nat.le_of_ble_eq_true rfl) dX8_soonest_112 (fun x19 st20 => ?_)
          exact j_iret (pc := 115) hk dX8_soonest_115
        · refine j_aload_n (pc := 100) hk 0 rfl ⟨_, rfl⟩ dX8_soonest_100 ?_
          refine f_8_50 (pc := 101) hk (rfl) dX8_soonest_101 ?_
          refine j_iload_n (pc := 104) hk 3 rfl dX8_soonest_104 ?_
          refine a_iload (pc := 105) hk (isI_8_23) dX8_soonest_105 (fun x21 => ?_)
          refine j_goto (tgt := 115) (pc := 106) hk (by decide) dX8_soonest_106 ?_
          exact j_iret (pc := 115) hk dX8_soonest_115
    · refine j_goto (tgt := 116) (pc := 77) hk (by decide) dX8_soonest_77 ?_
      refine j_iinc (dd := (1 : Int32)) (lv' := ((5, .int (v5 + (1 : Int32))) :: [(0, fk_r g 0), (1, .int v1), (2, .int v2), (3, .int v3), (4, .int v4)])) (pc := 116) hk 5 rfl (by decide) (by decide) rfl dX8_soonest_116 ?_
      refine j_sub hk (lv' := [(0, fk_r g 0), (1, .int v1), (2, .int v2), (3, .int v3), (4, .int v4), (5, .int (v5 + (1 : Int32)))]) [1, 2, 3, 4, 5, 0] rfl ?_
      refine j_goto (tgt := 40) (pc := 119) hk (by decide) dX8_soonest_119 ?_
      exact j_sub hk [0, 1, 2, 3, 4, 5] rfl (H40 v1 v2 v3 v4 (v5 + (1 : Int32)) st15)
set_option maxHeartbeats 1000000 in
set_option maxRecDepth 20000 in
theorem L8_soonest_40 {g : fkG} {k : fkK} (hk : fk_ok wM g k RX8 cX8_soonest 6 (some (.int)) 5 146) (k31 : Int32 → Int32 → Int32 → Int32 → fkS → Option (Int32 × fkS)) (H31 : ∀ (v1 : Int32) (v2 : Int32) (v3 : Int32) (v4 : Int32) (st : fkS), fk_J wM g fk_eI k 31 [(0, fk_r g 0), (1, .int v1), (2, .int v2), (3, .int v3), (4, .int v4)] [] st (k31 v1 v2 v3 v4 st)) (fu : Nat) : ∀ (v1 : Int32) (v2 : Int32) (v3 : Int32) (v4 : Int32) (v5 : Int32) (st : fkS), fk_J wM g fk_eI k 40 [(0, fk_r g 0), (1, .int v1), (2, .int v2), (3, .int v3), (4, .int v4), (5, .int v5)] [] st (fk_lp5 (B8_soonest_40 k31) fu v1 v2 v3 v4 v5 st) := by
  induction fu with
  | zero =>
    intro v1 v2 v3 v4 v5 st
    exact j_none hk
  | succ fu ih =>
    exact T8_soonest_40 hk k31 H31 _ ih
def B8_soonest_31 (k31 : Int32 → Int32 → Int32 → Int32 → fkS → Option (Int32 × fkS)) (v1 : Int32) (v2 : Int32) (v3 : Int32) (v4 : Int32) (st : fkS) : Option (Int32 × fkS) :=
 if (4 : Int32) ≤ v4 then
 (if v3 = (-1 : Int32) then
 (some ((-1 : Int32), st))
 else
 (fk_bind (F8_no10 (-5 : Int32) st) <| fun x9 st10 =>
 some (x9, st10)))
 else
 (fk_lp5 (B8_soonest_40 k31) fk_fuel v1 v2 v3 v4 (0 : Int32) st)
set_option maxHeartbeats 1000000 in
set_option maxRecDepth 20000 in
theorem T8_soonest_31 {g : fkG} {k : fkK} (hk : fk_ok wM g k RX8 cX8_soonest 6 (some (.int)) 5 146) (k31 : Int32 → Int32 → Int32 → Int32 → fkS → Option (Int32 × fkS)) (H31 : ∀ (v1 : Int32) (v2 : Int32) (v3 : Int32) (v4 : Int32) (st : fkS), fk_J wM g fk_eI k 31 [(0, fk_r g 0), (1, .int v1), (2, .int v2), (3, .int v3), (4, .int v4)] [] st (k31 v1 v2 v3 v4 st)) : ∀ (v1 : Int32) (v2 : Int32) (v3 : Int32) (v4 : Int32) (st : fkS), fk_J wM g fk_eI k 31 [(0, fk_r g 0), (1, .int v1), (2, .int v2), (3, .int v3), (4, .int v4)] [] st (B8_soonest_31 k31 v1 v2 v3 v4 st) := by
  intro v1 v2 v3 v4 st
  unfold B8_soonest_31
  refine j_iload (pc := 31) hk 4 rfl dX8_soonest_31 ?_
  refine j_iconst (pc := 33) hk dX8_soonest_33 (v := 4) (by decide) ?_
  refine j_icmp_ge (tgt := 128) (pc := 34) hk (by decide) dX8_soonest_34 (fun _ => ?_) (fun _ => ?_)
  · refine j_iload_n (pc := 128) hk 3 rfl dX8_soonest_128 ?_
    refine j_iconst (pc := 129) hk dX8_soonest_129 (v := -1) (by decide) ?_
    refine j_icmp_ne (tgt := 137) (pc := 130) hk (by decide) dX8_soonest_130 (fun _ => ?_) (fun _ => ?_)
    · refine j_iconst (pc := 133) hk dX8_soonest_133 (v := -1) (by decide) ?_
      refine j_goto (tgt := 143) (pc := 134) hk (by decide) dX8_soonest_134 ?_
      exact j_iret (pc := 143) hk dX8_soonest_143
    · refine j_aload_n (pc := 137) hk 0 rfl ⟨_, rfl⟩ dX8_soonest_137 ?_
      refine j_bipush (pc := 138) hk dX8_soonest_138 (v := -5) (by decide) ?_
      refine j_callVi (pc := 140) hk [.int (-5 : Int32)] [] rfl (fun l o hq9 => C8_no10 (-5 : Int32) st l o hq9) (rcv_8 (rfl)) yv_X8_no10 ml_8_105 rfl (Nat.le_of_ble_eq_true rfl) (Nat.le_of_ble_eq_true rfl) (Nat.le_of_ble_eq_true rfl) dX8_soonest_140 (fun x9 st10 => ?_)
      exact j_iret (pc := 143) hk dX8_soonest_143
  · refine j_iconst (pc := 37) hk dX8_soonest_37 (v := 0) (by decide) ?_
    refine j_istore (lv' := ((5, .int (0 : Int32)) :: [(0, fk_r g 0), (1, .int v1), (2, .int v2), (3, .int v3), (4, .int v4)])) (pc := 38) hk (by decide) rfl dX8_soonest_38 ?_
    refine j_sub hk (lv' := [(0, fk_r g 0), (1, .int v1), (2, .int v2), (3, .int v3), (4, .int v4), (5, .int (0 : Int32))]) [1, 2, 3, 4, 5, 0] rfl ?_
    exact j_sub hk [0, 1, 2, 3, 4, 5] rfl (L8_soonest_40 hk k31 H31 fk_fuel v1 v2 v3 v4 (0 : Int32) st)
set_option maxHeartbeats 1000000 in
set_option maxRecDepth 20000 in
theorem L8_soonest_31 {g : fkG} {k : fkK} (hk : fk_ok wM g k RX8 cX8_soonest 6 (some (.int)) 5 146) (fu : Nat) : ∀ (v1 : Int32) (v2 : Int32) (v3 : Int32) (v4 : Int32) (st : fkS), fk_J wM g fk_eI k 31 [(0, fk_r g 0), (1, .int v1), (2, .int v2), (3, .int v3), (4, .int v4)] [] st (fk_lp4 (B8_soonest_31) fu v1 v2 v3 v4 st) := by
  induction fu with
  | zero =>
    intro v1 v2 v3 v4 st
    exact j_none hk
  | succ fu ih =>
    exact T8_soonest_31 hk _ ih
def F8_soonest (p1 : Int32) (p2 : Int32) (p3 : Int32) (st : fkS) : Option (Int32 × fkS) :=
 fk_bind (F8_isBird p1 st) <| fun x1 st2 =>
 if x1 = 0 then
 (fk_bind (F8_no10 (-1 : Int32) st2) <| fun x3 st4 =>
 some (x3, st4))
 else
 (fk_bind (F8_isState p2 st2) <| fun x5 st6 =>
 if x5 = 0 then
 (fk_bind (F8_no10 (-6 : Int32) st6) <| fun x7 st8 =>
 some (x7, st8))
 else
 (fk_lp4 (B8_soonest_31) fk_fuel p1 p2 p3 (0 : Int32) st6))
set_option maxHeartbeats 1000000 in
set_option maxRecDepth 20000 in
theorem C8_soonest (p1 : Int32) (p2 : Int32) (p3 : Int32) (st : fkS) {g : fkG} (l : Launch) (o : Int32 × fkS) (hF : F8_soonest p1 p2 p3 st = some o) : fk_C wM yX8_soonest cX8_soonest 6 (some (.int)) 5 146 l g [fk_r g 0, .int p1, .int p2, .int p3] st (fk_eI o.1) o.2 := by
  refine fk_begin rfl (Nat.le_of_ble_eq_true rfl) (fun k hk => ?_) o hF
  have hk : fk_ok wM g k RX8 cX8_soonest 6 (some (.int)) 5 146 := hk
  show fk_J wM g fk_eI k 0 [(0, fk_r g 0), (1, .int p1), (2, .int p2), (3, .int p3)] [] st (F8_soonest p1 p2 p3 st)
  unfold F8_soonest
  refine j_aload_n (pc := 0) hk 0 rfl ⟨_, rfl⟩ dX8_soonest_0 ?_
  refine j_iload_n (pc := 1) hk 1 rfl dX8_soonest_1 ?_
  refine j_callVi (pc := 2) hk [.int p1] [] rfl (fun l o hq9 => C8_isBird p1 st l o hq9) (rcv_8 (rfl)) yv_X8_isBird ml_8_99 rfl (Nat.le_of_ble_eq_true rfl) (Nat.le_of_ble_eq_true rfl) (Nat.le_of_ble_eq_true rfl) dX8_soonest_2 (fun x1 st2 => ?_)
  refine j_if_ne (tgt := 14) (pc := 5) hk (by decide) dX8_soonest_5 (fun _ => ?_) (fun _ => ?_)
  · refine j_aload_n (pc := 8) hk 0 rfl ⟨_, rfl⟩ dX8_soonest_8 ?_
    refine j_iconst (pc := 9) hk dX8_soonest_9 (v := -1) (by decide) ?_
    refine j_callVi (pc := 10) hk [.int (-1 : Int32)] [] rfl (fun l o hq9 => C8_no10 (-1 : Int32) st2 l o hq9) (rcv_8 (rfl)) yv_X8_no10 ml_8_105 rfl (Nat.le_of_ble_eq_true rfl) (Nat.le_of_ble_eq_true rfl) (Nat.le_of_ble_eq_true rfl) dX8_soonest_10 (fun x3 st4 => ?_)
    exact j_iret (pc := 13) hk dX8_soonest_13
  · refine j_iload_n (pc := 14) hk 2 rfl dX8_soonest_14 ?_
    refine j_callSi (pc := 15) hk [.int p2] [] rfl (fun l o hq9 => C8_isState p2 st2 l o hq9) yv_X8_isState ml_8_126 rfl (Nat.le_of_ble_eq_true rfl) (Nat.le_of_ble_eq_true rfl) (Nat.le_of_ble_eq_true rfl) dX8_soonest_15 (fun x5 st6 => ?_)
    refine j_if_ne (tgt := 28) (pc := 18) hk (by decide) dX8_soonest_18 (fun _ => ?_) (fun _ => ?_)
    · refine j_aload_n (pc := 21) hk 0 rfl ⟨_, rfl⟩ dX8_soonest_21 ?_
      refine j_bipush (pc := 22) hk dX8_soonest_22 (v := -6) (by decide) ?_
      refine j_callVi (pc := 24) hk [.int (-6 : Int32)] [] rfl (fun l o hq9 => C8_no10 (-6 : Int32) st6 l o hq9) (rcv_8 (rfl)) yv_X8_no10 ml_8_105 rfl (Nat.le_of_ble_eq_true rfl) (Nat.le_of_ble_eq_true rfl) (Nat.le_of_ble_eq_true rfl) dX8_soonest_24 (fun x7 st8 => ?_)
      exact j_iret (pc := 27) hk dX8_soonest_27
    · refine j_iconst (pc := 28) hk dX8_soonest_28 (v := 0) (by decide) ?_
      refine j_istore (lv' := ((4, .int (0 : Int32)) :: [(0, fk_r g 0), (1, .int p1), (2, .int p2), (3, .int p3)])) (pc := 29) hk (by decide) rfl dX8_soonest_29 ?_
      refine j_sub hk (lv' := [(0, fk_r g 0), (1, .int p1), (2, .int p2), (3, .int p3), (4, .int (0 : Int32))]) [1, 2, 3, 4, 0] rfl ?_
      exact j_sub hk [0, 1, 2, 3, 4] rfl (L8_soonest_31 hk fk_fuel p1 p2 p3 (0 : Int32) st6)
theorem dX8_safe_0 : decode cX8_safe 0 = .ok (.aload_n 0, 1) := by decide +kernel
theorem dX8_safe_1 : decode cX8_safe 1 = .ok (.iload_n 1, 1) := by decide +kernel
theorem dX8_safe_2 : decode cX8_safe 2 = .ok (.invokevirtual 99, 3) := by decide +kernel
theorem dX8_safe_5 : decode cX8_safe 5 = .ok (.ifCond .ne 9, 3) := by decide +kernel
theorem dX8_safe_8 : decode cX8_safe 8 = .ok (.aload_n 0, 1) := by decide +kernel
theorem dX8_safe_9 : decode cX8_safe 9 = .ok (.iconst (-1), 1) := by decide +kernel
theorem dX8_safe_10 : decode cX8_safe 10 = .ok (.invokevirtual 81, 3) := by decide +kernel
theorem dX8_safe_13 : decode cX8_safe 13 = .ok (.ireturn, 1) := by decide +kernel
theorem dX8_safe_14 : decode cX8_safe 14 = .ok (.iconst 0, 1) := by decide +kernel
theorem dX8_safe_15 : decode cX8_safe 15 = .ok (.istore_n 2, 1) := by decide +kernel
theorem dX8_safe_16 : decode cX8_safe 16 = .ok (.iconst 0, 1) := by decide +kernel
theorem dX8_safe_17 : decode cX8_safe 17 = .ok (.istore_n 3, 1) := by decide +kernel
theorem dX8_safe_18 : decode cX8_safe 18 = .ok (.iload_n 3, 1) := by decide +kernel
theorem dX8_safe_19 : decode cX8_safe 19 = .ok (.bipush 100, 2) := by decide +kernel
theorem dX8_safe_21 : decode cX8_safe 21 = .ok (.if_icmp .ge 36, 3) := by decide +kernel
theorem dX8_safe_24 : decode cX8_safe 24 = .ok (.aload_n 0, 1) := by decide +kernel
theorem dX8_safe_25 : decode cX8_safe 25 = .ok (.iconst 2, 1) := by decide +kernel
theorem dX8_safe_26 : decode cX8_safe 26 = .ok (.iload_n 3, 1) := by decide +kernel
theorem dX8_safe_27 : decode cX8_safe 27 = .ok (.invokevirtual 230, 3) := by decide +kernel
theorem dX8_safe_30 : decode cX8_safe 30 = .ok (.aload_n 0, 1) := by decide +kernel
theorem dX8_safe_31 : decode cX8_safe 31 = .ok (.iload_n 1, 1) := by decide +kernel
theorem dX8_safe_32 : decode cX8_safe 32 = .ok (.aload_n 0, 1) := by decide +kernel
theorem dX8_safe_33 : decode cX8_safe 33 = .ok (.getfield 19, 3) := by decide +kernel
theorem dX8_safe_36 : decode cX8_safe 36 = .ok (.iconst 1, 1) := by decide +kernel
theorem dX8_safe_37 : decode cX8_safe 37 = .ok (.iaload, 1) := by decide +kernel
theorem dX8_safe_38 : decode cX8_safe 38 = .ok (.invokevirtual 224, 3) := by decide +kernel
theorem dX8_safe_41 : decode cX8_safe 41 = .ok (.aload_n 0, 1) := by decide +kernel
theorem dX8_safe_42 : decode cX8_safe 42 = .ok (.getfield 212, 3) := by decide +kernel
theorem dX8_safe_45 : decode cX8_safe 45 = .ok (.ifCond .ne 6, 3) := by decide +kernel
theorem dX8_safe_48 : decode cX8_safe 48 = .ok (.iinc 2 1, 3) := by decide +kernel
theorem dX8_safe_51 : decode cX8_safe 51 = .ok (.iinc 3 1, 3) := by decide +kernel
theorem dX8_safe_54 : decode cX8_safe 54 = .ok (.goto (-36), 3) := by decide +kernel
theorem dX8_safe_57 : decode cX8_safe 57 = .ok (.iload_n 2, 1) := by decide +kernel
theorem dX8_safe_58 : decode cX8_safe 58 = .ok (.ireturn, 1) := by decide +kernel
def B8_safe_51 (k18 : Int32 → Int32 → Int32 → fkS → Option (Int32 × fkS)) (v1 : Int32) (v2 : Int32) (v3 : Int32) (st : fkS) : Option (Int32 × fkS) :=
 k18 v1 v2 (v3 + (1 : Int32)) st
set_option maxHeartbeats 1000000 in
set_option maxRecDepth 20000 in
theorem T8_safe_51 {g : fkG} {k : fkK} (hk : fk_ok wM g k RX8 cX8_safe 4 (some (.int)) 5 146) (k18 : Int32 → Int32 → Int32 → fkS → Option (Int32 × fkS)) (H18 : ∀ (v1 : Int32) (v2 : Int32) (v3 : Int32) (st : fkS), fk_J wM g fk_eI k 18 [(0, fk_r g 0), (1, .int v1), (2, .int v2), (3, .int v3)] [] st (k18 v1 v2 v3 st)) : ∀ (v1 : Int32) (v2 : Int32) (v3 : Int32) (st : fkS), fk_J wM g fk_eI k 51 [(0, fk_r g 0), (1, .int v1), (2, .int v2), (3, .int v3)] [] st (B8_safe_51 k18 v1 v2 v3 st) := by
  intro v1 v2 v3 st
  unfold B8_safe_51
  refine j_iinc (dd := (1 : Int32)) (lv' := ((3, .int (v3 + (1 : Int32))) :: [(0, fk_r g 0), (1, .int v1), (2, .int v2)])) (pc := 51) hk 3 rfl (by decide) (by decide) rfl dX8_safe_51 ?_
  refine j_sub hk (lv' := [(0, fk_r g 0), (1, .int v1), (2, .int v2), (3, .int (v3 + (1 : Int32)))]) [1, 2, 3, 0] rfl ?_
  refine j_goto (tgt := 18) (pc := 54) hk (by decide) dX8_safe_54 ?_
  exact j_sub hk [0, 1, 2, 3] rfl (H18 v1 v2 (v3 + (1 : Int32)) st)
def B8_safe_18 (k18 : Int32 → Int32 → Int32 → fkS → Option (Int32 × fkS)) (v1 : Int32) (v2 : Int32) (v3 : Int32) (st : fkS) : Option (Int32 × fkS) :=
 if (100 : Int32) ≤ v3 then
 (some (v2, st))
 else
 (fk_bind (F8_lays (2 : Int32) v3 st) <| fun _ st5 =>
 fk_chk (fk_in (1 : Int32) 3) <| fk_let (gA st5 4 (1 : Int32).toNatClampNeg) <| fun x6 =>
 fk_bind (F8_goes v1 x6 st5) <| fun _ st7 =>
 fk_let (gI st7 27 0) <| fun x8 =>
 if x8 = 0 then
 (B8_safe_51 k18 v1 (v2 + (1 : Int32)) v3 st7)
 else
 (B8_safe_51 k18 v1 v2 v3 st7))
set_option maxHeartbeats 1000000 in
set_option maxRecDepth 20000 in
theorem T8_safe_18 {g : fkG} {k : fkK} (hk : fk_ok wM g k RX8 cX8_safe 4 (some (.int)) 5 146) (k18 : Int32 → Int32 → Int32 → fkS → Option (Int32 × fkS)) (H18 : ∀ (v1 : Int32) (v2 : Int32) (v3 : Int32) (st : fkS), fk_J wM g fk_eI k 18 [(0, fk_r g 0), (1, .int v1), (2, .int v2), (3, .int v3)] [] st (k18 v1 v2 v3 st)) : ∀ (v1 : Int32) (v2 : Int32) (v3 : Int32) (st : fkS), fk_J wM g fk_eI k 18 [(0, fk_r g 0), (1, .int v1), (2, .int v2), (3, .int v3)] [] st (B8_safe_18 k18 v1 v2 v3 st) := by
  intro v1 v2 v3 st
  unfold B8_safe_18
  refine j_iload_n (pc := 18) hk 3 rfl dX8_safe_18 ?_
  refine j_bipush (pc := 19) hk dX8_safe_19 (v := 100) (by decide) ?_
  refine j_icmp_ge (tgt := 57) (pc := 21) hk (by decide) dX8_safe_21 (fun _ => ?_) (fun _ => ?_)
  · refine j_iload_n (pc := 57) hk 2 rfl dX8_safe_57 ?_
    exact j_iret (pc := 58) hk dX8_safe_58
  · refine j_aload_n (pc := 24) hk 0 rfl ⟨_, rfl⟩ dX8_safe_24 ?_
    refine j_iconst (pc := 25) hk dX8_safe_25 (v := 2) (by decide) ?_
    refine j_iload_n (pc := 26) hk 3 rfl dX8_safe_26 ?_
    refine j_callVv (pc := 27) hk [.int (2 : Int32), .int v3] [] rfl (fun l o hq9 => C8_lays (2 : Int32) v3 st l o hq9) (rcv_8 (rfl)) yv_X8_lays ml_8_230 rfl (Nat.le_of_ble_eq_true rfl) (Nat.le_of_ble_eq_true rfl) (Nat.le_of_ble_eq_true rfl) dX8_safe_27 (fun _ st5 => ?_)
    refine j_aload_n (pc := 30) hk 0 rfl ⟨_, rfl⟩ dX8_safe_30 ?_
    refine j_iload_n (pc := 31) hk 1 rfl dX8_safe_31 ?_
    refine j_aload_n (pc := 32) hk 0 rfl ⟨_, rfl⟩ dX8_safe_32 ?_
    refine f_8_19 (pc := 33) hk (rfl) dX8_safe_33 ?_
    refine j_iconst (pc := 36) hk dX8_safe_36 (v := 1) (by decide) ?_
    refine a_iload (pc := 37) hk (isI_8_4) dX8_safe_37 (fun x6 => ?_)
    refine j_callVv (pc := 38) hk [.int v1, .int x6] [] rfl (fun l o hq9 => C8_goes v1 x6 st5 l o hq9) (rcv_8 (rfl)) yv_X8_goes ml_8_224 rfl (Nat.le_of_ble_eq_true rfl) (Nat.le_of_ble_eq_true rfl) (Nat.le_of_ble_eq_true rfl) dX8_safe_38 (fun _ st7 => ?_)
    refine j_aload_n (pc := 41) hk 0 rfl ⟨_, rfl⟩ dX8_safe_41 ?_
    refine f_8_212 (pc := 42) hk (rfl) dX8_safe_42 (fun x8 => ?_)
    refine j_if_ne (tgt := 51) (pc := 45) hk (by decide) dX8_safe_45 (fun _ => ?_) (fun _ => ?_)
    · refine j_iinc (dd := (1 : Int32)) (lv' := ((2, .int (v2 + (1 : Int32))) :: [(0, fk_r g 0), (1, .int v1), (3, .int v3)])) (pc := 48) hk 2 rfl (by decide) (by decide) rfl dX8_safe_48 ?_
      refine j_sub hk (lv' := [(0, fk_r g 0), (1, .int v1), (2, .int (v2 + (1 : Int32))), (3, .int v3)]) [1, 2, 0, 3] rfl ?_
      exact j_sub hk [0, 1, 2, 3] rfl (T8_safe_51 hk k18 H18 v1 (v2 + (1 : Int32)) v3 st7)
    · exact j_sub hk [0, 1, 2, 3] rfl (T8_safe_51 hk k18 H18 v1 v2 v3 st7)
set_option maxHeartbeats 1000000 in
set_option maxRecDepth 20000 in
theorem L8_safe_18 {g : fkG} {k : fkK} (hk : fk_ok wM g k RX8 cX8_safe 4 (some (.int)) 5 146) (fu : Nat) : ∀ (v1 : Int32) (v2 : Int32) (v3 : Int32) (st : fkS), fk_J wM g fk_eI k 18 [(0, fk_r g 0), (1, .int v1), (2, .int v2), (3, .int v3)] [] st (fk_lp3 (B8_safe_18) fu v1 v2 v3 st) := by
  induction fu with
  | zero =>
    intro v1 v2 v3 st
    exact j_none hk
  | succ fu ih =>
    exact T8_safe_18 hk _ ih
def F8_safe (p1 : Int32) (st : fkS) : Option (Int32 × fkS) :=
 fk_bind (F8_isBird p1 st) <| fun x1 st2 =>
 if x1 = 0 then
 (fk_bind (F8_no (-1 : Int32) st2) <| fun x3 st4 =>
 some (x3, st4))
 else
 (fk_lp3 (B8_safe_18) fk_fuel p1 (0 : Int32) (0 : Int32) st2)
set_option maxHeartbeats 1000000 in
set_option maxRecDepth 20000 in
theorem C8_safe (p1 : Int32) (st : fkS) {g : fkG} (l : Launch) (o : Int32 × fkS) (hF : F8_safe p1 st = some o) : fk_C wM yX8_safe cX8_safe 4 (some (.int)) 5 146 l g [fk_r g 0, .int p1] st (fk_eI o.1) o.2 := by
  refine fk_begin rfl (Nat.le_of_ble_eq_true rfl) (fun k hk => ?_) o hF
  have hk : fk_ok wM g k RX8 cX8_safe 4 (some (.int)) 5 146 := hk
  show fk_J wM g fk_eI k 0 [(0, fk_r g 0), (1, .int p1)] [] st (F8_safe p1 st)
  unfold F8_safe
  refine j_aload_n (pc := 0) hk 0 rfl ⟨_, rfl⟩ dX8_safe_0 ?_
  refine j_iload_n (pc := 1) hk 1 rfl dX8_safe_1 ?_
  refine j_callVi (pc := 2) hk [.int p1] [] rfl (fun l o hq9 => C8_isBird p1 st l o hq9) (rcv_8 (rfl)) yv_X8_isBird ml_8_99 rfl (Nat.le_of_ble_eq_true rfl) (Nat.le_of_ble_eq_true rfl) (Nat.le_of_ble_eq_true rfl) dX8_safe_2 (fun x1 st2 => ?_)
  refine j_if_ne (tgt := 14) (pc := 5) hk (by decide) dX8_safe_5 (fun _ => ?_) (fun _ => ?_)
  · refine j_aload_n (pc := 8) hk 0 rfl ⟨_, rfl⟩ dX8_safe_8 ?_
    refine j_iconst (pc := 9) hk dX8_safe_9 (v := -1) (by decide) ?_
    refine j_callVi (pc := 10) hk [.int (-1 : Int32)] [] rfl (fun l o hq9 => C8_no (-1 : Int32) st2 l o hq9) (rcv_8 (rfl)) yv_X8_no ml_8_81 rfl (Nat.le_of_ble_eq_true rfl) (Nat.le_of_ble_eq_true rfl) (Nat.le_of_ble_eq_true rfl) dX8_safe_10 (fun x3 st4 => ?_)
    exact j_iret (pc := 13) hk dX8_safe_13
  · refine j_iconst (pc := 14) hk dX8_safe_14 (v := 0) (by decide) ?_
    refine j_istore_n (lv' := ((2, .int (0 : Int32)) :: [(0, fk_r g 0), (1, .int p1)])) (pc := 15) hk rfl (by decide) rfl dX8_safe_15 ?_
    refine j_sub hk (lv' := [(0, fk_r g 0), (1, .int p1), (2, .int (0 : Int32))]) [1, 2, 0] rfl ?_
    refine j_iconst (pc := 16) hk dX8_safe_16 (v := 0) (by decide) ?_
    refine j_istore_n (lv' := ((3, .int (0 : Int32)) :: [(0, fk_r g 0), (1, .int p1), (2, .int (0 : Int32))])) (pc := 17) hk rfl (by decide) rfl dX8_safe_17 ?_
    refine j_sub hk (lv' := [(0, fk_r g 0), (1, .int p1), (2, .int (0 : Int32)), (3, .int (0 : Int32))]) [1, 2, 3, 0] rfl ?_
    exact j_sub hk [0, 1, 2, 3] rfl (L8_safe_18 hk fk_fuel p1 (0 : Int32) (0 : Int32) st2)
theorem dX8_isSaid_0 : decode cX8_isSaid 0 = .ok (.aload_n 0, 1) := by decide +kernel
theorem dX8_isSaid_1 : decode cX8_isSaid 1 = .ok (.iload_n 1, 1) := by decide +kernel
theorem dX8_isSaid_2 : decode cX8_isSaid 2 = .ok (.invokevirtual 115, 3) := by decide +kernel
theorem dX8_isSaid_5 : decode cX8_isSaid 5 = .ok (.aload_n 0, 1) := by decide +kernel
theorem dX8_isSaid_6 : decode cX8_isSaid 6 = .ok (.getfield 119, 3) := by decide +kernel
theorem dX8_isSaid_9 : decode cX8_isSaid 9 = .ok (.aload_n 0, 1) := by decide +kernel
theorem dX8_isSaid_10 : decode cX8_isSaid 10 = .ok (.getfield 28, 3) := by decide +kernel
theorem dX8_isSaid_13 : decode cX8_isSaid 13 = .ok (.iload_n 2, 1) := by decide +kernel
theorem dX8_isSaid_14 : decode cX8_isSaid 14 = .ok (.iaload, 1) := by decide +kernel
theorem dX8_isSaid_15 : decode cX8_isSaid 15 = .ok (.if_icmp .eq 5, 3) := by decide +kernel
theorem dX8_isSaid_18 : decode cX8_isSaid 18 = .ok (.iconst 0, 1) := by decide +kernel
theorem dX8_isSaid_19 : decode cX8_isSaid 19 = .ok (.ireturn, 1) := by decide +kernel
theorem dX8_isSaid_20 : decode cX8_isSaid 20 = .ok (.iconst 0, 1) := by decide +kernel
theorem dX8_isSaid_21 : decode cX8_isSaid 21 = .ok (.istore_n 3, 1) := by decide +kernel
theorem dX8_isSaid_22 : decode cX8_isSaid 22 = .ok (.iload_n 3, 1) := by decide +kernel
theorem dX8_isSaid_23 : decode cX8_isSaid 23 = .ok (.aload_n 0, 1) := by decide +kernel
theorem dX8_isSaid_24 : decode cX8_isSaid 24 = .ok (.getfield 119, 3) := by decide +kernel
theorem dX8_isSaid_27 : decode cX8_isSaid 27 = .ok (.if_icmp .ge 26, 3) := by decide +kernel
theorem dX8_isSaid_30 : decode cX8_isSaid 30 = .ok (.aload_n 0, 1) := by decide +kernel
theorem dX8_isSaid_31 : decode cX8_isSaid 31 = .ok (.getfield 53, 3) := by decide +kernel
theorem dX8_isSaid_34 : decode cX8_isSaid 34 = .ok (.iload_n 3, 1) := by decide +kernel
theorem dX8_isSaid_35 : decode cX8_isSaid 35 = .ok (.iaload, 1) := by decide +kernel
theorem dX8_isSaid_36 : decode cX8_isSaid 36 = .ok (.aload_n 0, 1) := by decide +kernel
theorem dX8_isSaid_37 : decode cX8_isSaid 37 = .ok (.iload_n 2, 1) := by decide +kernel
theorem dX8_isSaid_38 : decode cX8_isSaid 38 = .ok (.iload_n 3, 1) := by decide +kernel
theorem dX8_isSaid_39 : decode cX8_isSaid 39 = .ok (.invokevirtual 188, 3) := by decide +kernel
theorem dX8_isSaid_42 : decode cX8_isSaid 42 = .ok (.if_icmp .eq 5, 3) := by decide +kernel
theorem dX8_isSaid_45 : decode cX8_isSaid 45 = .ok (.iconst 0, 1) := by decide +kernel
theorem dX8_isSaid_46 : decode cX8_isSaid 46 = .ok (.ireturn, 1) := by decide +kernel
theorem dX8_isSaid_47 : decode cX8_isSaid 47 = .ok (.iinc 3 1, 3) := by decide +kernel
theorem dX8_isSaid_50 : decode cX8_isSaid 50 = .ok (.goto (-28), 3) := by decide +kernel
theorem dX8_isSaid_53 : decode cX8_isSaid 53 = .ok (.iconst 1, 1) := by decide +kernel
theorem dX8_isSaid_54 : decode cX8_isSaid 54 = .ok (.ireturn, 1) := by decide +kernel
def B8_isSaid_22 (k22 : Int32 → Int32 → fkS → Option (Int32 × fkS)) (v2 : Int32) (v3 : Int32) (st : fkS) : Option (Int32 × fkS) :=
 fk_let (gI st 24 0) <| fun x4 =>
 if x4 ≤ v3 then
 (some ((1 : Int32), st))
 else
 (fk_chk (fk_in v3 16) <| fk_let (gA st 15 v3.toNatClampNeg) <| fun x5 =>
 fk_bind (F8_toldAt v2 v3 st) <| fun x6 st7 =>
 if x5 = x6 then
 (k22 v2 (v3 + (1 : Int32)) st7)
 else
 (some ((0 : Int32), st7)))
set_option maxHeartbeats 1000000 in
set_option maxRecDepth 20000 in
theorem T8_isSaid_22 {g : fkG} {k : fkK} (hk : fk_ok wM g k RX8 cX8_isSaid 4 (some (.boolean)) 4 123) (k22 : Int32 → Int32 → fkS → Option (Int32 × fkS)) (H22 : ∀ (v2 : Int32) (v3 : Int32) (st : fkS), fk_J wM g fk_eI k 22 [(0, fk_r g 0), (2, .int v2), (3, .int v3)] [] st (k22 v2 v3 st)) : ∀ (v2 : Int32) (v3 : Int32) (st : fkS), fk_J wM g fk_eI k 22 [(0, fk_r g 0), (2, .int v2), (3, .int v3)] [] st (B8_isSaid_22 k22 v2 v3 st) := by
  intro v2 v3 st
  unfold B8_isSaid_22
  refine j_iload_n (pc := 22) hk 2 rfl dX8_isSaid_22 ?_
  refine j_aload_n (pc := 23) hk 0 rfl ⟨_, rfl⟩ dX8_isSaid_23 ?_
  refine f_8_119 (pc := 24) hk (rfl) dX8_isSaid_24 (fun x4 => ?_)
  refine j_icmp_ge (tgt := 53) (pc := 27) hk (by decide) dX8_isSaid_27 (fun _ => ?_) (fun _ => ?_)
  · refine j_iconst (pc := 53) hk dX8_isSaid_53 (v := 1) (by decide) ?_
    exact j_zret (pc := 54) hk rfl dX8_isSaid_54
  · refine j_aload_n (pc := 30) hk 0 rfl ⟨_, rfl⟩ dX8_isSaid_30 ?_
    refine f_8_53 (pc := 31) hk (rfl) dX8_isSaid_31 ?_
    refine j_iload_n (pc := 34) hk 2 rfl dX8_isSaid_34 ?_
    refine a_iload (pc := 35) hk (isI_8_25) dX8_isSaid_35 (fun x5 => ?_)
    refine j_aload_n (pc := 36) hk 0 rfl ⟨_, rfl⟩ dX8_isSaid_36 ?_
    refine j_iload_n (pc := 37) hk 1 rfl dX8_isSaid_37 ?_
    refine j_iload_n (pc := 38) hk 2 rfl dX8_isSaid_38 ?_
    refine j_callVi (pc := 39) hk [.int v2, .int v3] [.int x5] rfl (fun l o hq9 => C8_toldAt v2 v3 st l o hq9) (rcv_8 (rfl)) yv_X8_toldAt ml_8_188 rfl (Nat.le_of_ble_eq_true rfl) (Nat.le_of_ble_eq_true rfl) (Nat.le_of_ble_eq_true rfl) dX8_isSaid_39 (fun x6 st7 => ?_)
    refine j_icmp_eq (tgt := 47) (pc := 42) hk (by decide) dX8_isSaid_42 (fun _ => ?_) (fun _ => ?_)
    · refine j_iinc (dd := (1 : Int32)) (lv' := ((3, .int (v3 + (1 : Int32))) :: [(0, fk_r g 0), (2, .int v2)])) (pc := 47) hk 2 rfl (by decide) (by decide) rfl dX8_isSaid_47 ?_
      refine j_sub hk (lv' := [(0, fk_r g 0), (2, .int v2), (3, .int (v3 + (1 : Int32)))]) [1, 2, 0] rfl ?_
      refine j_goto (tgt := 22) (pc := 50) hk (by decide) dX8_isSaid_50 ?_
      exact j_sub hk [0, 1, 2] rfl (H22 v2 (v3 + (1 : Int32)) st7)
    · refine j_iconst (pc := 45) hk dX8_isSaid_45 (v := 0) (by decide) ?_
      exact j_zret (pc := 46) hk rfl dX8_isSaid_46
set_option maxHeartbeats 1000000 in
set_option maxRecDepth 20000 in
theorem L8_isSaid_22 {g : fkG} {k : fkK} (hk : fk_ok wM g k RX8 cX8_isSaid 4 (some (.boolean)) 4 123) (fu : Nat) : ∀ (v2 : Int32) (v3 : Int32) (st : fkS), fk_J wM g fk_eI k 22 [(0, fk_r g 0), (2, .int v2), (3, .int v3)] [] st (fk_lp2 (B8_isSaid_22) fu v2 v3 st) := by
  induction fu with
  | zero =>
    intro v2 v3 st
    exact j_none hk
  | succ fu ih =>
    exact T8_isSaid_22 hk _ ih
def F8_isSaid (p1 : Int32) (p2 : Int32) (st : fkS) : Option (Int32 × fkS) :=
 fk_bind (F8_tells p1 st) <| fun _ st1 =>
 fk_let (gI st1 24 0) <| fun x2 =>
 fk_chk (fk_in p2 8) <| fk_let (gA st1 7 p2.toNatClampNeg) <| fun x3 =>
 if x2 = x3 then
 (fk_lp2 (B8_isSaid_22) fk_fuel p2 (0 : Int32) st1)
 else
 (some ((0 : Int32), st1))
set_option maxHeartbeats 1000000 in
set_option maxRecDepth 20000 in
theorem C8_isSaid (p1 : Int32) (p2 : Int32) (st : fkS) {g : fkG} (l : Launch) (o : Int32 × fkS) (hF : F8_isSaid p1 p2 st = some o) : fk_C wM yX8_isSaid cX8_isSaid 4 (some (.boolean)) 4 123 l g [fk_r g 0, .int p1, .int p2] st (fk_eI o.1) o.2 := by
  refine fk_begin rfl (Nat.le_of_ble_eq_true rfl) (fun k hk => ?_) o hF
  have hk : fk_ok wM g k RX8 cX8_isSaid 4 (some (.boolean)) 4 123 := hk
  show fk_J wM g fk_eI k 0 [(0, fk_r g 0), (1, .int p1), (2, .int p2)] [] st (F8_isSaid p1 p2 st)
  unfold F8_isSaid
  refine j_aload_n (pc := 0) hk 0 rfl ⟨_, rfl⟩ dX8_isSaid_0 ?_
  refine j_iload_n (pc := 1) hk 1 rfl dX8_isSaid_1 ?_
  refine j_callVv (pc := 2) hk [.int p1] [] rfl (fun l o hq9 => C8_tells p1 st l o hq9) (rcv_8 (rfl)) yv_X8_tells ml_8_115 rfl (Nat.le_of_ble_eq_true rfl) (Nat.le_of_ble_eq_true rfl) (Nat.le_of_ble_eq_true rfl) dX8_isSaid_2 (fun _ st1 => ?_)
  refine j_aload_n (pc := 5) hk 0 rfl ⟨_, rfl⟩ dX8_isSaid_5 ?_
  refine f_8_119 (pc := 6) hk (rfl) dX8_isSaid_6 (fun x2 => ?_)
  refine j_aload_n (pc := 9) hk 0 rfl ⟨_, rfl⟩ dX8_isSaid_9 ?_
  refine f_8_28 (pc := 10) hk (rfl) dX8_isSaid_10 ?_
  refine j_iload_n (pc := 13) hk 2 rfl dX8_isSaid_13 ?_
  refine a_iload (pc := 14) hk (isI_8_10) dX8_isSaid_14 (fun x3 => ?_)
  refine j_icmp_eq (tgt := 20) (pc := 15) hk (by decide) dX8_isSaid_15 (fun _ => ?_) (fun _ => ?_)
  · refine j_iconst (pc := 20) hk dX8_isSaid_20 (v := 0) (by decide) ?_
    refine j_istore_n (lv' := ((3, .int (0 : Int32)) :: [(0, fk_r g 0), (1, .int p1), (2, .int p2)])) (pc := 21) hk rfl (by decide) rfl dX8_isSaid_21 ?_
    refine j_sub hk (lv' := [(0, fk_r g 0), (1, .int p1), (2, .int p2), (3, .int (0 : Int32))]) [1, 2, 3, 0] rfl ?_
    exact j_sub hk [0, 2, 3] rfl (L8_isSaid_22 hk fk_fuel p2 (0 : Int32) st1)
  · refine j_iconst (pc := 18) hk dX8_isSaid_18 (v := 0) (by decide) ?_
    exact j_zret (pc := 19) hk rfl dX8_isSaid_19
theorem dX8_kindsSo_0 : decode cX8_kindsSo 0 = .ok (.aload_n 0, 1) := by decide +kernel
theorem dX8_kindsSo_1 : decode cX8_kindsSo 1 = .ok (.getfield 7, 3) := by decide +kernel
theorem dX8_kindsSo_4 : decode cX8_kindsSo 4 = .ok (.iload_n 1, 1) := by decide +kernel
theorem dX8_kindsSo_5 : decode cX8_kindsSo 5 = .ok (.iaload, 1) := by decide +kernel
theorem dX8_kindsSo_6 : decode cX8_kindsSo 6 = .ok (.istore_n 3, 1) := by decide +kernel
theorem dX8_kindsSo_7 : decode cX8_kindsSo 7 = .ok (.iconst 0, 1) := by decide +kernel
theorem dX8_kindsSo_8 : decode cX8_kindsSo 8 = .ok (.istore 4, 2) := by decide +kernel
theorem dX8_kindsSo_10 : decode cX8_kindsSo 10 = .ok (.iconst 0, 1) := by decide +kernel
theorem dX8_kindsSo_11 : decode cX8_kindsSo 11 = .ok (.istore 5, 2) := by decide +kernel
theorem dX8_kindsSo_13 : decode cX8_kindsSo 13 = .ok (.iload 5, 2) := by decide +kernel
theorem dX8_kindsSo_15 : decode cX8_kindsSo 15 = .ok (.bipush 7, 2) := by decide +kernel
theorem dX8_kindsSo_17 : decode cX8_kindsSo 17 = .ok (.if_icmp .ge 35, 3) := by decide +kernel
theorem dX8_kindsSo_20 : decode cX8_kindsSo 20 = .ok (.aload_n 0, 1) := by decide +kernel
theorem dX8_kindsSo_21 : decode cX8_kindsSo 21 = .ok (.getfield 7, 3) := by decide +kernel
theorem dX8_kindsSo_24 : decode cX8_kindsSo 24 = .ok (.iload_n 1, 1) := by decide +kernel
theorem dX8_kindsSo_25 : decode cX8_kindsSo 25 = .ok (.iload 5, 2) := by decide +kernel
theorem dX8_kindsSo_27 : decode cX8_kindsSo 27 = .ok (.iastore, 1) := by decide +kernel
theorem dX8_kindsSo_28 : decode cX8_kindsSo 28 = .ok (.aload_n 0, 1) := by decide +kernel
theorem dX8_kindsSo_29 : decode cX8_kindsSo 29 = .ok (.iload_n 1, 1) := by decide +kernel
theorem dX8_kindsSo_30 : decode cX8_kindsSo 30 = .ok (.iload_n 2, 1) := by decide +kernel
theorem dX8_kindsSo_31 : decode cX8_kindsSo 31 = .ok (.invokevirtual 233, 3) := by decide +kernel
theorem dX8_kindsSo_34 : decode cX8_kindsSo 34 = .ok (.ifCond .eq 12, 3) := by decide +kernel
theorem dX8_kindsSo_37 : decode cX8_kindsSo 37 = .ok (.iload 4, 2) := by decide +kernel
theorem dX8_kindsSo_39 : decode cX8_kindsSo 39 = .ok (.iconst 1, 1) := by decide +kernel
theorem dX8_kindsSo_40 : decode cX8_kindsSo 40 = .ok (.iload 5, 2) := by decide +kernel
theorem dX8_kindsSo_42 : decode cX8_kindsSo 42 = .ok (.ishl, 1) := by decide +kernel
theorem dX8_kindsSo_43 : decode cX8_kindsSo 43 = .ok (.ior, 1) := by decide +kernel
theorem dX8_kindsSo_44 : decode cX8_kindsSo 44 = .ok (.istore 4, 2) := by decide +kernel
theorem dX8_kindsSo_46 : decode cX8_kindsSo 46 = .ok (.iinc 5 1, 3) := by decide +kernel
theorem dX8_kindsSo_49 : decode cX8_kindsSo 49 = .ok (.goto (-36), 3) := by decide +kernel
theorem dX8_kindsSo_52 : decode cX8_kindsSo 52 = .ok (.aload_n 0, 1) := by decide +kernel
theorem dX8_kindsSo_53 : decode cX8_kindsSo 53 = .ok (.getfield 7, 3) := by decide +kernel
theorem dX8_kindsSo_56 : decode cX8_kindsSo 56 = .ok (.iload_n 1, 1) := by decide +kernel
theorem dX8_kindsSo_57 : decode cX8_kindsSo 57 = .ok (.iload_n 3, 1) := by decide +kernel
theorem dX8_kindsSo_58 : decode cX8_kindsSo 58 = .ok (.iastore, 1) := by decide +kernel
theorem dX8_kindsSo_59 : decode cX8_kindsSo 59 = .ok (.iload 4, 2) := by decide +kernel
theorem dX8_kindsSo_61 : decode cX8_kindsSo 61 = .ok (.ireturn, 1) := by decide +kernel
def B8_kindsSo_46 (k13 : Int32 → Int32 → Int32 → Int32 → Int32 → fkS → Option (Int32 × fkS)) (v1 : Int32) (v2 : Int32) (v3 : Int32) (v4 : Int32) (v5 : Int32) (st : fkS) : Option (Int32 × fkS) :=
 k13 v1 v2 v3 v4 (v5 + (1 : Int32)) st
set_option maxHeartbeats 1000000 in
set_option maxRecDepth 20000 in
theorem T8_kindsSo_46 {g : fkG} {k : fkK} (hk : fk_ok wM g k RX8 cX8_kindsSo 6 (some (.int)) 5 146) (k13 : Int32 → Int32 → Int32 → Int32 → Int32 → fkS → Option (Int32 × fkS)) (H13 : ∀ (v1 : Int32) (v2 : Int32) (v3 : Int32) (v4 : Int32) (v5 : Int32) (st : fkS), fk_J wM g fk_eI k 13 [(0, fk_r g 0), (1, .int v1), (2, .int v2), (3, .int v3), (4, .int v4), (5, .int v5)] [] st (k13 v1 v2 v3 v4 v5 st)) : ∀ (v1 : Int32) (v2 : Int32) (v3 : Int32) (v4 : Int32) (v5 : Int32) (st : fkS), fk_J wM g fk_eI k 46 [(0, fk_r g 0), (1, .int v1), (2, .int v2), (3, .int v3), (4, .int v4), (5, .int v5)] [] st (B8_kindsSo_46 k13 v1 v2 v3 v4 v5 st) := by
  intro v1 v2 v3 v4 v5 st
  unfold B8_kindsSo_46
  refine j_iinc (dd := (1 : Int32)) (lv' := ((5, .int (v5 + (1 : Int32))) :: [(0, fk_r g 0), (1, .int v1), (2, .int v2), (3, .int v3), (4, .int v4)])) (pc := 46) hk 5 rfl (by decide) (by decide) rfl dX8_kindsSo_46 ?_
  refine j_sub hk (lv' := [(0, fk_r g 0), (1, .int v1), (2, .int v2), (3, .int v3), (4, .int v4), (5, .int (v5 + (1 : Int32)))]) [1, 2, 3, 4, 5, 0] rfl ?_
  refine j_goto (tgt := 13) (pc := 49) hk (by decide) dX8_kindsSo_49 ?_
  exact j_sub hk [0, 1, 2, 3, 4, 5] rfl (H13 v1 v2 v3 v4 (v5 + (1 : Int32)) st)
def B8_kindsSo_13 (k13 : Int32 → Int32 → Int32 → Int32 → Int32 → fkS → Option (Int32 × fkS)) (v1 : Int32) (v2 : Int32) (v3 : Int32) (v4 : Int32) (v5 : Int32) (st : fkS) : Option (Int32 × fkS) :=
 if (7 : Int32) ≤ v5 then
 (fk_chk (fk_in v1 7) <| fk_let (sA st 1 v1.toNatClampNeg v3) <| fun st2 =>
 some (v4, st2))
 else
 (fk_chk (fk_in v1 7) <| fk_let (sA st 1 v1.toNatClampNeg v5) <| fun st3 =>
 fk_bind (F8_isSaid v1 v2 st3) <| fun x4 st5 =>
 if x4 = 0 then
 (B8_kindsSo_46 k13 v1 v2 v3 v4 v5 st5)
 else
 (B8_kindsSo_46 k13 v1 v2 v3 (v4 ||| ((1 : Int32) <<< (v5 &&& 31))) v5 st5))
set_option maxHeartbeats 1000000 in
set_option maxRecDepth 20000 in
theorem T8_kindsSo_13 {g : fkG} {k : fkK} (hk : fk_ok wM g k RX8 cX8_kindsSo 6 (some (.int)) 5 146) (k13 : Int32 → Int32 → Int32 → Int32 → Int32 → fkS → Option (Int32 × fkS)) (H13 : ∀ (v1 : Int32) (v2 : Int32) (v3 : Int32) (v4 : Int32) (v5 : Int32) (st : fkS), fk_J wM g fk_eI k 13 [(0, fk_r g 0), (1, .int v1), (2, .int v2), (3, .int v3), (4, .int v4), (5, .int v5)] [] st (k13 v1 v2 v3 v4 v5 st)) : ∀ (v1 : Int32) (v2 : Int32) (v3 : Int32) (v4 : Int32) (v5 : Int32) (st : fkS), fk_J wM g fk_eI k 13 [(0, fk_r g 0), (1, .int v1), (2, .int v2), (3, .int v3), (4, .int v4), (5, .int v5)] [] st (B8_kindsSo_13 k13 v1 v2 v3 v4 v5 st) := by
  intro v1 v2 v3 v4 v5 st
  unfold B8_kindsSo_13
  refine j_iload (pc := 13) hk 5 rfl dX8_kindsSo_13 ?_
  refine j_bipush (pc := 15) hk dX8_kindsSo_15 (v := 7) (by decide) ?_
  refine j_icmp_ge (tgt := 52) (pc := 17) hk (by decide) dX8_kindsSo_17 (fun _ => ?_) (fun _ => ?_)
  · refine j_aload_n (pc := 52) hk 0 rfl ⟨_, rfl⟩ dX8_kindsSo_52 ?_
    refine f_8_7 (pc := 53) hk (rfl) dX8_kindsSo_53 ?_
    refine j_iload_n (pc := 56) hk 1 rfl dX8_kindsSo_56 ?_
    refine j_iload_n (pc := 57) hk 3 rfl dX8_kindsSo_57 ?_
    refine a_istore (pc := 58) hk (isI_8_1) dX8_kindsSo_58 (fun st2 => ?_)
    refine j_iload (pc := 59) hk 4 rfl dX8_kindsSo_59 ?_
    exact j_iret (pc := 61) hk dX8_kindsSo_61
  · refine j_aload_n (pc := 20) hk 0 rfl ⟨_, rfl⟩ dX8_kindsSo_20 ?_
    refine f_8_7 (pc := 21) hk (rfl) dX8_kindsSo_21 ?_
    refine j_iload_n (pc := 24) hk 1 rfl dX8_kindsSo_24 ?_
    refine j_iload (pc := 25) hk 5 rfl dX8_kindsSo_25 ?_
    refine a_istore (pc := 27) hk (isI_8_1) dX8_kindsSo_27 (fun st3 => ?_)
    refine j_aload_n (pc := 28) hk 0 rfl ⟨_, rfl⟩ dX8_kindsSo_28 ?_
    refine j_iload_n (pc := 29) hk 1 rfl dX8_kindsSo_29 ?_
    refine j_iload_n (pc := 30) hk 2 rfl dX8_kindsSo_30 ?_
    refine j_callVi (pc := 31) hk [.int v1, .int v2] [] rfl (fun l o hq9 => C8_isSaid v1 v2 st3 l o hq9) (rcv_8 (rfl)) yv_X8_isSaid ml_8_233 rfl (Nat.le_of_ble_eq_true rfl) (Nat.le_of_ble_eq_true rfl) (Nat.le_of_ble_eq_true rfl) dX8_kindsSo_31 (fun x4 st5 => ?_)
    refine j_if_eq (tgt := 46) (pc := 34) hk (by decide) dX8_kindsSo_34 (fun _ => ?_) (fun _ => ?_)
    · exact j_sub hk [0, 1, 2, 3, 4, 5] rfl (T8_kindsSo_46 hk k13 H13 v1 v2 v3 v4 v5 st5)
    · refine j_iload (pc := 37) hk 4 rfl dX8_kindsSo_37 ?_
      refine j_iconst (pc := 39) hk dX8_kindsSo_39 (v := 1) (by decide) ?_
      refine j_iload (pc := 40) hk 5 rfl dX8_kindsSo_40 ?_
      refine j_ishl (pc := 42) hk dX8_kindsSo_42 ?_
      refine j_ior (pc := 43) hk dX8_kindsSo_43 ?_
      refine j_istore (lv' := ((4, .int (v4 ||| ((1 : Int32) <<< (v5 &&& 31)))) :: [(0, fk_r g 0), (1, .int v1), (2, .int v2), (3, .int v3), (5, .int v5)])) (pc := 44) hk (by decide) rfl dX8_kindsSo_44 ?_
      refine j_sub hk (lv' := [(0, fk_r g 0), (1, .int v1), (2, .int v2), (3, .int v3), (4, .int (v4 ||| ((1 : Int32) <<< (v5 &&& 31)))), (5, .int v5)]) [1, 2, 3, 4, 0, 5] rfl ?_
      exact j_sub hk [0, 1, 2, 3, 4, 5] rfl (T8_kindsSo_46 hk k13 H13 v1 v2 v3 (v4 ||| ((1 : Int32) <<< (v5 &&& 31))) v5 st5)
set_option maxHeartbeats 1000000 in
set_option maxRecDepth 20000 in
theorem L8_kindsSo_13 {g : fkG} {k : fkK} (hk : fk_ok wM g k RX8 cX8_kindsSo 6 (some (.int)) 5 146) (fu : Nat) : ∀ (v1 : Int32) (v2 : Int32) (v3 : Int32) (v4 : Int32) (v5 : Int32) (st : fkS), fk_J wM g fk_eI k 13 [(0, fk_r g 0), (1, .int v1), (2, .int v2), (3, .int v3), (4, .int v4), (5, .int v5)] [] st (fk_lp5 (B8_kindsSo_13) fu v1 v2 v3 v4 v5 st) := by
  induction fu with
  | zero =>
    intro v1 v2 v3 v4 v5 st
    exact j_none hk
  | succ fu ih =>
    exact T8_kindsSo_13 hk _ ih
def F8_kindsSo (p1 : Int32) (p2 : Int32) (st : fkS) : Option (Int32 × fkS) :=
 fk_chk (fk_in p1 7) <| fk_let (gA st 1 p1.toNatClampNeg) <| fun x1 =>
 fk_lp5 (B8_kindsSo_13) fk_fuel p1 p2 x1 (0 : Int32) (0 : Int32) st
set_option maxHeartbeats 1000000 in
set_option maxRecDepth 20000 in
theorem C8_kindsSo (p1 : Int32) (p2 : Int32) (st : fkS) {g : fkG} (l : Launch) (o : Int32 × fkS) (hF : F8_kindsSo p1 p2 st = some o) : fk_C wM yX8_kindsSo cX8_kindsSo 6 (some (.int)) 5 146 l g [fk_r g 0, .int p1, .int p2] st (fk_eI o.1) o.2 := by
  refine fk_begin rfl (Nat.le_of_ble_eq_true rfl) (fun k hk => ?_) o hF
  have hk : fk_ok wM g k RX8 cX8_kindsSo 6 (some (.int)) 5 146 := hk
  show fk_J wM g fk_eI k 0 [(0, fk_r g 0), (1, .int p1), (2, .int p2)] [] st (F8_kindsSo p1 p2 st)
  unfold F8_kindsSo
  refine j_aload_n (pc := 0) hk 0 rfl ⟨_, rfl⟩ dX8_kindsSo_0 ?_
  refine f_8_7 (pc := 1) hk (rfl) dX8_kindsSo_1 ?_
  refine j_iload_n (pc := 4) hk 1 rfl dX8_kindsSo_4 ?_
  refine a_iload (pc := 5) hk (isI_8_1) dX8_kindsSo_5 (fun x1 => ?_)
  refine j_istore_n (lv' := ((3, .int x1) :: [(0, fk_r g 0), (1, .int p1), (2, .int p2)])) (pc := 6) hk rfl (by decide) rfl dX8_kindsSo_6 ?_
  refine j_sub hk (lv' := [(0, fk_r g 0), (1, .int p1), (2, .int p2), (3, .int x1)]) [1, 2, 3, 0] rfl ?_
  refine j_iconst (pc := 7) hk dX8_kindsSo_7 (v := 0) (by decide) ?_
  refine j_istore (lv' := ((4, .int (0 : Int32)) :: [(0, fk_r g 0), (1, .int p1), (2, .int p2), (3, .int x1)])) (pc := 8) hk (by decide) rfl dX8_kindsSo_8 ?_
  refine j_sub hk (lv' := [(0, fk_r g 0), (1, .int p1), (2, .int p2), (3, .int x1), (4, .int (0 : Int32))]) [1, 2, 3, 4, 0] rfl ?_
  refine j_iconst (pc := 10) hk dX8_kindsSo_10 (v := 0) (by decide) ?_
  refine j_istore (lv' := ((5, .int (0 : Int32)) :: [(0, fk_r g 0), (1, .int p1), (2, .int p2), (3, .int x1), (4, .int (0 : Int32))])) (pc := 11) hk (by decide) rfl dX8_kindsSo_11 ?_
  refine j_sub hk (lv' := [(0, fk_r g 0), (1, .int p1), (2, .int p2), (3, .int x1), (4, .int (0 : Int32)), (5, .int (0 : Int32))]) [1, 2, 3, 4, 5, 0] rfl ?_
  exact j_sub hk [0, 1, 2, 3, 4, 5] rfl (L8_kindsSo_13 hk fk_fuel p1 p2 x1 (0 : Int32) (0 : Int32) st)
theorem dX8_heatsSo_0 : decode cX8_heatsSo 0 = .ok (.aload_n 0, 1) := by decide +kernel
theorem dX8_heatsSo_1 : decode cX8_heatsSo 1 = .ok (.getfield 19, 3) := by decide +kernel
theorem dX8_heatsSo_4 : decode cX8_heatsSo 4 = .ok (.iconst 0, 1) := by decide +kernel
theorem dX8_heatsSo_5 : decode cX8_heatsSo 5 = .ok (.iaload, 1) := by decide +kernel
theorem dX8_heatsSo_6 : decode cX8_heatsSo 6 = .ok (.istore_n 3, 1) := by decide +kernel
theorem dX8_heatsSo_7 : decode cX8_heatsSo 7 = .ok (.iconst 0, 1) := by decide +kernel
theorem dX8_heatsSo_8 : decode cX8_heatsSo 8 = .ok (.istore 4, 2) := by decide +kernel
theorem dX8_heatsSo_10 : decode cX8_heatsSo 10 = .ok (.iconst 0, 1) := by decide +kernel
theorem dX8_heatsSo_11 : decode cX8_heatsSo 11 = .ok (.istore 5, 2) := by decide +kernel
theorem dX8_heatsSo_13 : decode cX8_heatsSo 13 = .ok (.iload 5, 2) := by decide +kernel
theorem dX8_heatsSo_15 : decode cX8_heatsSo 15 = .ok (.bipush 10, 2) := by decide +kernel
theorem dX8_heatsSo_17 : decode cX8_heatsSo 17 = .ok (.if_icmp .ge 35, 3) := by decide +kernel
theorem dX8_heatsSo_20 : decode cX8_heatsSo 20 = .ok (.aload_n 0, 1) := by decide +kernel
theorem dX8_heatsSo_21 : decode cX8_heatsSo 21 = .ok (.getfield 19, 3) := by decide +kernel
theorem dX8_heatsSo_24 : decode cX8_heatsSo 24 = .ok (.iconst 0, 1) := by decide +kernel
theorem dX8_heatsSo_25 : decode cX8_heatsSo 25 = .ok (.iload 5, 2) := by decide +kernel
theorem dX8_heatsSo_27 : decode cX8_heatsSo 27 = .ok (.iastore, 1) := by decide +kernel
theorem dX8_heatsSo_28 : decode cX8_heatsSo 28 = .ok (.aload_n 0, 1) := by decide +kernel
theorem dX8_heatsSo_29 : decode cX8_heatsSo 29 = .ok (.iload_n 1, 1) := by decide +kernel
theorem dX8_heatsSo_30 : decode cX8_heatsSo 30 = .ok (.iload_n 2, 1) := by decide +kernel
theorem dX8_heatsSo_31 : decode cX8_heatsSo 31 = .ok (.invokevirtual 233, 3) := by decide +kernel
theorem dX8_heatsSo_34 : decode cX8_heatsSo 34 = .ok (.ifCond .eq 12, 3) := by decide +kernel
theorem dX8_heatsSo_37 : decode cX8_heatsSo 37 = .ok (.iload 4, 2) := by decide +kernel
theorem dX8_heatsSo_39 : decode cX8_heatsSo 39 = .ok (.iconst 1, 1) := by decide +kernel
theorem dX8_heatsSo_40 : decode cX8_heatsSo 40 = .ok (.iload 5, 2) := by decide +kernel
theorem dX8_heatsSo_42 : decode cX8_heatsSo 42 = .ok (.ishl, 1) := by decide +kernel
theorem dX8_heatsSo_43 : decode cX8_heatsSo 43 = .ok (.ior, 1) := by decide +kernel
theorem dX8_heatsSo_44 : decode cX8_heatsSo 44 = .ok (.istore 4, 2) := by decide +kernel
theorem dX8_heatsSo_46 : decode cX8_heatsSo 46 = .ok (.iinc 5 1, 3) := by decide +kernel
theorem dX8_heatsSo_49 : decode cX8_heatsSo 49 = .ok (.goto (-36), 3) := by decide +kernel
theorem dX8_heatsSo_52 : decode cX8_heatsSo 52 = .ok (.aload_n 0, 1) := by decide +kernel
theorem dX8_heatsSo_53 : decode cX8_heatsSo 53 = .ok (.getfield 19, 3) := by decide +kernel
theorem dX8_heatsSo_56 : decode cX8_heatsSo 56 = .ok (.iconst 0, 1) := by decide +kernel
theorem dX8_heatsSo_57 : decode cX8_heatsSo 57 = .ok (.iload_n 3, 1) := by decide +kernel
theorem dX8_heatsSo_58 : decode cX8_heatsSo 58 = .ok (.iastore, 1) := by decide +kernel
theorem dX8_heatsSo_59 : decode cX8_heatsSo 59 = .ok (.iload 4, 2) := by decide +kernel
theorem dX8_heatsSo_61 : decode cX8_heatsSo 61 = .ok (.ireturn, 1) := by decide +kernel
def B8_heatsSo_46 (k13 : Int32 → Int32 → Int32 → Int32 → Int32 → fkS → Option (Int32 × fkS)) (v1 : Int32) (v2 : Int32) (v3 : Int32) (v4 : Int32) (v5 : Int32) (st : fkS) : Option (Int32 × fkS) :=
 k13 v1 v2 v3 v4 (v5 + (1 : Int32)) st
set_option maxHeartbeats 1000000 in
set_option maxRecDepth 20000 in
theorem T8_heatsSo_46 {g : fkG} {k : fkK} (hk : fk_ok wM g k RX8 cX8_heatsSo 6 (some (.int)) 5 146) (k13 : Int32 → Int32 → Int32 → Int32 → Int32 → fkS → Option (Int32 × fkS)) (H13 : ∀ (v1 : Int32) (v2 : Int32) (v3 : Int32) (v4 : Int32) (v5 : Int32) (st : fkS), fk_J wM g fk_eI k 13 [(0, fk_r g 0), (1, .int v1), (2, .int v2), (3, .int v3), (4, .int v4), (5, .int v5)] [] st (k13 v1 v2 v3 v4 v5 st)) : ∀ (v1 : Int32) (v2 : Int32) (v3 : Int32) (v4 : Int32) (v5 : Int32) (st : fkS), fk_J wM g fk_eI k 46 [(0, fk_r g 0), (1, .int v1), (2, .int v2), (3, .int v3), (4, .int v4), (5, .int v5)] [] st (B8_heatsSo_46 k13 v1 v2 v3 v4 v5 st) := by
  intro v1 v2 v3 v4 v5 st
  unfold B8_heatsSo_46
  refine j_iinc (dd := (1 : Int32)) (lv' := ((5, .int (v5 + (1 : Int32))) :: [(0, fk_r g 0), (1, .int v1), (2, .int v2), (3, .int v3), (4, .int v4)])) (pc := 46) hk 5 rfl (by decide) (by decide) rfl dX8_heatsSo_46 ?_
  refine j_sub hk (lv' := [(0, fk_r g 0), (1, .int v1), (2, .int v2), (3, .int v3), (4, .int v4), (5, .int (v5 + (1 : Int32)))]) [1, 2, 3, 4, 5, 0] rfl ?_
  refine j_goto (tgt := 13) (pc := 49) hk (by decide) dX8_heatsSo_49 ?_
  exact j_sub hk [0, 1, 2, 3, 4, 5] rfl (H13 v1 v2 v3 v4 (v5 + (1 : Int32)) st)
def B8_heatsSo_13 (k13 : Int32 → Int32 → Int32 → Int32 → Int32 → fkS → Option (Int32 × fkS)) (v1 : Int32) (v2 : Int32) (v3 : Int32) (v4 : Int32) (v5 : Int32) (st : fkS) : Option (Int32 × fkS) :=
 if (10 : Int32) ≤ v5 then
 (fk_chk (fk_in (0 : Int32) 3) <| fk_let (sA st 4 (0 : Int32).toNatClampNeg v3) <| fun st2 =>
 some (v4, st2))
 else
 (fk_chk (fk_in (0 : Int32) 3) <| fk_let (sA st 4 (0 : Int32).toNatClampNeg v5) <| fun st3 =>
 fk_bind (F8_isSaid v1 v2 st3) <| fun x4 st5 =>
 if x4 = 0 then
 (B8_heatsSo_46 k13 v1 v2 v3 v4 v5 st5)
 else
 (B8_heatsSo_46 k13 v1 v2 v3 (v4 ||| ((1 : Int32) <<< (v5 &&& 31))) v5 st5))
set_option maxHeartbeats 1000000 in
set_option maxRecDepth 20000 in
theorem T8_heatsSo_13 {g : fkG} {k : fkK} (hk : fk_ok wM g k RX8 cX8_heatsSo 6 (some (.int)) 5 146) (k13 : Int32 → Int32 → Int32 → Int32 → Int32 → fkS → Option (Int32 × fkS)) (H13 : ∀ (v1 : Int32) (v2 : Int32) (v3 : Int32) (v4 : Int32) (v5 : Int32) (st : fkS), fk_J wM g fk_eI k 13 [(0, fk_r g 0), (1, .int v1), (2, .int v2), (3, .int v3), (4, .int v4), (5, .int v5)] [] st (k13 v1 v2 v3 v4 v5 st)) : ∀ (v1 : Int32) (v2 : Int32) (v3 : Int32) (v4 : Int32) (v5 : Int32) (st : fkS), fk_J wM g fk_eI k 13 [(0, fk_r g 0), (1, .int v1), (2, .int v2), (3, .int v3), (4, .int v4), (5, .int v5)] [] st (B8_heatsSo_13 k13 v1 v2 v3 v4 v5 st) := by
  intro v1 v2 v3 v4 v5 st
  unfold B8_heatsSo_13
  refine j_iload (pc := 13) hk 5 rfl dX8_heatsSo_13 ?_
  refine j_bipush (pc := 15) hk dX8_heatsSo_15 (v := 10) (by decide) ?_
  refine j_icmp_ge (tgt := 52) (pc := 17) hk (by decide) dX8_heatsSo_17 (fun _ => ?_) (fun _ => ?_)
  · refine j_aload_n (pc := 52) hk 0 rfl ⟨_, rfl⟩ dX8_heatsSo_52 ?_
    refine f_8_19 (pc := 53) hk (rfl) dX8_heatsSo_53 ?_
    refine j_iconst (pc := 56) hk dX8_heatsSo_56 (v := 0) (by decide) ?_
    refine j_iload_n (pc := 57) hk 3 rfl dX8_heatsSo_57 ?_
    refine a_istore (pc := 58) hk (isI_8_4) dX8_heatsSo_58 (fun st2 => ?_)
    refine j_iload (pc := 59) hk 4 rfl dX8_heatsSo_59 ?_
    exact j_iret (pc := 61) hk dX8_heatsSo_61
  · refine j_aload_n (pc := 20) hk 0 rfl ⟨_, rfl⟩ dX8_heatsSo_20 ?_
    refine f_8_19 (pc := 21) hk (rfl) dX8_heatsSo_21 ?_
    refine j_iconst (pc := 24) hk dX8_heatsSo_24 (v := 0) (by decide) ?_
    refine j_iload (pc := 25) hk 5 rfl dX8_heatsSo_25 ?_
    refine a_istore (pc := 27) hk (isI_8_4) dX8_heatsSo_27 (fun st3 => ?_)
    refine j_aload_n (pc := 28) hk 0 rfl ⟨_, rfl⟩ dX8_heatsSo_28 ?_
    refine j_iload_n (pc := 29) hk 1 rfl dX8_heatsSo_29 ?_
    refine j_iload_n (pc := 30) hk 2 rfl dX8_heatsSo_30 ?_
    refine j_callVi (pc := 31) hk [.int v1, .int v2] [] rfl (fun l o hq9 => C8_isSaid v1 v2 st3 l o hq9) (rcv_8 (rfl)) yv_X8_isSaid ml_8_233 rfl (Nat.le_of_ble_eq_true rfl) (Nat.le_of_ble_eq_true rfl) (Nat.le_of_ble_eq_true rfl) dX8_heatsSo_31 (fun x4 st5 => ?_)
    refine j_if_eq (tgt := 46) (pc := 34) hk (by decide) dX8_heatsSo_34 (fun _ => ?_) (fun _ => ?_)
    · exact j_sub hk [0, 1, 2, 3, 4, 5] rfl (T8_heatsSo_46 hk k13 H13 v1 v2 v3 v4 v5 st5)
    · refine j_iload (pc := 37) hk 4 rfl dX8_heatsSo_37 ?_
      refine j_iconst (pc := 39) hk dX8_heatsSo_39 (v := 1) (by decide) ?_
      refine j_iload (pc := 40) hk 5 rfl dX8_heatsSo_40 ?_
      refine j_ishl (pc := 42) hk dX8_heatsSo_42 ?_
      refine j_ior (pc := 43) hk dX8_heatsSo_43 ?_
      refine j_istore (lv' := ((4, .int (v4 ||| ((1 : Int32) <<< (v5 &&& 31)))) :: [(0, fk_r g 0), (1, .int v1), (2, .int v2), (3, .int v3), (5, .int v5)])) (pc := 44) hk (by decide) rfl dX8_heatsSo_44 ?_
      refine j_sub hk (lv' := [(0, fk_r g 0), (1, .int v1), (2, .int v2), (3, .int v3), (4, .int (v4 ||| ((1 : Int32) <<< (v5 &&& 31)))), (5, .int v5)]) [1, 2, 3, 4, 0, 5] rfl ?_
      exact j_sub hk [0, 1, 2, 3, 4, 5] rfl (T8_heatsSo_46 hk k13 H13 v1 v2 v3 (v4 ||| ((1 : Int32) <<< (v5 &&& 31))) v5 st5)
set_option maxHeartbeats 1000000 in
set_option maxRecDepth 20000 in
theorem L8_heatsSo_13 {g : fkG} {k : fkK} (hk : fk_ok wM g k RX8 cX8_heatsSo 6 (some (.int)) 5 146) (fu : Nat) : ∀ (v1 : Int32) (v2 : Int32) (v3 : Int32) (v4 : Int32) (v5 : Int32) (st : fkS), fk_J wM g fk_eI k 13 [(0, fk_r g 0), (1, .int v1), (2, .int v2), (3, .int v3), (4, .int v4), (5, .int v5)] [] st (fk_lp5 (B8_heatsSo_13) fu v1 v2 v3 v4 v5 st) := by
  induction fu with
  | zero =>
    intro v1 v2 v3 v4 v5 st
    exact j_none hk
  | succ fu ih =>
    exact T8_heatsSo_13 hk _ ih
def F8_heatsSo (p1 : Int32) (p2 : Int32) (st : fkS) : Option (Int32 × fkS) :=
 fk_chk (fk_in (0 : Int32) 3) <| fk_let (gA st 4 (0 : Int32).toNatClampNeg) <| fun x1 =>
 fk_lp5 (B8_heatsSo_13) fk_fuel p1 p2 x1 (0 : Int32) (0 : Int32) st
set_option maxHeartbeats 1000000 in
set_option maxRecDepth 20000 in
theorem C8_heatsSo (p1 : Int32) (p2 : Int32) (st : fkS) {g : fkG} (l : Launch) (o : Int32 × fkS) (hF : F8_heatsSo p1 p2 st = some o) : fk_C wM yX8_heatsSo cX8_heatsSo 6 (some (.int)) 5 146 l g [fk_r g 0, .int p1, .int p2] st (fk_eI o.1) o.2 := by
  refine fk_begin rfl (Nat.le_of_ble_eq_true rfl) (fun k hk => ?_) o hF
  have hk : fk_ok wM g k RX8 cX8_heatsSo 6 (some (.int)) 5 146 := hk
  show fk_J wM g fk_eI k 0 [(0, fk_r g 0), (1, .int p1), (2, .int p2)] [] st (F8_heatsSo p1 p2 st)
  unfold F8_heatsSo
  refine j_aload_n (pc := 0) hk 0 rfl ⟨_, rfl⟩ dX8_heatsSo_0 ?_
  refine f_8_19 (pc := 1) hk (rfl) dX8_heatsSo_1 ?_
  refine j_iconst (pc := 4) hk dX8_heatsSo_4 (v := 0) (by decide) ?_
  refine a_iload (pc := 5) hk (isI_8_4) dX8_heatsSo_5 (fun x1 => ?_)
  refine j_istore_n (lv' := ((3, .int x1) :: [(0, fk_r g 0), (1, .int p1), (2, .int p2)])) (pc := 6) hk rfl (by decide) rfl dX8_heatsSo_6 ?_
  refine j_sub hk (lv' := [(0, fk_r g 0), (1, .int p1), (2, .int p2), (3, .int x1)]) [1, 2, 3, 0] rfl ?_
  refine j_iconst (pc := 7) hk dX8_heatsSo_7 (v := 0) (by decide) ?_
  refine j_istore (lv' := ((4, .int (0 : Int32)) :: [(0, fk_r g 0), (1, .int p1), (2, .int p2), (3, .int x1)])) (pc := 8) hk (by decide) rfl dX8_heatsSo_8 ?_
  refine j_sub hk (lv' := [(0, fk_r g 0), (1, .int p1), (2, .int p2), (3, .int x1), (4, .int (0 : Int32))]) [1, 2, 3, 4, 0] rfl ?_
  refine j_iconst (pc := 10) hk dX8_heatsSo_10 (v := 0) (by decide) ?_
  refine j_istore (lv' := ((5, .int (0 : Int32)) :: [(0, fk_r g 0), (1, .int p1), (2, .int p2), (3, .int x1), (4, .int (0 : Int32))])) (pc := 11) hk (by decide) rfl dX8_heatsSo_11 ?_
  refine j_sub hk (lv' := [(0, fk_r g 0), (1, .int p1), (2, .int p2), (3, .int x1), (4, .int (0 : Int32)), (5, .int (0 : Int32))]) [1, 2, 3, 4, 5, 0] rfl ?_
  exact j_sub hk [0, 1, 2, 3, 4, 5] rfl (L8_heatsSo_13 hk fk_fuel p1 p2 x1 (0 : Int32) (0 : Int32) st)
theorem dX8_mouthsSo_0 : decode cX8_mouthsSo 0 = .ok (.aload_n 0, 1) := by decide +kernel
theorem dX8_mouthsSo_1 : decode cX8_mouthsSo 1 = .ok (.getfield 16, 3) := by decide +kernel
theorem dX8_mouthsSo_4 : decode cX8_mouthsSo 4 = .ok (.iload_n 1, 1) := by decide +kernel
theorem dX8_mouthsSo_5 : decode cX8_mouthsSo 5 = .ok (.iaload, 1) := by decide +kernel
theorem dX8_mouthsSo_6 : decode cX8_mouthsSo 6 = .ok (.istore_n 3, 1) := by decide +kernel
theorem dX8_mouthsSo_7 : decode cX8_mouthsSo 7 = .ok (.iconst 0, 1) := by decide +kernel
theorem dX8_mouthsSo_8 : decode cX8_mouthsSo 8 = .ok (.istore 4, 2) := by decide +kernel
theorem dX8_mouthsSo_10 : decode cX8_mouthsSo 10 = .ok (.iconst 0, 1) := by decide +kernel
theorem dX8_mouthsSo_11 : decode cX8_mouthsSo 11 = .ok (.istore 5, 2) := by decide +kernel
theorem dX8_mouthsSo_13 : decode cX8_mouthsSo 13 = .ok (.iload 5, 2) := by decide +kernel
theorem dX8_mouthsSo_15 : decode cX8_mouthsSo 15 = .ok (.bipush 20, 2) := by decide +kernel
theorem dX8_mouthsSo_17 : decode cX8_mouthsSo 17 = .ok (.if_icmp .ge 35, 3) := by decide +kernel
theorem dX8_mouthsSo_20 : decode cX8_mouthsSo 20 = .ok (.aload_n 0, 1) := by decide +kernel
theorem dX8_mouthsSo_21 : decode cX8_mouthsSo 21 = .ok (.getfield 16, 3) := by decide +kernel
theorem dX8_mouthsSo_24 : decode cX8_mouthsSo 24 = .ok (.iload_n 1, 1) := by decide +kernel
theorem dX8_mouthsSo_25 : decode cX8_mouthsSo 25 = .ok (.iload 5, 2) := by decide +kernel
theorem dX8_mouthsSo_27 : decode cX8_mouthsSo 27 = .ok (.iastore, 1) := by decide +kernel
theorem dX8_mouthsSo_28 : decode cX8_mouthsSo 28 = .ok (.aload_n 0, 1) := by decide +kernel
theorem dX8_mouthsSo_29 : decode cX8_mouthsSo 29 = .ok (.iload_n 1, 1) := by decide +kernel
theorem dX8_mouthsSo_30 : decode cX8_mouthsSo 30 = .ok (.iload_n 2, 1) := by decide +kernel
theorem dX8_mouthsSo_31 : decode cX8_mouthsSo 31 = .ok (.invokevirtual 233, 3) := by decide +kernel
theorem dX8_mouthsSo_34 : decode cX8_mouthsSo 34 = .ok (.ifCond .eq 12, 3) := by decide +kernel
theorem dX8_mouthsSo_37 : decode cX8_mouthsSo 37 = .ok (.iload 4, 2) := by decide +kernel
theorem dX8_mouthsSo_39 : decode cX8_mouthsSo 39 = .ok (.iconst 1, 1) := by decide +kernel
theorem dX8_mouthsSo_40 : decode cX8_mouthsSo 40 = .ok (.iload 5, 2) := by decide +kernel
theorem dX8_mouthsSo_42 : decode cX8_mouthsSo 42 = .ok (.ishl, 1) := by decide +kernel
theorem dX8_mouthsSo_43 : decode cX8_mouthsSo 43 = .ok (.ior, 1) := by decide +kernel
theorem dX8_mouthsSo_44 : decode cX8_mouthsSo 44 = .ok (.istore 4, 2) := by decide +kernel
theorem dX8_mouthsSo_46 : decode cX8_mouthsSo 46 = .ok (.iinc 5 1, 3) := by decide +kernel
theorem dX8_mouthsSo_49 : decode cX8_mouthsSo 49 = .ok (.goto (-36), 3) := by decide +kernel
theorem dX8_mouthsSo_52 : decode cX8_mouthsSo 52 = .ok (.aload_n 0, 1) := by decide +kernel
theorem dX8_mouthsSo_53 : decode cX8_mouthsSo 53 = .ok (.getfield 16, 3) := by decide +kernel
theorem dX8_mouthsSo_56 : decode cX8_mouthsSo 56 = .ok (.iload_n 1, 1) := by decide +kernel
theorem dX8_mouthsSo_57 : decode cX8_mouthsSo 57 = .ok (.iload_n 3, 1) := by decide +kernel
theorem dX8_mouthsSo_58 : decode cX8_mouthsSo 58 = .ok (.iastore, 1) := by decide +kernel
theorem dX8_mouthsSo_59 : decode cX8_mouthsSo 59 = .ok (.iload 4, 2) := by decide +kernel
theorem dX8_mouthsSo_61 : decode cX8_mouthsSo 61 = .ok (.ireturn, 1) := by decide +kernel
def B8_mouthsSo_46 (k13 : Int32 → Int32 → Int32 → Int32 → Int32 → fkS → Option (Int32 × fkS)) (v1 : Int32) (v2 : Int32) (v3 : Int32) (v4 : Int32) (v5 : Int32) (st : fkS) : Option (Int32 × fkS) :=
 k13 v1 v2 v3 v4 (v5 + (1 : Int32)) st
set_option maxHeartbeats 1000000 in
set_option maxRecDepth 20000 in
theorem T8_mouthsSo_46 {g : fkG} {k : fkK} (hk : fk_ok wM g k RX8 cX8_mouthsSo 6 (some (.int)) 5 146) (k13 : Int32 → Int32 → Int32 → Int32 → Int32 → fkS → Option (Int32 × fkS)) (H13 : ∀ (v1 : Int32) (v2 : Int32) (v3 : Int32) (v4 : Int32) (v5 : Int32) (st : fkS), fk_J wM g fk_eI k 13 [(0, fk_r g 0), (1, .int v1), (2, .int v2), (3, .int v3), (4, .int v4), (5, .int v5)] [] st (k13 v1 v2 v3 v4 v5 st)) : ∀ (v1 : Int32) (v2 : Int32) (v3 : Int32) (v4 : Int32) (v5 : Int32) (st : fkS), fk_J wM g fk_eI k 46 [(0, fk_r g 0), (1, .int v1), (2, .int v2), (3, .int v3), (4, .int v4), (5, .int v5)] [] st (B8_mouthsSo_46 k13 v1 v2 v3 v4 v5 st) := by
  intro v1 v2 v3 v4 v5 st
  unfold B8_mouthsSo_46
  refine j_iinc (dd := (1 : Int32)) (lv' := ((5, .int (v5 + (1 : Int32))) :: [(0, fk_r g 0), (1, .int v1), (2, .int v2), (3, .int v3), (4, .int v4)])) (pc := 46) hk 5 rfl (by decide) (by decide) rfl dX8_mouthsSo_46 ?_
  refine j_sub hk (lv' := [(0, fk_r g 0), (1, .int v1), (2, .int v2), (3, .int v3), (4, .int v4), (5, .int (v5 + (1 : Int32)))]) [1, 2, 3, 4, 5, 0] rfl ?_
  refine j_goto (tgt := 13) (pc := 49) hk (by decide) dX8_mouthsSo_49 ?_
  exact j_sub hk [0, 1, 2, 3, 4, 5] rfl (H13 v1 v2 v3 v4 (v5 + (1 : Int32)) st)
def B8_mouthsSo_13 (k13 : Int32 → Int32 → Int32 → Int32 → Int32 → fkS → Option (Int32 × fkS)) (v1 : Int32) (v2 : Int32) (v3 : Int32) (v4 : Int32) (v5 : Int32) (st : fkS) : Option (Int32 × fkS) :=
 if (20 : Int32) ≤ v5 then
 (fk_chk (fk_in v1 7) <| fk_let (sA st 3 v1.toNatClampNeg v3) <| fun st2 =>
 some (v4, st2))
 else
 (fk_chk (fk_in v1 7) <| fk_let (sA st 3 v1.toNatClampNeg v5) <| fun st3 =>
 fk_bind (F8_isSaid v1 v2 st3) <| fun x4 st5 =>
 if x4 = 0 then
 (B8_mouthsSo_46 k13 v1 v2 v3 v4 v5 st5)
 else
 (B8_mouthsSo_46 k13 v1 v2 v3 (v4 ||| ((1 : Int32) <<< (v5 &&& 31))) v5 st5))
set_option maxHeartbeats 1000000 in
set_option maxRecDepth 20000 in
theorem T8_mouthsSo_13 {g : fkG} {k : fkK} (hk : fk_ok wM g k RX8 cX8_mouthsSo 6 (some (.int)) 5 146) (k13 : Int32 → Int32 → Int32 → Int32 → Int32 → fkS → Option (Int32 × fkS)) (H13 : ∀ (v1 : Int32) (v2 : Int32) (v3 : Int32) (v4 : Int32) (v5 : Int32) (st : fkS), fk_J wM g fk_eI k 13 [(0, fk_r g 0), (1, .int v1), (2, .int v2), (3, .int v3), (4, .int v4), (5, .int v5)] [] st (k13 v1 v2 v3 v4 v5 st)) : ∀ (v1 : Int32) (v2 : Int32) (v3 : Int32) (v4 : Int32) (v5 : Int32) (st : fkS), fk_J wM g fk_eI k 13 [(0, fk_r g 0), (1, .int v1), (2, .int v2), (3, .int v3), (4, .int v4), (5, .int v5)] [] st (B8_mouthsSo_13 k13 v1 v2 v3 v4 v5 st) := by
  intro v1 v2 v3 v4 v5 st
  unfold B8_mouthsSo_13
  refine j_iload (pc := 13) hk 5 rfl dX8_mouthsSo_13 ?_
  refine j_bipush (pc := 15) hk dX8_mouthsSo_15 (v := 20) (by decide) ?_
  refine j_icmp_ge (tgt := 52) (pc := 17) hk (by decide) dX8_mouthsSo_17 (fun _ => ?_) (fun _ => ?_)
  · refine j_aload_n (pc := 52) hk 0 rfl ⟨_, rfl⟩ dX8_mouthsSo_52 ?_
    refine f_8_16 (pc := 53) hk (rfl) dX8_mouthsSo_53 ?_
    refine j_iload_n (pc := 56) hk 1 rfl dX8_mouthsSo_56 ?_
    refine j_iload_n (pc := 57) hk 3 rfl dX8_mouthsSo_57 ?_
    refine a_istore (pc := 58) hk (isI_8_3) dX8_mouthsSo_58 (fun st2 => ?_)
    refine j_iload (pc := 59) hk 4 rfl dX8_mouthsSo_59 ?_
    exact j_iret (pc := 61) hk dX8_mouthsSo_61
  · refine j_aload_n (pc := 20) hk 0 rfl ⟨_, rfl⟩ dX8_mouthsSo_20 ?_
    refine f_8_16 (pc := 21) hk (rfl) dX8_mouthsSo_21 ?_
    refine j_iload_n (pc := 24) hk 1 rfl dX8_mouthsSo_24 ?_
    refine j_iload (pc := 25) hk 5 rfl dX8_mouthsSo_25 ?_
    refine a_istore (pc := 27) hk (isI_8_3) dX8_mouthsSo_27 (fun st3 => ?_)
    refine j_aload_n (pc := 28) hk 0 rfl ⟨_, rfl⟩ dX8_mouthsSo_28 ?_
    refine j_iload_n (pc := 29) hk 1 rfl dX8_mouthsSo_29 ?_
    refine j_iload_n (pc := 30) hk 2 rfl dX8_mouthsSo_30 ?_
    refine j_callVi (pc := 31) hk [.int v1, .int v2] [] rfl (fun l o hq9 => C8_isSaid v1 v2 st3 l o hq9) (rcv_8 (rfl)) yv_X8_isSaid ml_8_233 rfl (Nat.le_of_ble_eq_true rfl) (Nat.le_of_ble_eq_true rfl) (Nat.le_of_ble_eq_true rfl) dX8_mouthsSo_31 (fun x4 st5 => ?_)
    refine j_if_eq (tgt := 46) (pc := 34) hk (by decide) dX8_mouthsSo_34 (fun _ => ?_) (fun _ => ?_)
    · exact j_sub hk [0, 1, 2, 3, 4, 5] rfl (T8_mouthsSo_46 hk k13 H13 v1 v2 v3 v4 v5 st5)
    · refine j_iload (pc := 37) hk 4 rfl dX8_mouthsSo_37 ?_
      refine j_iconst (pc := 39) hk dX8_mouthsSo_39 (v := 1) (by decide) ?_
      refine j_iload (pc := 40) hk 5 rfl dX8_mouthsSo_40 ?_
      refine j_ishl (pc := 42) hk dX8_mouthsSo_42 ?_
      refine j_ior (pc := 43) hk dX8_mouthsSo_43 ?_
      refine j_istore (lv' := ((4, .int (v4 ||| ((1 : Int32) <<< (v5 &&& 31)))) :: [(0, fk_r g 0), (1, .int v1), (2, .int v2), (3, .int v3), (5, .int v5)])) (pc := 44) hk (by decide) rfl dX8_mouthsSo_44 ?_
      refine j_sub hk (lv' := [(0, fk_r g 0), (1, .int v1), (2, .int v2), (3, .int v3), (4, .int (v4 ||| ((1 : Int32) <<< (v5 &&& 31)))), (5, .int v5)]) [1, 2, 3, 4, 0, 5] rfl ?_
      exact j_sub hk [0, 1, 2, 3, 4, 5] rfl (T8_mouthsSo_46 hk k13 H13 v1 v2 v3 (v4 ||| ((1 : Int32) <<< (v5 &&& 31))) v5 st5)
set_option maxHeartbeats 1000000 in
set_option maxRecDepth 20000 in
theorem L8_mouthsSo_13 {g : fkG} {k : fkK} (hk : fk_ok wM g k RX8 cX8_mouthsSo 6 (some (.int)) 5 146) (fu : Nat) : ∀ (v1 : Int32) (v2 : Int32) (v3 : Int32) (v4 : Int32) (v5 : Int32) (st : fkS), fk_J wM g fk_eI k 13 [(0, fk_r g 0), (1, .int v1), (2, .int v2), (3, .int v3), (4, .int v4), (5, .int v5)] [] st (fk_lp5 (B8_mouthsSo_13) fu v1 v2 v3 v4 v5 st) := by
  induction fu with
  | zero =>
    intro v1 v2 v3 v4 v5 st
    exact j_none hk
  | succ fu ih =>
    exact T8_mouthsSo_13 hk _ ih
def F8_mouthsSo (p1 : Int32) (p2 : Int32) (st : fkS) : Option (Int32 × fkS) :=
 fk_chk (fk_in p1 7) <| fk_let (gA st 3 p1.toNatClampNeg) <| fun x1 =>
 fk_lp5 (B8_mouthsSo_13) fk_fuel p1 p2 x1 (0 : Int32) (0 : Int32) st
set_option maxHeartbeats 1000000 in
set_option maxRecDepth 20000 in
theorem C8_mouthsSo (p1 : Int32) (p2 : Int32) (st : fkS) {g : fkG} (l : Launch) (o : Int32 × fkS) (hF : F8_mouthsSo p1 p2 st = some o) : fk_C wM yX8_mouthsSo cX8_mouthsSo 6 (some (.int)) 5 146 l g [fk_r g 0, .int p1, .int p2] st (fk_eI o.1) o.2 := by
  refine fk_begin rfl (Nat.le_of_ble_eq_true rfl) (fun k hk => ?_) o hF
  have hk : fk_ok wM g k RX8 cX8_mouthsSo 6 (some (.int)) 5 146 := hk
  show fk_J wM g fk_eI k 0 [(0, fk_r g 0), (1, .int p1), (2, .int p2)] [] st (F8_mouthsSo p1 p2 st)
  unfold F8_mouthsSo
  refine j_aload_n (pc := 0) hk 0 rfl ⟨_, rfl⟩ dX8_mouthsSo_0 ?_
  refine f_8_16 (pc := 1) hk (rfl) dX8_mouthsSo_1 ?_
  refine j_iload_n (pc := 4) hk 1 rfl dX8_mouthsSo_4 ?_
  refine a_iload (pc := 5) hk (isI_8_3) dX8_mouthsSo_5 (fun x1 => ?_)
  refine j_istore_n (lv' := ((3, .int x1) :: [(0, fk_r g 0), (1, .int p1), (2, .int p2)])) (pc := 6) hk rfl (by decide) rfl dX8_mouthsSo_6 ?_
  refine j_sub hk (lv' := [(0, fk_r g 0), (1, .int p1), (2, .int p2), (3, .int x1)]) [1, 2, 3, 0] rfl ?_
  refine j_iconst (pc := 7) hk dX8_mouthsSo_7 (v := 0) (by decide) ?_
  refine j_istore (lv' := ((4, .int (0 : Int32)) :: [(0, fk_r g 0), (1, .int p1), (2, .int p2), (3, .int x1)])) (pc := 8) hk (by decide) rfl dX8_mouthsSo_8 ?_
  refine j_sub hk (lv' := [(0, fk_r g 0), (1, .int p1), (2, .int p2), (3, .int x1), (4, .int (0 : Int32))]) [1, 2, 3, 4, 0] rfl ?_
  refine j_iconst (pc := 10) hk dX8_mouthsSo_10 (v := 0) (by decide) ?_
  refine j_istore (lv' := ((5, .int (0 : Int32)) :: [(0, fk_r g 0), (1, .int p1), (2, .int p2), (3, .int x1), (4, .int (0 : Int32))])) (pc := 11) hk (by decide) rfl dX8_mouthsSo_11 ?_
  refine j_sub hk (lv' := [(0, fk_r g 0), (1, .int p1), (2, .int p2), (3, .int x1), (4, .int (0 : Int32)), (5, .int (0 : Int32))]) [1, 2, 3, 4, 5, 0] rfl ?_
  exact j_sub hk [0, 1, 2, 3, 4, 5] rfl (L8_mouthsSo_13 hk fk_fuel p1 p2 x1 (0 : Int32) (0 : Int32) st)
theorem dX8_fits_0 : decode cX8_fits 0 = .ok (.aload_n 0, 1) := by decide +kernel
theorem dX8_fits_1 : decode cX8_fits 1 = .ok (.iload_n 3, 1) := by decide +kernel
theorem dX8_fits_2 : decode cX8_fits 2 = .ok (.invokevirtual 99, 3) := by decide +kernel
theorem dX8_fits_5 : decode cX8_fits 5 = .ok (.ifCond .ne 9, 3) := by decide +kernel
theorem dX8_fits_8 : decode cX8_fits 8 = .ok (.aload_n 0, 1) := by decide +kernel
theorem dX8_fits_9 : decode cX8_fits 9 = .ok (.iconst (-1), 1) := by decide +kernel
theorem dX8_fits_10 : decode cX8_fits 10 = .ok (.invokevirtual 81, 3) := by decide +kernel
theorem dX8_fits_13 : decode cX8_fits 13 = .ok (.ireturn, 1) := by decide +kernel
theorem dX8_fits_14 : decode cX8_fits 14 = .ok (.aload_n 0, 1) := by decide +kernel
theorem dX8_fits_15 : decode cX8_fits 15 = .ok (.iload_n 1, 1) := by decide +kernel
theorem dX8_fits_16 : decode cX8_fits 16 = .ok (.iload_n 2, 1) := by decide +kernel
theorem dX8_fits_17 : decode cX8_fits 17 = .ok (.invokevirtual 236, 3) := by decide +kernel
theorem dX8_fits_20 : decode cX8_fits 20 = .ok (.istore 5, 2) := by decide +kernel
theorem dX8_fits_22 : decode cX8_fits 22 = .ok (.iload 5, 2) := by decide +kernel
theorem dX8_fits_24 : decode cX8_fits 24 = .ok (.ifCond .ge 10, 3) := by decide +kernel
theorem dX8_fits_27 : decode cX8_fits 27 = .ok (.aload_n 0, 1) := by decide +kernel
theorem dX8_fits_28 : decode cX8_fits 28 = .ok (.iload 5, 2) := by decide +kernel
theorem dX8_fits_30 : decode cX8_fits 30 = .ok (.invokevirtual 81, 3) := by decide +kernel
theorem dX8_fits_33 : decode cX8_fits 33 = .ok (.ireturn, 1) := by decide +kernel
theorem dX8_fits_34 : decode cX8_fits 34 = .ok (.iload 4, 2) := by decide +kernel
theorem dX8_fits_36 : decode cX8_fits 36 = .ok (.iconst 0, 1) := by decide +kernel
theorem dX8_fits_37 : decode cX8_fits 37 = .ok (.iconst 2, 1) := by decide +kernel
theorem dX8_fits_38 : decode cX8_fits 38 = .ok (.invokestatic 88, 3) := by decide +kernel
theorem dX8_fits_41 : decode cX8_fits 41 = .ok (.ifCond .ne 10, 3) := by decide +kernel
theorem dX8_fits_44 : decode cX8_fits 44 = .ok (.aload_n 0, 1) := by decide +kernel
theorem dX8_fits_45 : decode cX8_fits 45 = .ok (.bipush (-5), 2) := by decide +kernel
theorem dX8_fits_47 : decode cX8_fits 47 = .ok (.invokevirtual 81, 3) := by decide +kernel
theorem dX8_fits_50 : decode cX8_fits 50 = .ok (.ireturn, 1) := by decide +kernel
theorem dX8_fits_51 : decode cX8_fits 51 = .ok (.aload_n 0, 1) := by decide +kernel
theorem dX8_fits_52 : decode cX8_fits 52 = .ok (.iload_n 1, 1) := by decide +kernel
theorem dX8_fits_53 : decode cX8_fits 53 = .ok (.iconst 0, 1) := by decide +kernel
theorem dX8_fits_54 : decode cX8_fits 54 = .ok (.invokevirtual 221, 3) := by decide +kernel
theorem dX8_fits_57 : decode cX8_fits 57 = .ok (.ifCond .ne 10, 3) := by decide +kernel
theorem dX8_fits_60 : decode cX8_fits 60 = .ok (.aload_n 0, 1) := by decide +kernel
theorem dX8_fits_61 : decode cX8_fits 61 = .ok (.bipush (-6), 2) := by decide +kernel
theorem dX8_fits_63 : decode cX8_fits 63 = .ok (.invokevirtual 81, 3) := by decide +kernel
theorem dX8_fits_66 : decode cX8_fits 66 = .ok (.ireturn, 1) := by decide +kernel
theorem dX8_fits_67 : decode cX8_fits 67 = .ok (.iload 4, 2) := by decide +kernel
theorem dX8_fits_69 : decode cX8_fits 69 = .ok (.ifCond .ne 12, 3) := by decide +kernel
theorem dX8_fits_72 : decode cX8_fits 72 = .ok (.aload_n 0, 1) := by decide +kernel
theorem dX8_fits_73 : decode cX8_fits 73 = .ok (.iload_n 3, 1) := by decide +kernel
theorem dX8_fits_74 : decode cX8_fits 74 = .ok (.iload_n 2, 1) := by decide +kernel
theorem dX8_fits_75 : decode cX8_fits 75 = .ok (.invokevirtual 239, 3) := by decide +kernel
theorem dX8_fits_78 : decode cX8_fits 78 = .ok (.goto 24, 3) := by decide +kernel
theorem dX8_fits_81 : decode cX8_fits 81 = .ok (.iload 4, 2) := by decide +kernel
theorem dX8_fits_83 : decode cX8_fits 83 = .ok (.iconst 1, 1) := by decide +kernel
theorem dX8_fits_84 : decode cX8_fits 84 = .ok (.if_icmp .ne 12, 3) := by decide +kernel
theorem dX8_fits_87 : decode cX8_fits 87 = .ok (.aload_n 0, 1) := by decide +kernel
theorem dX8_fits_88 : decode cX8_fits 88 = .ok (.iload_n 3, 1) := by decide +kernel
theorem dX8_fits_89 : decode cX8_fits 89 = .ok (.iload_n 2, 1) := by decide +kernel
theorem dX8_fits_90 : decode cX8_fits 90 = .ok (.invokevirtual 242, 3) := by decide +kernel
theorem dX8_fits_93 : decode cX8_fits 93 = .ok (.goto 9, 3) := by decide +kernel
theorem dX8_fits_96 : decode cX8_fits 96 = .ok (.aload_n 0, 1) := by decide +kernel
theorem dX8_fits_97 : decode cX8_fits 97 = .ok (.iload_n 3, 1) := by decide +kernel
theorem dX8_fits_98 : decode cX8_fits 98 = .ok (.iload_n 2, 1) := by decide +kernel
theorem dX8_fits_99 : decode cX8_fits 99 = .ok (.invokevirtual 245, 3) := by decide +kernel
theorem dX8_fits_102 : decode cX8_fits 102 = .ok (.ireturn, 1) := by decide +kernel
def F8_fits (p1 : Int32) (p2 : Int32) (p3 : Int32) (p4 : Int32) (st : fkS) : Option (Int32 × fkS) :=
 fk_bind (F8_isBird p3 st) <| fun x1 st2 =>
 if x1 = 0 then
 (fk_bind (F8_no (-1 : Int32) st2) <| fun x3 st4 =>
 some (x3, st4))
 else
 (fk_bind (F8_noRows p1 p2 st2) <| fun x5 st6 =>
 if 0 ≤ x5 then
 (fk_bind (F8_within p4 (0 : Int32) (2 : Int32) st6) <| fun x7 st8 =>
 if x7 = 0 then
 (fk_bind (F8_no (-5 : Int32) st8) <| fun x9 st10 =>
 some (x9, st10))
 else
 (fk_bind (F8_isPie p1 (0 : Int32) st8) <| fun x11 st12 =>
 if x11 = 0 then
 (fk_bind (F8_no (-6 : Int32) st12) <| fun x13 st14 =>
 some (x13, st14))
 else
 (if p4 = 0 then
 (fk_bind (F8_kindsSo p3 p2 st12) <| fun x15 st16 =>
 some (x15, st16))
 else
 (if p4 = (1 : Int32) then
 (fk_bind (F8_heatsSo p3 p2 st12) <| fun x17 st18 =>
 some (x17, st18))
 else
 (fk_bind (F8_mouthsSo p3 p2 st12) <| fun x19 st20 =>
 some (x19, st20))))))
 else
 (fk_bind (F8_no x5 st6) <| fun x21 st22 =>
 some (x21, st22)))
set_option maxHeartbeats 1000000 in
set_option maxRecDepth 20000 in
theorem C8_fits (p1 : Int32) (p2 : Int32) (p3 : Int32) (p4 : Int32) (st : fkS) {g : fkG} (l : Launch) (o : Int32 × fkS) (hF : F8_fits p1 p2 p3 p4 st = some o) : fk_C wM yX8_fits cX8_fits 6 (some (.int)) 6 171 l g [fk_r g 0, .int p1, .int p2, .int p3, .int p4] st (fk_eI o.1) o.2 := by
  refine fk_begin rfl (Nat.le_of_ble_eq_true rfl) (fun k hk => ?_) o hF
  have hk : fk_ok wM g k RX8 cX8_fits 6 (some (.int)) 6 171 := hk
  show fk_J wM g fk_eI k 0 [(0, fk_r g 0), (1, .int p1), (2, .int p2), (3, .int p3), (4, .int p4)] [] st (F8_fits p1 p2 p3 p4 st)
  unfold F8_fits
  refine j_aload_n (pc := 0) hk 0 rfl ⟨_, rfl⟩ dX8_fits_0 ?_
  refine j_iload_n (pc := 1) hk 3 rfl dX8_fits_1 ?_
  refine j_callVi (pc := 2) hk [.int p3] [] rfl (fun l o hq9 => C8_isBird p3 st l o hq9) (rcv_8 (rfl)) yv_X8_isBird ml_8_99 rfl (Nat.le_of_ble_eq_true rfl) (Nat.le_of_ble_eq_true rfl) (Nat.le_of_ble_eq_true rfl) dX8_fits_2 (fun x1 st2 => ?_)
  refine j_if_ne (tgt := 14) (pc := 5) hk (by decide) dX8_fits_5 (fun _ => ?_) (fun _ => ?_)
  · refine j_aload_n (pc := 8) hk 0 rfl ⟨_, rfl⟩ dX8_fits_8 ?_
    refine j_iconst (pc := 9) hk dX8_fits_9 (v := -1) (by decide) ?_
    refine j_callVi (pc := 10) hk [.int (-1 : Int32)] [] rfl (fun l o hq9 => C8_no (-1 : Int32) st2 l o hq9) (rcv_8 (rfl)) yv_X8_no ml_8_81 rfl (Nat.le_of_ble_eq_true rfl) (Nat.le_of_ble_eq_true rfl) (Nat.le_of_ble_eq_true rfl) dX8_fits_10 (fun x3 st4 => ?_)
    exact j_iret (pc := 13) hk dX8_fits_13
  · refine j_aload_n (pc := 14) hk 0 rfl ⟨_, rfl⟩ dX8_fits_14 ?_
    refine j_iload_n (pc := 15) hk 1 rfl dX8_fits_15 ?_
    refine j_iload_n (pc := 16) hk 2 rfl dX8_fits_16 ?_
    refine j_callVi (pc := 17) hk [.int p1, .int p2] [] rfl (fun l o hq9 => C8_noRows p1 p2 st2 l o hq9) (rcv_8 (rfl)) yv_X8_noRows ml_8_236 rfl (Nat.le_of_ble_eq_true rfl) (Nat.le_of_ble_eq_true rfl) (Nat.le_of_ble_eq_true rfl) dX8_fits_17 (fun x5 st6 => ?_)
    refine j_istore (lv' := ((5, .int x5) :: [(0, fk_r g 0), (1, .int p1), (2, .int p2), (3, .int p3), (4, .int p4)])) (pc := 20) hk (by decide) rfl dX8_fits_20 ?_
    refine j_sub hk (lv' := [(0, fk_r g 0), (1, .int p1), (2, .int p2), (3, .int p3), (4, .int p4), (5, .int x5)]) [1, 2, 3, 4, 5, 0] rfl ?_
    refine j_iload (pc := 22) hk 5 rfl dX8_fits_22 ?_
    refine j_if_ge (tgt := 34) (pc := 24) hk (by decide) dX8_fits_24 (fun _ => ?_) (fun _ => ?_)
    · refine j_iload (pc := 34) hk 4 rfl dX8_fits_34 ?_
      refine j_iconst (pc := 36) hk dX8_fits_36 (v := 0) (by decide) ?_
      refine j_iconst (pc := 37) hk dX8_fits_37 (v := 2) (by decide) ?_
      refine j_callSi (pc := 38) hk [.int p4, .int (0 : Int32), .int (2 : Int32)] [] rfl (fun l o hq9 => C8_within p4 (0 : Int32) (2 : Int32) st6 l o hq9) yv_X8_within ml_8_88 rfl (Nat.le_of_ble_eq_true rfl) (Nat.le_of_ble_eq_true rfl) (Nat.le_of_ble_eq_true rfl) dX8_fits_38 (fun x7 st8 => ?_)
      refine j_if_ne (tgt := 51) (pc := 41) hk (by decide) dX8_fits_41 (fun _ => ?_) (fun _ => ?_)
      · refine j_aload_n (pc := 44) hk 0 rfl ⟨_, rfl⟩ dX8_fits_44 ?_
        refine j_bipush (pc := 45) hk dX8_fits_45 (v := -5) (by decide) ?_
        refine j_callVi (pc := 47) hk [.int (-5 : Int32)] [] rfl (fun l o hq9 => C8_no (-5 : Int32) st8 l o hq9) (rcv_8 (rfl)) yv_X8_no ml_8_81 rfl (Nat.le_of_ble_eq_true rfl) (Nat.le_of_ble_eq_true rfl) (Nat.le_of_ble_eq_true rfl) dX8_fits_47 (fun x9 st10 => ?_)
        exact j_iret (pc := 50) hk dX8_fits_50
      · refine j_aload_n (pc := 51) hk 0 rfl ⟨_, rfl⟩ dX8_fits_51 ?_
        refine j_iload_n (pc := 52) hk 1 rfl dX8_fits_52 ?_
        refine j_iconst (pc := 53) hk dX8_fits_53 (v := 0) (by decide) ?_
        refine j_callVi (pc := 54) hk [.int p1, .int (0 : Int32)] [] rfl (fun l o hq9 => C8_isPie p1 (0 : Int32) st8 l o hq9) (rcv_8 (rfl)) yv_X8_isPie ml_8_221 rfl (Nat.le_of_ble_eq_true rfl) (Nat.le_of_ble_eq_true rfl) (Nat.le_of_ble_eq_true rfl) dX8_fits_54 (fun x11 st12 => ?_)
        refine j_if_ne (tgt := 67) (pc := 57) hk (by decide) dX8_fits_57 (fun _ => ?_) (fun _ => ?_)
        · refine j_aload_n (pc := 60) hk 0 rfl ⟨_, rfl⟩ dX8_fits_60 ?_
          refine j_bipush (pc := 61) hk dX8_fits_61 (v := -6) (by decide) ?_
          refine j_callVi (pc := 63) hk [.int (-6 : Int32)] [] rfl (fun l o hq9 => C8_no (-6 : Int32) st12 l o hq9) (rcv_8 (rfl)) yv_X8_no ml_8_81 rfl (Nat.le_of_ble_eq_true rfl) (Nat.le_of_ble_eq_true rfl) (Nat.le_of_ble_eq_true rfl) dX8_fits_63 (fun x13 st14 => ?_)
          exact j_iret (pc := 66) hk dX8_fits_66
        · refine j_iload (pc := 67) hk 4 rfl dX8_fits_67 ?_
          refine j_if_ne (tgt := 81) (pc := 69) hk (by decide) dX8_fits_69 (fun _ => ?_) (fun _ => ?_)
          · refine j_aload_n (pc := 72) hk 0 rfl ⟨_, rfl⟩ dX8_fits_72 ?_
            refine j_iload_n (pc := 73) hk 3 rfl dX8_fits_73 ?_
            refine j_iload_n (pc := 74) hk 2 rfl dX8_fits_74 ?_
            refine j_callVi (pc := 75) hk [.int p3, .int p2] [] rfl (fun l o hq9 => C8_kindsSo p3 p2 st12 l o hq9) (rcv_8 (rfl)) yv_X8_kindsSo ml_8_239 rfl (Nat.le_of_ble_eq_true rfl) (Nat.le_of_ble_eq_true rfl) (Nat.le_of_ble_eq_true rfl) dX8_fits_75 (fun x15 st16 => ?_)
            refine j_goto (tgt := 102) (pc := 78) hk (by decide) dX8_fits_78 ?_
            exact j_iret (pc := 102) hk dX8_fits_102
          · refine j_iload (pc := 81) hk 4 rfl dX8_fits_81 ?_
            refine j_iconst (pc := 83) hk dX8_fits_83 (v := 1) (by decide) ?_
            refine j_icmp_ne (tgt := 96) (pc := 84) hk (by decide) dX8_fits_84 (fun _ => ?_) (fun _ => ?_)
            · refine j_aload_n (pc := 87) hk 0 rfl ⟨_, rfl⟩ dX8_fits_87 ?_
              refine j_iload_n (pc := 88) hk 3 rfl dX8_fits_88 ?_
              refine j_iload_n (pc := 89) hk 2 rfl dX8_fits_89 ?_
              refine j_callVi (pc := 90) hk [.int p3, .int p2] [] rfl (fun l o hq9 => C8_heatsSo p3 p2 st12 l o hq9) (rcv_8 (rfl)) yv_X8_heatsSo ml_8_242 rfl (Nat.le_of_ble_eq_true rfl) (Nat.le_of_ble_eq_true rfl) (Nat.le_of_ble_eq_true rfl) dX8_fits_90 (fun x17 st18 => ?_)
              refine j_goto (tgt := 102) (pc := 93) hk (by decide) dX8_fits_93 ?_
              exact j_iret (pc := 102) hk dX8_fits_102
            · refine j_aload_n (pc := 96) hk 0 rfl ⟨_, rfl⟩ dX8_fits_96 ?_
              refine j_iload_n (pc := 97) hk 3 rfl dX8_fits_97 ?_
              refine j_iload_n (pc := 98) hk 2 rfl dX8_fits_98 ?_
              refine j_callVi (pc := 99) hk [.int p3, .int p2] [] rfl (fun l o hq9 => C8_mouthsSo p3 p2 st12 l o hq9) (rcv_8 (rfl)) yv_X8_mouthsSo ml_8_245 rfl (Nat.le_of_ble_eq_true rfl) (Nat.le_of_ble_eq_true rfl) (Nat.le_of_ble_eq_true rfl) dX8_fits_99 (fun x19 st20 => ?_)
              exact j_iret (pc := 102) hk dX8_fits_102
    · refine j_aload_n (pc := 27) hk 0 rfl ⟨_, rfl⟩ dX8_fits_27 ?_
      refine j_iload (pc := 28) hk 5 rfl dX8_fits_28 ?_
      refine j_callVi (pc := 30) hk [.int x5] [] rfl (fun l o hq9 => C8_no x5 st6 l o hq9) (rcv_8 (rfl)) yv_X8_no ml_8_81 rfl (Nat.le_of_ble_eq_true rfl) (Nat.le_of_ble_eq_true rfl) (Nat.le_of_ble_eq_true rfl) dX8_fits_30 (fun x21 st22 => ?_)
      exact j_iret (pc := 33) hk dX8_fits_33
theorem dX8_pies_0 : decode cX8_pies 0 = .ok (.aload_n 0, 1) := by decide +kernel
theorem dX8_pies_1 : decode cX8_pies 1 = .ok (.iload_n 1, 1) := by decide +kernel
theorem dX8_pies_2 : decode cX8_pies 2 = .ok (.iload_n 2, 1) := by decide +kernel
theorem dX8_pies_3 : decode cX8_pies 3 = .ok (.invokevirtual 218, 3) := by decide +kernel
theorem dX8_pies_6 : decode cX8_pies 6 = .ok (.istore 5, 2) := by decide +kernel
theorem dX8_pies_8 : decode cX8_pies 8 = .ok (.iload 5, 2) := by decide +kernel
theorem dX8_pies_10 : decode cX8_pies 10 = .ok (.ifCond .ge 10, 3) := by decide +kernel
theorem dX8_pies_13 : decode cX8_pies 13 = .ok (.aload_n 0, 1) := by decide +kernel
theorem dX8_pies_14 : decode cX8_pies 14 = .ok (.iload 5, 2) := by decide +kernel
theorem dX8_pies_16 : decode cX8_pies 16 = .ok (.invokevirtual 105, 3) := by decide +kernel
theorem dX8_pies_19 : decode cX8_pies 19 = .ok (.ireturn, 1) := by decide +kernel
theorem dX8_pies_20 : decode cX8_pies 20 = .ok (.iload_n 3, 1) := by decide +kernel
theorem dX8_pies_21 : decode cX8_pies 21 = .ok (.iconst 0, 1) := by decide +kernel
theorem dX8_pies_22 : decode cX8_pies 22 = .ok (.iconst 3, 1) := by decide +kernel
theorem dX8_pies_23 : decode cX8_pies 23 = .ok (.invokestatic 88, 3) := by decide +kernel
theorem dX8_pies_26 : decode cX8_pies 26 = .ok (.ifCond .ne 10, 3) := by decide +kernel
theorem dX8_pies_29 : decode cX8_pies 29 = .ok (.aload_n 0, 1) := by decide +kernel
theorem dX8_pies_30 : decode cX8_pies 30 = .ok (.bipush (-6), 2) := by decide +kernel
theorem dX8_pies_32 : decode cX8_pies 32 = .ok (.invokevirtual 105, 3) := by decide +kernel
theorem dX8_pies_35 : decode cX8_pies 35 = .ok (.ireturn, 1) := by decide +kernel
theorem dX8_pies_36 : decode cX8_pies 36 = .ok (.iload 4, 2) := by decide +kernel
theorem dX8_pies_38 : decode cX8_pies 38 = .ok (.iconst (-1), 1) := by decide +kernel
theorem dX8_pies_39 : decode cX8_pies 39 = .ok (.if_icmp .eq 22, 3) := by decide +kernel
theorem dX8_pies_42 : decode cX8_pies 42 = .ok (.iload 4, 2) := by decide +kernel
theorem dX8_pies_44 : decode cX8_pies 44 = .ok (.iconst 0, 1) := by decide +kernel
theorem dX8_pies_45 : decode cX8_pies 45 = .ok (.iload_n 3, 1) := by decide +kernel
theorem dX8_pies_46 : decode cX8_pies 46 = .ok (.iconst 1, 1) := by decide +kernel
theorem dX8_pies_47 : decode cX8_pies 47 = .ok (.isub, 1) := by decide +kernel
theorem dX8_pies_48 : decode cX8_pies 48 = .ok (.invokestatic 88, 3) := by decide +kernel
theorem dX8_pies_51 : decode cX8_pies 51 = .ok (.ifCond .ne 10, 3) := by decide +kernel
theorem dX8_pies_54 : decode cX8_pies 54 = .ok (.aload_n 0, 1) := by decide +kernel
theorem dX8_pies_55 : decode cX8_pies 55 = .ok (.bipush (-5), 2) := by decide +kernel
theorem dX8_pies_57 : decode cX8_pies 57 = .ok (.invokevirtual 105, 3) := by decide +kernel
theorem dX8_pies_60 : decode cX8_pies 60 = .ok (.ireturn, 1) := by decide +kernel
theorem dX8_pies_61 : decode cX8_pies 61 = .ok (.iconst 0, 1) := by decide +kernel
theorem dX8_pies_62 : decode cX8_pies 62 = .ok (.istore 6, 2) := by decide +kernel
theorem dX8_pies_64 : decode cX8_pies 64 = .ok (.iconst (-1), 1) := by decide +kernel
theorem dX8_pies_65 : decode cX8_pies 65 = .ok (.istore 7, 2) := by decide +kernel
theorem dX8_pies_67 : decode cX8_pies 67 = .ok (.iload_n 3, 1) := by decide +kernel
theorem dX8_pies_68 : decode cX8_pies 68 = .ok (.invokestatic 227, 3) := by decide +kernel
theorem dX8_pies_71 : decode cX8_pies 71 = .ok (.iconst 1, 1) := by decide +kernel
theorem dX8_pies_72 : decode cX8_pies 72 = .ok (.isub, 1) := by decide +kernel
theorem dX8_pies_73 : decode cX8_pies 73 = .ok (.istore 8, 2) := by decide +kernel
theorem dX8_pies_75 : decode cX8_pies 75 = .ok (.iload 8, 2) := by decide +kernel
theorem dX8_pies_77 : decode cX8_pies 77 = .ok (.ifCond .lt 35, 3) := by decide +kernel
theorem dX8_pies_80 : decode cX8_pies 80 = .ok (.aload_n 0, 1) := by decide +kernel
theorem dX8_pies_81 : decode cX8_pies 81 = .ok (.iload_n 3, 1) := by decide +kernel
theorem dX8_pies_82 : decode cX8_pies 82 = .ok (.iload 8, 2) := by decide +kernel
theorem dX8_pies_84 : decode cX8_pies 84 = .ok (.invokevirtual 230, 3) := by decide +kernel
theorem dX8_pies_87 : decode cX8_pies 87 = .ok (.aload_n 0, 1) := by decide +kernel
theorem dX8_pies_88 : decode cX8_pies 88 = .ok (.iload_n 2, 1) := by decide +kernel
theorem dX8_pies_89 : decode cX8_pies 89 = .ok (.iload_n 1, 1) := by decide +kernel
theorem dX8_pies_90 : decode cX8_pies 90 = .ok (.invokevirtual 233, 3) := by decide +kernel
theorem dX8_pies_93 : decode cX8_pies 93 = .ok (.ifCond .ne 6, 3) := by decide +kernel
theorem dX8_pies_96 : decode cX8_pies 96 = .ok (.goto 10, 3) := by decide +kernel
theorem dX8_pies_99 : decode cX8_pies 99 = .ok (.iinc 6 1, 3) := by decide +kernel
theorem dX8_pies_102 : decode cX8_pies 102 = .ok (.iload 8, 2) := by decide +kernel
theorem dX8_pies_104 : decode cX8_pies 104 = .ok (.istore 7, 2) := by decide +kernel
theorem dX8_pies_106 : decode cX8_pies 106 = .ok (.iinc 8 (-1), 3) := by decide +kernel
theorem dX8_pies_109 : decode cX8_pies 109 = .ok (.goto (-34), 3) := by decide +kernel
theorem dX8_pies_112 : decode cX8_pies 112 = .ok (.iload 4, 2) := by decide +kernel
theorem dX8_pies_114 : decode cX8_pies 114 = .ok (.iconst (-1), 1) := by decide +kernel
theorem dX8_pies_115 : decode cX8_pies 115 = .ok (.if_icmp .ne 6, 3) := by decide +kernel
theorem dX8_pies_118 : decode cX8_pies 118 = .ok (.iload 6, 2) := by decide +kernel
theorem dX8_pies_120 : decode cX8_pies 120 = .ok (.ireturn, 1) := by decide +kernel
theorem dX8_pies_121 : decode cX8_pies 121 = .ok (.iload 7, 2) := by decide +kernel
theorem dX8_pies_123 : decode cX8_pies 123 = .ok (.iconst (-1), 1) := by decide +kernel
theorem dX8_pies_124 : decode cX8_pies 124 = .ok (.if_icmp .ne 5, 3) := by decide +kernel
theorem dX8_pies_127 : decode cX8_pies 127 = .ok (.iconst (-1), 1) := by decide +kernel
theorem dX8_pies_128 : decode cX8_pies 128 = .ok (.ireturn, 1) := by decide +kernel
theorem dX8_pies_129 : decode cX8_pies 129 = .ok (.aload_n 0, 1) := by decide +kernel
theorem dX8_pies_130 : decode cX8_pies 130 = .ok (.iload_n 3, 1) := by decide +kernel
theorem dX8_pies_131 : decode cX8_pies 131 = .ok (.iload 7, 2) := by decide +kernel
theorem dX8_pies_133 : decode cX8_pies 133 = .ok (.invokevirtual 230, 3) := by decide +kernel
theorem dX8_pies_136 : decode cX8_pies 136 = .ok (.aload_n 0, 1) := by decide +kernel
theorem dX8_pies_137 : decode cX8_pies 137 = .ok (.getfield 50, 3) := by decide +kernel
theorem dX8_pies_140 : decode cX8_pies 140 = .ok (.iload 4, 2) := by decide +kernel
theorem dX8_pies_142 : decode cX8_pies 142 = .ok (.iaload, 1) := by decide +kernel
theorem dX8_pies_143 : decode cX8_pies 143 = .ok (.ireturn, 1) := by decide +kernel
def B8_pies_106 (k75 : Int32 → Int32 → Int32 → Int32 → Int32 → Int32 → Int32 → fkS → Option (Int32 × fkS)) (v1 : Int32) (v2 : Int32) (v3 : Int32) (v4 : Int32) (v6 : Int32) (v7 : Int32) (v8 : Int32) (st : fkS) : Option (Int32 × fkS) :=
 k75 v1 v2 v3 v4 v6 v7 (v8 + (-1 : Int32)) st
set_option maxHeartbeats 1000000 in
set_option maxRecDepth 20000 in
theorem T8_pies_106 {g : fkG} {k : fkK} (hk : fk_ok wM g k RX8 cX8_pies 9 (some (.int)) 5 146) (k75 : Int32 → Int32 → Int32 → Int32 → Int32 → Int32 → Int32 → fkS → Option (Int32 × fkS)) (H75 : ∀ (v1 : Int32) (v2 : Int32) (v3 : Int32) (v4 : Int32) (v6 : Int32) (v7 : Int32) (v8 : Int32) (st : fkS), fk_J wM g fk_eI k 75 [(0, fk_r g 0), (1, .int v1), (2, .int v2), (3, .int v3), (4, .int v4), (6, .int v6), (7, .int v7), (8, .int v8)] [] st (k75 v1 v2 v3 v4 v6 v7 v8 st)) : ∀ (v1 : Int32) (v2 : Int32) (v3 : Int32) (v4 : Int32) (v6 : Int32) (v7 : Int32) (v8 : Int32) (st : fkS), fk_J wM g fk_eI k 106 [(0, fk_r g 0), (1, .int v1), (2, .int v2), (3, .int v3), (4, .int v4), (6, .int v6), (7, .int v7), (8, .int v8)] [] st (B8_pies_106 k75 v1 v2 v3 v4 v6 v7 v8 st) := by
  intro v1 v2 v3 v4 v6 v7 v8 st
  unfold B8_pies_106
  refine j_iinc (dd := (-1 : Int32)) (lv' := ((8, .int (v8 + (-1 : Int32))) :: [(0, fk_r g 0), (1, .int v1), (2, .int v2), (3, .int v3), (4, .int v4), (6, .int v6), (7, .int v7)])) (pc := 106) hk 7 rfl (by decide) (by decide) rfl dX8_pies_106 ?_
  refine j_sub hk (lv' := [(0, fk_r g 0), (1, .int v1), (2, .int v2), (3, .int v3), (4, .int v4), (6, .int v6), (7, .int v7), (8, .int (v8 + (-1 : Int32)))]) [1, 2, 3, 4, 5, 6, 7, 0] rfl ?_
  refine j_goto (tgt := 75) (pc := 109) hk (by decide) dX8_pies_109 ?_
  exact j_sub hk [0, 1, 2, 3, 4, 5, 6, 7] rfl (H75 v1 v2 v3 v4 v6 v7 (v8 + (-1 : Int32)) st)
def B8_pies_75 (k75 : Int32 → Int32 → Int32 → Int32 → Int32 → Int32 → Int32 → fkS → Option (Int32 × fkS)) (v1 : Int32) (v2 : Int32) (v3 : Int32) (v4 : Int32) (v6 : Int32) (v7 : Int32) (v8 : Int32) (st : fkS) : Option (Int32 × fkS) :=
 if v8 < 0 then
 (if v4 = (-1 : Int32) then
 (some (v6, st))
 else
 (if v7 = (-1 : Int32) then
 (some ((-1 : Int32), st))
 else
 (fk_bind (F8_lays v3 v7 st) <| fun _ st15 =>
 fk_chk (fk_in v4 8) <| fk_let (gA st15 14 v4.toNatClampNeg) <| fun x16 =>
 some (x16, st15))))
 else
 (fk_bind (F8_lays v3 v8 st) <| fun _ st17 =>
 fk_bind (F8_isSaid v2 v1 st17) <| fun x18 st19 =>
 if x18 = 0 then
 (B8_pies_106 k75 v1 v2 v3 v4 v6 v7 v8 st19)
 else
 (B8_pies_106 k75 v1 v2 v3 v4 (v6 + (1 : Int32)) v8 v8 st19))
set_option maxHeartbeats 1000000 in
set_option maxRecDepth 20000 in
theorem T8_pies_75 {g : fkG} {k : fkK} (hk : fk_ok wM g k RX8 cX8_pies 9 (some (.int)) 5 146) (k75 : Int32 → Int32 → Int32 → Int32 → Int32 → Int32 → Int32 → fkS → Option (Int32 × fkS)) (H75 : ∀ (v1 : Int32) (v2 : Int32) (v3 : Int32) (v4 : Int32) (v6 : Int32) (v7 : Int32) (v8 : Int32) (st : fkS), fk_J wM g fk_eI k 75 [(0, fk_r g 0), (1, .int v1), (2, .int v2), (3, .int v3), (4, .int v4), (6, .int v6), (7, .int v7), (8, .int v8)] [] st (k75 v1 v2 v3 v4 v6 v7 v8 st)) : ∀ (v1 : Int32) (v2 : Int32) (v3 : Int32) (v4 : Int32) (v6 : Int32) (v7 : Int32) (v8 : Int32) (st : fkS), fk_J wM g fk_eI k 75 [(0, fk_r g 0), (1, .int v1), (2, .int v2), (3, .int v3), (4, .int v4), (6, .int v6), (7, .int v7), (8, .int v8)] [] st (B8_pies_75 k75 v1 v2 v3 v4 v6 v7 v8 st) := by
  intro v1 v2 v3 v4 v6 v7 v8 st
  unfold B8_pies_75
  refine j_iload (pc := 75) hk 7 rfl dX8_pies_75 ?_
  refine j_if_lt (tgt := 112) (pc := 77) hk (by decide) dX8_pies_77 (fun _ => ?_) (fun _ => ?_)
  · refine j_iload (pc := 112) hk 4 rfl dX8_pies_112 ?_
    refine j_iconst (pc := 114) hk dX8_pies_114 (v := -1) (by decide) ?_
    refine j_icmp_ne (tgt := 121) (pc := 115) hk (by decide) dX8_pies_115 (fun _ => ?_) (fun _ => ?_)
    · refine j_iload (pc := 118) hk 5 rfl dX8_pies_118 ?_
      exact j_iret (pc := 120) hk dX8_pies_120
    · refine j_iload (pc := 121) hk 6 rfl dX8_pies_121 ?_
      refine j_iconst (pc := 123) hk dX8_pies_123 (v := -1) (by decide) ?_
      refine j_icmp_ne (tgt := 129) (pc := 124) hk (by decide) dX8_pies_124 (fun _ => ?_) (fun _ => ?_)
      · refine j_iconst (pc := 127) hk dX8_pies_127 (v := -1) (by decide) ?_
        exact j_iret (pc := 128) hk dX8_pies_128
      · refine j_aload_n (pc := 129) hk 0 rfl ⟨_, rfl⟩ dX8_pies_129 ?_
        refine j_iload_n (pc := 130) hk 3 rfl dX8_pies_130 ?_
        refine j_iload (pc := 131) hk 6 rfl dX8_pies_131 ?_
        refine j_callVv (pc := 133) hk [.int v3, .int v7] [] rfl (fun l o hq9 => C8_lays v3 v7 st l o hq9) (rcv_8 (rfl)) yv_X8_lays ml_8_230 rfl (Nat.le_of_ble_eq_true rfl) (Nat.le_of_ble_eq_true rfl) (Nat.le_of_ble_eq_true rfl) dX8_pies_133 (fun _ st15 => ?_)
        refine j_aload_n (pc := 136) hk 0 rfl ⟨_, rfl⟩ dX8_pies_136 ?_
        refine f_8_50 (pc := 137) hk (rfl) dX8_pies_137 ?_
        refine j_iload (pc := 140) hk 4 rfl dX8_pies_140 ?_
        refine a_iload (pc := 142) hk (isI_8_23) dX8_pies_142 (fun x16 => ?_)
        exact j_iret (pc := 143) hk dX8_pies_143
  · refine j_aload_n (pc := 80) hk 0 rfl ⟨_, rfl⟩ dX8_pies_80 ?_
    refine j_iload_n (pc := 81) hk 3 rfl dX8_pies_81 ?_
    refine j_iload (pc := 82) hk 7 rfl dX8_pies_82 ?_
    refine j_callVv (pc := 84) hk [.int v3, .int v8] [] rfl (fun l o hq9 => C8_lays v3 v8 st l o hq9) (rcv_8 (rfl)) yv_X8_lays ml_8_230 rfl (Nat.le_of_ble_eq_true rfl) (Nat.le_of_ble_eq_true rfl) (Nat.le_of_ble_eq_true rfl) dX8_pies_84 (fun _ st17 => ?_)
    refine j_aload_n (pc := 87) hk 0 rfl ⟨_, rfl⟩ dX8_pies_87 ?_
    refine j_iload_n (pc := 88) hk 2 rfl dX8_pies_88 ?_
    refine j_iload_n (pc := 89) hk 1 rfl dX8_pies_89 ?_
    refine j_callVi (pc := 90) hk [.int v2, .int v1] [] rfl (fun l o hq9 => C8_isSaid v2 v1 st17 l o hq9) (rcv_8 (rfl)) yv_X8_isSaid ml_8_233 rfl (Nat.le_of_ble_eq_true rfl) (Nat.le_of_ble_eq_true rfl) (Nat.le_of_ble_eq_true rfl) dX8_pies_90 (fun x18 st19 => ?_)
    refine j_if_ne (tgt := 99) (pc := 93) hk (by decide) dX8_pies_93 (fun _ => ?_) (fun _ => ?_)
    · refine j_goto (tgt := 106) (pc := 96) hk (by decide) dX8_pies_96 ?_
      exact j_sub hk [0, 1, 2, 3, 4, 5, 6, 7] rfl (T8_pies_106 hk k75 H75 v1 v2 v3 v4 v6 v7 v8 st19)
    · refine j_iinc (dd := (1 : Int32)) (lv' := ((6, .int (v6 + (1 : Int32))) :: [(0, fk_r g 0), (1, .int v1), (2, .int v2), (3, .int v3), (4, .int v4), (7, .int v7), (8, .int v8)])) (pc := 99) hk 5 rfl (by decide) (by decide) rfl dX8_pies_99 ?_
      refine j_sub hk (lv' := [(0, fk_r g 0), (1, .int v1), (2, .int v2), (3, .int v3), (4, .int v4), (6, .int (v6 + (1 : Int32))), (7, .int v7), (8, .int v8)]) [1, 2, 3, 4, 5, 0, 6, 7] rfl ?_
      refine j_iload (pc := 102) hk 7 rfl dX8_pies_102 ?_
      refine j_istore (lv' := ((7, .int v8) :: [(0, fk_r g 0), (1, .int v1), (2, .int v2), (3, .int v3), (4, .int v4), (6, .int (v6 + (1 : Int32))), (8, .int v8)])) (pc := 104) hk (by decide) rfl dX8_pies_104 ?_
      refine j_sub hk (lv' := [(0, fk_r g 0), (1, .int v1), (2, .int v2), (3, .int v3), (4, .int v4), (6, .int (v6 + (1 : Int32))), (7, .int v8), (8, .int v8)]) [1, 2, 3, 4, 5, 6, 0, 7] rfl ?_
      exact j_sub hk [0, 1, 2, 3, 4, 5, 6, 7] rfl (T8_pies_106 hk k75 H75 v1 v2 v3 v4 (v6 + (1 : Int32)) v8 v8 st19)
set_option maxHeartbeats 1000000 in
set_option maxRecDepth 20000 in
theorem L8_pies_75 {g : fkG} {k : fkK} (hk : fk_ok wM g k RX8 cX8_pies 9 (some (.int)) 5 146) (fu : Nat) : ∀ (v1 : Int32) (v2 : Int32) (v3 : Int32) (v4 : Int32) (v6 : Int32) (v7 : Int32) (v8 : Int32) (st : fkS), fk_J wM g fk_eI k 75 [(0, fk_r g 0), (1, .int v1), (2, .int v2), (3, .int v3), (4, .int v4), (6, .int v6), (7, .int v7), (8, .int v8)] [] st (fk_lp7 (B8_pies_75) fu v1 v2 v3 v4 v6 v7 v8 st) := by
  induction fu with
  | zero =>
    intro v1 v2 v3 v4 v6 v7 v8 st
    exact j_none hk
  | succ fu ih =>
    exact T8_pies_75 hk _ ih
def B8_pies_61 (v1 : Int32) (v2 : Int32) (v3 : Int32) (v4 : Int32) (st : fkS) : Option (Int32 × fkS) :=
 fk_bind (F8_pow v3 st) <| fun x13 st14 =>
 fk_lp7 (B8_pies_75) fk_fuel v1 v2 v3 v4 (0 : Int32) (-1 : Int32) (x13 - (1 : Int32)) st14
set_option maxHeartbeats 1000000 in
set_option maxRecDepth 20000 in
theorem T8_pies_61 {g : fkG} {k : fkK} (hk : fk_ok wM g k RX8 cX8_pies 9 (some (.int)) 5 146) : ∀ (v1 : Int32) (v2 : Int32) (v3 : Int32) (v4 : Int32) (st : fkS), fk_J wM g fk_eI k 61 [(0, fk_r g 0), (1, .int v1), (2, .int v2), (3, .int v3), (4, .int v4)] [] st (B8_pies_61 v1 v2 v3 v4 st) := by
  intro v1 v2 v3 v4 st
  unfold B8_pies_61
  refine j_iconst (pc := 61) hk dX8_pies_61 (v := 0) (by decide) ?_
  refine j_istore (lv' := ((6, .int (0 : Int32)) :: [(0, fk_r g 0), (1, .int v1), (2, .int v2), (3, .int v3), (4, .int v4)])) (pc := 62) hk (by decide) rfl dX8_pies_62 ?_
  refine j_sub hk (lv' := [(0, fk_r g 0), (1, .int v1), (2, .int v2), (3, .int v3), (4, .int v4), (6, .int (0 : Int32))]) [1, 2, 3, 4, 5, 0] rfl ?_
  refine j_iconst (pc := 64) hk dX8_pies_64 (v := -1) (by decide) ?_
  refine j_istore (lv' := ((7, .int (-1 : Int32)) :: [(0, fk_r g 0), (1, .int v1), (2, .int v2), (3, .int v3), (4, .int v4), (6, .int (0 : Int32))])) (pc := 65) hk (by decide) rfl dX8_pies_65 ?_
  refine j_sub hk (lv' := [(0, fk_r g 0), (1, .int v1), (2, .int v2), (3, .int v3), (4, .int v4), (6, .int (0 : Int32)), (7, .int (-1 : Int32))]) [1, 2, 3, 4, 5, 6, 0] rfl ?_
  refine j_iload_n (pc := 67) hk 3 rfl dX8_pies_67 ?_
  refine j_callSi (pc := 68) hk [.int v3] [] rfl (fun l o hq9 => C8_pow v3 st l o hq9) yv_X8_pow ml_8_227 rfl (Nat.le_of_ble_eq_true rfl) (Nat.le_of_ble_eq_true rfl) (Nat.le_of_ble_eq_true rfl) dX8_pies_68 (fun x13 st14 => ?_)
  refine j_iconst (pc := 71) hk dX8_pies_71 (v := 1) (by decide) ?_
  refine j_isub (pc := 72) hk dX8_pies_72 ?_
  refine j_istore (lv' := ((8, .int (x13 - (1 : Int32))) :: [(0, fk_r g 0), (1, .int v1), (2, .int v2), (3, .int v3), (4, .int v4), (6, .int (0 : Int32)), (7, .int (-1 : Int32))])) (pc := 73) hk (by decide) rfl dX8_pies_73 ?_
  refine j_sub hk (lv' := [(0, fk_r g 0), (1, .int v1), (2, .int v2), (3, .int v3), (4, .int v4), (6, .int (0 : Int32)), (7, .int (-1 : Int32)), (8, .int (x13 - (1 : Int32)))]) [1, 2, 3, 4, 5, 6, 7, 0] rfl ?_
  exact j_sub hk [0, 1, 2, 3, 4, 5, 6, 7] rfl (L8_pies_75 hk fk_fuel v1 v2 v3 v4 (0 : Int32) (-1 : Int32) (x13 - (1 : Int32)) st14)
def F8_pies (p1 : Int32) (p2 : Int32) (p3 : Int32) (p4 : Int32) (st : fkS) : Option (Int32 × fkS) :=
 fk_bind (F8_noPie p1 p2 st) <| fun x1 st2 =>
 if 0 ≤ x1 then
 (fk_bind (F8_within p3 (0 : Int32) (3 : Int32) st2) <| fun x3 st4 =>
 if x3 = 0 then
 (fk_bind (F8_no10 (-6 : Int32) st4) <| fun x5 st6 =>
 some (x5, st6))
 else
 (if p4 = (-1 : Int32) then
 (B8_pies_61 p1 p2 p3 p4 st4)
 else
 (fk_bind (F8_within p4 (0 : Int32) (p3 - (1 : Int32)) st4) <| fun x7 st8 =>
 if x7 = 0 then
 (fk_bind (F8_no10 (-5 : Int32) st8) <| fun x9 st10 =>
 some (x9, st10))
 else
 (B8_pies_61 p1 p2 p3 p4 st8))))
 else
 (fk_bind (F8_no10 x1 st2) <| fun x11 st12 =>
 some (x11, st12))
set_option maxHeartbeats 1000000 in
set_option maxRecDepth 20000 in
theorem C8_pies (p1 : Int32) (p2 : Int32) (p3 : Int32) (p4 : Int32) (st : fkS) {g : fkG} (l : Launch) (o : Int32 × fkS) (hF : F8_pies p1 p2 p3 p4 st = some o) : fk_C wM yX8_pies cX8_pies 9 (some (.int)) 5 146 l g [fk_r g 0, .int p1, .int p2, .int p3, .int p4] st (fk_eI o.1) o.2 := by
  refine fk_begin rfl (Nat.le_of_ble_eq_true rfl) (fun k hk => ?_) o hF
  have hk : fk_ok wM g k RX8 cX8_pies 9 (some (.int)) 5 146 := hk
  show fk_J wM g fk_eI k 0 [(0, fk_r g 0), (1, .int p1), (2, .int p2), (3, .int p3), (4, .int p4)] [] st (F8_pies p1 p2 p3 p4 st)
  unfold F8_pies
  refine j_aload_n (pc := 0) hk 0 rfl ⟨_, rfl⟩ dX8_pies_0 ?_
  refine j_iload_n (pc := 1) hk 1 rfl dX8_pies_1 ?_
  refine j_iload_n (pc := 2) hk 2 rfl dX8_pies_2 ?_
  refine j_callVi (pc := 3) hk [.int p1, .int p2] [] rfl (fun l o hq9 => C8_noPie p1 p2 st l o hq9) (rcv_8 (rfl)) yv_X8_noPie ml_8_218 rfl (Nat.le_of_ble_eq_true rfl) (Nat.le_of_ble_eq_true rfl) (Nat.le_of_ble_eq_true rfl) dX8_pies_3 (fun x1 st2 => ?_)
  refine j_istore (lv' := ((5, .int x1) :: [(0, fk_r g 0), (1, .int p1), (2, .int p2), (3, .int p3), (4, .int p4)])) (pc := 6) hk (by decide) rfl dX8_pies_6 ?_
  refine j_sub hk (lv' := [(0, fk_r g 0), (1, .int p1), (2, .int p2), (3, .int p3), (4, .int p4), (5, .int x1)]) [1, 2, 3, 4, 5, 0] rfl ?_
  refine j_iload (pc := 8) hk 5 rfl dX8_pies_8 ?_
  refine j_if_ge (tgt := 20) (pc := 10) hk (by decide) dX8_pies_10 (fun _ => ?_) (fun _ => ?_)
  · refine j_iload_n (pc := 20) hk 3 rfl dX8_pies_20 ?_
    refine j_iconst (pc := 21) hk dX8_pies_21 (v := 0) (by decide) ?_
    refine j_iconst (pc := 22) hk dX8_pies_22 (v := 3) (by decide) ?_
    refine j_callSi (pc := 23) hk [.int p3, .int (0 : Int32), .int (3 : Int32)] [] rfl (fun l o hq9 => C8_within p3 (0 : Int32) (3 : Int32) st2 l o hq9) yv_X8_within ml_8_88 rfl (Nat.le_of_ble_eq_true rfl) (Nat.le_of_ble_eq_true rfl) (Nat.le_of_ble_eq_true rfl) dX8_pies_23 (fun x3 st4 => ?_)
    refine j_if_ne (tgt := 36) (pc := 26) hk (by decide) dX8_pies_26 (fun _ => ?_) (fun _ => ?_)
    · refine j_aload_n (pc := 29) hk 0 rfl ⟨_, rfl⟩ dX8_pies_29 ?_
      refine j_bipush (pc := 30) hk dX8_pies_30 (v := -6) (by decide) ?_
      refine j_callVi (pc := 32) hk [.int (-6 : Int32)] [] rfl (fun l o hq9 => C8_no10 (-6 : Int32) st4 l o hq9) (rcv_8 (rfl)) yv_X8_no10 ml_8_105 rfl (Nat.le_of_ble_eq_true rfl) (Nat.le_of_ble_eq_true rfl) (Nat.le_of_ble_eq_true rfl) dX8_pies_32 (fun x5 st6 => ?_)
      exact j_iret (pc := 35) hk dX8_pies_35
    · refine j_iload (pc := 36) hk 4 rfl dX8_pies_36 ?_
      refine j_iconst (pc := 38) hk dX8_pies_38 (v := -1) (by decide) ?_
      refine j_icmp_eq (tgt := 61) (pc := 39) hk (by decide) dX8_pies_39 (fun _ => ?_) (fun _ => ?_)
      · exact j_sub hk [0, 1, 2, 3, 4] rfl (T8_pies_61 hk p1 p2 p3 p4 st4)
      · refine j_iload (pc := 42) hk 4 rfl dX8_pies_42 ?_
        refine j_iconst (pc := 44) hk dX8_pies_44 (v := 0) (by decide) ?_
        refine j_iload_n (pc := 45) hk 3 rfl dX8_pies_45 ?_
        refine j_iconst (pc := 46) hk dX8_pies_46 (v := 1) (by decide) ?_
        refine j_isub (pc := 47) hk dX8_pies_47 ?_
        refine j_callSi (pc := 48) hk [.int p4, .int (0 : Int32), .int (p3 - (1 : Int32))] [] rfl (fun l o hq9 => C8_within p4 (0 : Int32) (p3 - (1 : Int32)) st4 l o hq9) yv_X8_within ml_8_88 rfl (Nat.le_of_ble_eq_true rfl) (Nat.le_of_ble_eq_true rfl) (Nat.le_of_ble_eq_true rfl) dX8_pies_48 (fun x7 st8 => ?_)
        refine j_if_ne (tgt := 61) (pc := 51) hk (by decide) dX8_pies_51 (fun _ => ?_) (fun _ => ?_)
        · refine j_aload_n (pc := 54) hk 0 rfl ⟨_, rfl⟩ dX8_pies_54 ?_
          refine j_bipush (pc := 55) hk dX8_pies_55 (v := -5) (by decide) ?_
          refine j_callVi (pc := 57) hk [.int (-5 : Int32)] [] rfl (fun l o hq9 => C8_no10 (-5 : Int32) st8 l o hq9) (rcv_8 (rfl)) yv_X8_no10 ml_8_105 rfl (Nat.le_of_ble_eq_true rfl) (Nat.le_of_ble_eq_true rfl) (Nat.le_of_ble_eq_true rfl) dX8_pies_57 (fun x9 st10 => ?_)
          exact j_iret (pc := 60) hk dX8_pies_60
        · exact j_sub hk [0, 1, 2, 3, 4] rfl (T8_pies_61 hk p1 p2 p3 p4 st8)
  · refine j_aload_n (pc := 13) hk 0 rfl ⟨_, rfl⟩ dX8_pies_13 ?_
    refine j_iload (pc := 14) hk 5 rfl dX8_pies_14 ?_
    refine j_callVi (pc := 16) hk [.int x1] [] rfl (fun l o hq9 => C8_no10 x1 st2 l o hq9) (rcv_8 (rfl)) yv_X8_no10 ml_8_105 rfl (Nat.le_of_ble_eq_true rfl) (Nat.le_of_ble_eq_true rfl) (Nat.le_of_ble_eq_true rfl) dX8_pies_16 (fun x11 st12 => ?_)
    exact j_iret (pc := 19) hk dX8_pies_19
theorem dX8_worst_0 : decode cX8_worst 0 = .ok (.aload_n 0, 1) := by decide +kernel
theorem dX8_worst_1 : decode cX8_worst 1 = .ok (.getfield 7, 3) := by decide +kernel
theorem dX8_worst_4 : decode cX8_worst 4 = .ok (.iload_n 1, 1) := by decide +kernel
theorem dX8_worst_5 : decode cX8_worst 5 = .ok (.iaload, 1) := by decide +kernel
theorem dX8_worst_6 : decode cX8_worst 6 = .ok (.istore_n 2, 1) := by decide +kernel
theorem dX8_worst_7 : decode cX8_worst 7 = .ok (.iconst 0, 1) := by decide +kernel
theorem dX8_worst_8 : decode cX8_worst 8 = .ok (.istore_n 3, 1) := by decide +kernel
theorem dX8_worst_9 : decode cX8_worst 9 = .ok (.iload_n 3, 1) := by decide +kernel
theorem dX8_worst_10 : decode cX8_worst 10 = .ok (.bipush 7, 2) := by decide +kernel
theorem dX8_worst_12 : decode cX8_worst 12 = .ok (.if_icmp .ge 72, 3) := by decide +kernel
theorem dX8_worst_15 : decode cX8_worst 15 = .ok (.aload_n 0, 1) := by decide +kernel
theorem dX8_worst_16 : decode cX8_worst 16 = .ok (.getfield 7, 3) := by decide +kernel
theorem dX8_worst_19 : decode cX8_worst 19 = .ok (.iload_n 1, 1) := by decide +kernel
theorem dX8_worst_20 : decode cX8_worst 20 = .ok (.iload_n 3, 1) := by decide +kernel
theorem dX8_worst_21 : decode cX8_worst 21 = .ok (.iastore, 1) := by decide +kernel
theorem dX8_worst_22 : decode cX8_worst 22 = .ok (.aload_n 0, 1) := by decide +kernel
theorem dX8_worst_23 : decode cX8_worst 23 = .ok (.iload_n 1, 1) := by decide +kernel
theorem dX8_worst_24 : decode cX8_worst 24 = .ok (.invokevirtual 115, 3) := by decide +kernel
theorem dX8_worst_27 : decode cX8_worst 27 = .ok (.aload_n 0, 1) := by decide +kernel
theorem dX8_worst_28 : decode cX8_worst 28 = .ok (.getfield 56, 3) := by decide +kernel
theorem dX8_worst_31 : decode cX8_worst 31 = .ok (.iload_n 3, 1) := by decide +kernel
theorem dX8_worst_32 : decode cX8_worst 32 = .ok (.aload_n 0, 1) := by decide +kernel
theorem dX8_worst_33 : decode cX8_worst 33 = .ok (.getfield 119, 3) := by decide +kernel
theorem dX8_worst_36 : decode cX8_worst 36 = .ok (.iastore, 1) := by decide +kernel
theorem dX8_worst_37 : decode cX8_worst 37 = .ok (.iconst 0, 1) := by decide +kernel
theorem dX8_worst_38 : decode cX8_worst 38 = .ok (.istore 4, 2) := by decide +kernel
theorem dX8_worst_40 : decode cX8_worst 40 = .ok (.iload 4, 2) := by decide +kernel
theorem dX8_worst_42 : decode cX8_worst 42 = .ok (.aload_n 0, 1) := by decide +kernel
theorem dX8_worst_43 : decode cX8_worst 43 = .ok (.getfield 119, 3) := by decide +kernel
theorem dX8_worst_46 : decode cX8_worst 46 = .ok (.if_icmp .ge 32, 3) := by decide +kernel
theorem dX8_worst_49 : decode cX8_worst 49 = .ok (.aload_n 0, 1) := by decide +kernel
theorem dX8_worst_50 : decode cX8_worst 50 = .ok (.getfield 56, 3) := by decide +kernel
theorem dX8_worst_53 : decode cX8_worst 53 = .ok (.iload_n 3, 1) := by decide +kernel
theorem dX8_worst_54 : decode cX8_worst 54 = .ok (.aload_n 0, 1) := by decide +kernel
theorem dX8_worst_55 : decode cX8_worst 55 = .ok (.getfield 56, 3) := by decide +kernel
theorem dX8_worst_58 : decode cX8_worst 58 = .ok (.iload_n 3, 1) := by decide +kernel
theorem dX8_worst_59 : decode cX8_worst 59 = .ok (.iaload, 1) := by decide +kernel
theorem dX8_worst_60 : decode cX8_worst 60 = .ok (.bipush 100, 2) := by decide +kernel
theorem dX8_worst_62 : decode cX8_worst 62 = .ok (.imul, 1) := by decide +kernel
theorem dX8_worst_63 : decode cX8_worst 63 = .ok (.aload_n 0, 1) := by decide +kernel
theorem dX8_worst_64 : decode cX8_worst 64 = .ok (.getfield 53, 3) := by decide +kernel
theorem dX8_worst_67 : decode cX8_worst 67 = .ok (.iload 4, 2) := by decide +kernel
theorem dX8_worst_69 : decode cX8_worst 69 = .ok (.iaload, 1) := by decide +kernel
theorem dX8_worst_70 : decode cX8_worst 70 = .ok (.iadd, 1) := by decide +kernel
theorem dX8_worst_71 : decode cX8_worst 71 = .ok (.iastore, 1) := by decide +kernel
theorem dX8_worst_72 : decode cX8_worst 72 = .ok (.iinc 4 1, 3) := by decide +kernel
theorem dX8_worst_75 : decode cX8_worst 75 = .ok (.goto (-35), 3) := by decide +kernel
theorem dX8_worst_78 : decode cX8_worst 78 = .ok (.iinc 3 1, 3) := by decide +kernel
theorem dX8_worst_81 : decode cX8_worst 81 = .ok (.goto (-72), 3) := by decide +kernel
theorem dX8_worst_84 : decode cX8_worst 84 = .ok (.aload_n 0, 1) := by decide +kernel
theorem dX8_worst_85 : decode cX8_worst 85 = .ok (.getfield 7, 3) := by decide +kernel
theorem dX8_worst_88 : decode cX8_worst 88 = .ok (.iload_n 1, 1) := by decide +kernel
theorem dX8_worst_89 : decode cX8_worst 89 = .ok (.iload_n 2, 1) := by decide +kernel
theorem dX8_worst_90 : decode cX8_worst 90 = .ok (.iastore, 1) := by decide +kernel
theorem dX8_worst_91 : decode cX8_worst 91 = .ok (.iconst 0, 1) := by decide +kernel
theorem dX8_worst_92 : decode cX8_worst 92 = .ok (.istore_n 3, 1) := by decide +kernel
theorem dX8_worst_93 : decode cX8_worst 93 = .ok (.iconst 0, 1) := by decide +kernel
theorem dX8_worst_94 : decode cX8_worst 94 = .ok (.istore 4, 2) := by decide +kernel
theorem dX8_worst_96 : decode cX8_worst 96 = .ok (.iload 4, 2) := by decide +kernel
theorem dX8_worst_98 : decode cX8_worst 98 = .ok (.bipush 7, 2) := by decide +kernel
theorem dX8_worst_100 : decode cX8_worst 100 = .ok (.if_icmp .ge 55, 3) := by decide +kernel
theorem dX8_worst_103 : decode cX8_worst 103 = .ok (.iconst 0, 1) := by decide +kernel
theorem dX8_worst_104 : decode cX8_worst 104 = .ok (.istore 5, 2) := by decide +kernel
theorem dX8_worst_106 : decode cX8_worst 106 = .ok (.iconst 0, 1) := by decide +kernel
theorem dX8_worst_107 : decode cX8_worst 107 = .ok (.istore 6, 2) := by decide +kernel
theorem dX8_worst_109 : decode cX8_worst 109 = .ok (.iload 6, 2) := by decide +kernel
theorem dX8_worst_111 : decode cX8_worst 111 = .ok (.bipush 7, 2) := by decide +kernel
theorem dX8_worst_113 : decode cX8_worst 113 = .ok (.if_icmp .ge 29, 3) := by decide +kernel
theorem dX8_worst_116 : decode cX8_worst 116 = .ok (.aload_n 0, 1) := by decide +kernel
theorem dX8_worst_117 : decode cX8_worst 117 = .ok (.getfield 56, 3) := by decide +kernel
theorem dX8_worst_120 : decode cX8_worst 120 = .ok (.iload 6, 2) := by decide +kernel
theorem dX8_worst_122 : decode cX8_worst 122 = .ok (.iaload, 1) := by decide +kernel
theorem dX8_worst_123 : decode cX8_worst 123 = .ok (.aload_n 0, 1) := by decide +kernel
theorem dX8_worst_124 : decode cX8_worst 124 = .ok (.getfield 56, 3) := by decide +kernel
theorem dX8_worst_127 : decode cX8_worst 127 = .ok (.iload 4, 2) := by decide +kernel
theorem dX8_worst_129 : decode cX8_worst 129 = .ok (.iaload, 1) := by decide +kernel
theorem dX8_worst_130 : decode cX8_worst 130 = .ok (.if_icmp .ne 6, 3) := by decide +kernel
theorem dX8_worst_133 : decode cX8_worst 133 = .ok (.iinc 5 1, 3) := by decide +kernel
theorem dX8_worst_136 : decode cX8_worst 136 = .ok (.iinc 6 1, 3) := by decide +kernel
theorem dX8_worst_139 : decode cX8_worst 139 = .ok (.goto (-30), 3) := by decide +kernel
theorem dX8_worst_142 : decode cX8_worst 142 = .ok (.iload_n 3, 1) := by decide +kernel
theorem dX8_worst_143 : decode cX8_worst 143 = .ok (.iload 5, 2) := by decide +kernel
theorem dX8_worst_145 : decode cX8_worst 145 = .ok (.invokestatic 248, 3) := by decide +kernel
theorem dX8_worst_148 : decode cX8_worst 148 = .ok (.istore_n 3, 1) := by decide +kernel
theorem dX8_worst_149 : decode cX8_worst 149 = .ok (.iinc 4 1, 3) := by decide +kernel
theorem dX8_worst_152 : decode cX8_worst 152 = .ok (.goto (-56), 3) := by decide +kernel
theorem dX8_worst_155 : decode cX8_worst 155 = .ok (.iload_n 3, 1) := by decide +kernel
theorem dX8_worst_156 : decode cX8_worst 156 = .ok (.ireturn, 1) := by decide +kernel
def B8_worst_40 (k9 : Int32 → Int32 → Int32 → fkS → Option (Int32 × fkS)) (k40 : Int32 → Int32 → Int32 → Int32 → fkS → Option (Int32 × fkS)) (v1 : Int32) (v2 : Int32) (v3 : Int32) (v4 : Int32) (st : fkS) : Option (Int32 × fkS) :=
 fk_let (gI st 24 0) <| fun x7 =>
 if x7 ≤ v4 then
 (k9 v1 v2 (v3 + (1 : Int32)) st)
 else
 (fk_chk (fk_in v3 7) <| fk_let (gA st 16 v3.toNatClampNeg) <| fun x8 =>
 fk_chk (fk_in v4 16) <| fk_let (gA st 15 v4.toNatClampNeg) <| fun x9 =>
 fk_chk (fk_in v3 7) <| fk_let (sA st 16 v3.toNatClampNeg ((x8 * (100 : Int32)) + x9)) <| fun st10 =>
 k40 v1 v2 v3 (v4 + (1 : Int32)) st10)
set_option maxHeartbeats 1000000 in
set_option maxRecDepth 20000 in
theorem T8_worst_40 {g : fkG} {k : fkK} (hk : fk_ok wM g k RX8 cX8_worst 7 (some (.int)) 4 123) (k9 : Int32 → Int32 → Int32 → fkS → Option (Int32 × fkS)) (H9 : ∀ (v1 : Int32) (v2 : Int32) (v3 : Int32) (st : fkS), fk_J wM g fk_eI k 9 [(0, fk_r g 0), (1, .int v1), (2, .int v2), (3, .int v3)] [] st (k9 v1 v2 v3 st)) (k40 : Int32 → Int32 → Int32 → Int32 → fkS → Option (Int32 × fkS)) (H40 : ∀ (v1 : Int32) (v2 : Int32) (v3 : Int32) (v4 : Int32) (st : fkS), fk_J wM g fk_eI k 40 [(0, fk_r g 0), (1, .int v1), (2, .int v2), (3, .int v3), (4, .int v4)] [] st (k40 v1 v2 v3 v4 st)) : ∀ (v1 : Int32) (v2 : Int32) (v3 : Int32) (v4 : Int32) (st : fkS), fk_J wM g fk_eI k 40 [(0, fk_r g 0), (1, .int v1), (2, .int v2), (3, .int v3), (4, .int v4)] [] st (B8_worst_40 k9 k40 v1 v2 v3 v4 st) := by
  intro v1 v2 v3 v4 st
  unfold B8_worst_40
  refine j_iload (pc := 40) hk 4 rfl dX8_worst_40 ?_
  refine j_aload_n (pc := 42) hk 0 rfl ⟨_, rfl⟩ dX8_worst_42 ?_
  refine f_8_119 (pc := 43) hk (rfl) dX8_worst_43 (fun x7 => ?_)
  refine j_icmp_ge (tgt := 78) (pc := 46) hk (by decide) dX8_worst_46 (fun _ => ?_) (fun _ => ?_)
  · refine j_iinc (dd := (1 : Int32)) (lv' := ((3, .int (v3 + (1 : Int32))) :: [(0, fk_r g 0), (1, .int v1), (2, .int v2), (4, .int v4)])) (pc := 78) hk 3 rfl (by decide) (by decide) rfl dX8_worst_78 ?_
    refine j_sub hk (lv' := [(0, fk_r g 0), (1, .int v1), (2, .int v2), (3, .int (v3 + (1 : Int32))), (4, .int v4)]) [1, 2, 3, 0, 4] rfl ?_
    refine j_goto (tgt := 9) (pc := 81) hk (by decide) dX8_worst_81 ?_
    exact j_sub hk [0, 1, 2, 3] rfl (H9 v1 v2 (v3 + (1 : Int32)) st)
  · refine j_aload_n (pc := 49) hk 0 rfl ⟨_, rfl⟩ dX8_worst_49 ?_
    refine f_8_56 (pc := 50) hk (rfl) dX8_worst_50 ?_
    refine j_iload_n (pc := 53) hk 3 rfl dX8_worst_53 ?_
    refine j_aload_n (pc := 54) hk 0 rfl ⟨_, rfl⟩ dX8_worst_54 ?_
    refine f_8_56 (pc := 55) hk (rfl) dX8_worst_55 ?_
    refine j_iload_n (pc := 58) hk 3 rfl dX8_worst_58 ?_
    refine a_iload (pc := 59) hk (isI_8_28) dX8_worst_59 (fun x8 => ?_)
    refine j_bipush (pc := 60) hk dX8_worst_60 (v := 100) (by decide) ?_
    refine j_imul (pc := 62) hk dX8_worst_62 ?_
    refine j_aload_n (pc := 63) hk 0 rfl ⟨_, rfl⟩ dX8_worst_63 ?_
    refine f_8_53 (pc := 64) hk (rfl) dX8_worst_64 ?_
    refine j_iload (pc := 67) hk 4 rfl dX8_worst_67 ?_
    refine a_iload (pc := 69) hk (isI_8_25) dX8_worst_69 (fun x9 => ?_)
    refine j_iadd (pc := 70) hk dX8_worst_70 ?_
    refine a_istore (pc := 71) hk (isI_8_28) dX8_worst_71 (fun st10 => ?_)
    refine j_iinc (dd := (1 : Int32)) (lv' := ((4, .int (v4 + (1 : Int32))) :: [(0, fk_r g 0), (1, .int v1), (2, .int v2), (3, .int v3)])) (pc := 72) hk 4 rfl (by decide) (by decide) rfl dX8_worst_72 ?_
    refine j_sub hk (lv' := [(0, fk_r g 0), (1, .int v1), (2, .int v2), (3, .int v3), (4, .int (v4 + (1 : Int32)))]) [1, 2, 3, 4, 0] rfl ?_
    refine j_goto (tgt := 40) (pc := 75) hk (by decide) dX8_worst_75 ?_
    exact j_sub hk [0, 1, 2, 3, 4] rfl (H40 v1 v2 v3 (v4 + (1 : Int32)) st10)
set_option maxHeartbeats 1000000 in
set_option maxRecDepth 20000 in
theorem L8_worst_40 {g : fkG} {k : fkK} (hk : fk_ok wM g k RX8 cX8_worst 7 (some (.int)) 4 123) (k9 : Int32 → Int32 → Int32 → fkS → Option (Int32 × fkS)) (H9 : ∀ (v1 : Int32) (v2 : Int32) (v3 : Int32) (st : fkS), fk_J wM g fk_eI k 9 [(0, fk_r g 0), (1, .int v1), (2, .int v2), (3, .int v3)] [] st (k9 v1 v2 v3 st)) (fu : Nat) : ∀ (v1 : Int32) (v2 : Int32) (v3 : Int32) (v4 : Int32) (st : fkS), fk_J wM g fk_eI k 40 [(0, fk_r g 0), (1, .int v1), (2, .int v2), (3, .int v3), (4, .int v4)] [] st (fk_lp4 (B8_worst_40 k9) fu v1 v2 v3 v4 st) := by
  induction fu with
  | zero =>
    intro v1 v2 v3 v4 st
    exact j_none hk
  | succ fu ih =>
    exact T8_worst_40 hk k9 H9 _ ih
def B8_worst_136 (k96 : Int32 → Int32 → fkS → Option (Int32 × fkS)) (k109 : Int32 → Int32 → Int32 → Int32 → fkS → Option (Int32 × fkS)) (v3 : Int32) (v4 : Int32) (v5 : Int32) (v6 : Int32) (st : fkS) : Option (Int32 × fkS) :=
 k109 v3 v4 v5 (v6 + (1 : Int32)) st
set_option maxHeartbeats 1000000 in
set_option maxRecDepth 20000 in
theorem T8_worst_136 {g : fkG} {k : fkK} (hk : fk_ok wM g k RX8 cX8_worst 7 (some (.int)) 4 123) (k96 : Int32 → Int32 → fkS → Option (Int32 × fkS)) (H96 : ∀ (v3 : Int32) (v4 : Int32) (st : fkS), fk_J wM g fk_eI k 96 [(0, fk_r g 0), (3, .int v3), (4, .int v4)] [] st (k96 v3 v4 st)) (k109 : Int32 → Int32 → Int32 → Int32 → fkS → Option (Int32 × fkS)) (H109 : ∀ (v3 : Int32) (v4 : Int32) (v5 : Int32) (v6 : Int32) (st : fkS), fk_J wM g fk_eI k 109 [(0, fk_r g 0), (3, .int v3), (4, .int v4), (5, .int v5), (6, .int v6)] [] st (k109 v3 v4 v5 v6 st)) : ∀ (v3 : Int32) (v4 : Int32) (v5 : Int32) (v6 : Int32) (st : fkS), fk_J wM g fk_eI k 136 [(0, fk_r g 0), (3, .int v3), (4, .int v4), (5, .int v5), (6, .int v6)] [] st (B8_worst_136 k96 k109 v3 v4 v5 v6 st) := by
  intro v3 v4 v5 v6 st
  unfold B8_worst_136
  refine j_iinc (dd := (1 : Int32)) (lv' := ((6, .int (v6 + (1 : Int32))) :: [(0, fk_r g 0), (3, .int v3), (4, .int v4), (5, .int v5)])) (pc := 136) hk 4 rfl (by decide) (by decide) rfl dX8_worst_136 ?_
  refine j_sub hk (lv' := [(0, fk_r g 0), (3, .int v3), (4, .int v4), (5, .int v5), (6, .int (v6 + (1 : Int32)))]) [1, 2, 3, 4, 0] rfl ?_
  refine j_goto (tgt := 109) (pc := 139) hk (by decide) dX8_worst_139 ?_
  exact j_sub hk [0, 1, 2, 3, 4] rfl (H109 v3 v4 v5 (v6 + (1 : Int32)) st)
def B8_worst_109 (k96 : Int32 → Int32 → fkS → Option (Int32 × fkS)) (k109 : Int32 → Int32 → Int32 → Int32 → fkS → Option (Int32 × fkS)) (v3 : Int32) (v4 : Int32) (v5 : Int32) (v6 : Int32) (st : fkS) : Option (Int32 × fkS) :=
 if (7 : Int32) ≤ v6 then
 (k96 (fk_max v3 v5) (v4 + (1 : Int32)) st)
 else
 (fk_chk (fk_in v6 7) <| fk_let (gA st 16 v6.toNatClampNeg) <| fun x11 =>
 fk_chk (fk_in v4 7) <| fk_let (gA st 16 v4.toNatClampNeg) <| fun x12 =>
 if x11 = x12 then
 (B8_worst_136 k96 k109 v3 v4 (v5 + (1 : Int32)) v6 st)
 else
 (B8_worst_136 k96 k109 v3 v4 v5 v6 st))
set_option maxHeartbeats 1000000 in
set_option maxRecDepth 20000 in
theorem T8_worst_109 {g : fkG} {k : fkK} (hk : fk_ok wM g k RX8 cX8_worst 7 (some (.int)) 4 123) (k96 : Int32 → Int32 → fkS → Option (Int32 × fkS)) (H96 : ∀ (v3 : Int32) (v4 : Int32) (st : fkS), fk_J wM g fk_eI k 96 [(0, fk_r g 0), (3, .int v3), (4, .int v4)] [] st (k96 v3 v4 st)) (k109 : Int32 → Int32 → Int32 → Int32 → fkS → Option (Int32 × fkS)) (H109 : ∀ (v3 : Int32) (v4 : Int32) (v5 : Int32) (v6 : Int32) (st : fkS), fk_J wM g fk_eI k 109 [(0, fk_r g 0), (3, .int v3), (4, .int v4), (5, .int v5), (6, .int v6)] [] st (k109 v3 v4 v5 v6 st)) : ∀ (v3 : Int32) (v4 : Int32) (v5 : Int32) (v6 : Int32) (st : fkS), fk_J wM g fk_eI k 109 [(0, fk_r g 0), (3, .int v3), (4, .int v4), (5, .int v5), (6, .int v6)] [] st (B8_worst_109 k96 k109 v3 v4 v5 v6 st) := by
  intro v3 v4 v5 v6 st
  unfold B8_worst_109
  refine j_iload (pc := 109) hk 4 rfl dX8_worst_109 ?_
  refine j_bipush (pc := 111) hk dX8_worst_111 (v := 7) (by decide) ?_
  refine j_icmp_ge (tgt := 142) (pc := 113) hk (by decide) dX8_worst_113 (fun _ => ?_) (fun _ => ?_)
  · refine j_iload_n (pc := 142) hk 1 rfl dX8_worst_142 ?_
    refine j_iload (pc := 143) hk 3 rfl dX8_worst_143 ?_
    refine j_mmax (pc := 145) hk ml_8_248 wd_max1 wd_math wd_max2 (Nat.le_of_ble_eq_true rfl) (Nat.le_of_ble_eq_true rfl) dX8_worst_145 ?_
    refine j_istore_n (lv' := ((3, .int (fk_max v3 v5)) :: [(0, fk_r g 0), (4, .int v4), (5, .int v5), (6, .int v6)])) (pc := 148) hk rfl (by decide) rfl dX8_worst_148 ?_
    refine j_sub hk (lv' := [(0, fk_r g 0), (3, .int (fk_max v3 v5)), (4, .int v4), (5, .int v5), (6, .int v6)]) [1, 0, 2, 3, 4] rfl ?_
    refine j_iinc (dd := (1 : Int32)) (lv' := ((4, .int (v4 + (1 : Int32))) :: [(0, fk_r g 0), (3, .int (fk_max v3 v5)), (5, .int v5), (6, .int v6)])) (pc := 149) hk 2 rfl (by decide) (by decide) rfl dX8_worst_149 ?_
    refine j_sub hk (lv' := [(0, fk_r g 0), (3, .int (fk_max v3 v5)), (4, .int (v4 + (1 : Int32))), (5, .int v5), (6, .int v6)]) [1, 2, 0, 3, 4] rfl ?_
    refine j_goto (tgt := 96) (pc := 152) hk (by decide) dX8_worst_152 ?_
    exact j_sub hk [0, 1, 2] rfl (H96 (fk_max v3 v5) (v4 + (1 : Int32)) st)
  · refine j_aload_n (pc := 116) hk 0 rfl ⟨_, rfl⟩ dX8_worst_116 ?_
    refine f_8_56 (pc := 117) hk (rfl) dX8_worst_117 ?_
    refine j_iload (pc := 120) hk 4 rfl dX8_worst_120 ?_
    refine a_iload (pc := 122) hk (isI_8_28) dX8_worst_122 (fun x11 => ?_)
    refine j_aload_n (pc := 123) hk 0 rfl ⟨_, rfl⟩ dX8_worst_123 ?_
    refine f_8_56 (pc := 124) hk (rfl) dX8_worst_124 ?_
    refine j_iload (pc := 127) hk 2 rfl dX8_worst_127 ?_
    refine a_iload (pc := 129) hk (isI_8_28) dX8_worst_129 (fun x12 => ?_)
    refine j_icmp_ne (tgt := 136) (pc := 130) hk (by decide) dX8_worst_130 (fun _ => ?_) (fun _ => ?_)
    · refine j_iinc (dd := (1 : Int32)) (lv' := ((5, .int (v5 + (1 : Int32))) :: [(0, fk_r g 0), (3, .int v3), (4, .int v4), (6, .int v6)])) (pc := 133) hk 3 rfl (by decide) (by decide) rfl dX8_worst_133 ?_
      refine j_sub hk (lv' := [(0, fk_r g 0), (3, .int v3), (4, .int v4), (5, .int (v5 + (1 : Int32))), (6, .int v6)]) [1, 2, 3, 0, 4] rfl ?_
      exact j_sub hk [0, 1, 2, 3, 4] rfl (T8_worst_136 hk k96 H96 k109 H109 v3 v4 (v5 + (1 : Int32)) v6 st)
    · exact j_sub hk [0, 1, 2, 3, 4] rfl (T8_worst_136 hk k96 H96 k109 H109 v3 v4 v5 v6 st)
set_option maxHeartbeats 1000000 in
set_option maxRecDepth 20000 in
theorem L8_worst_109 {g : fkG} {k : fkK} (hk : fk_ok wM g k RX8 cX8_worst 7 (some (.int)) 4 123) (k96 : Int32 → Int32 → fkS → Option (Int32 × fkS)) (H96 : ∀ (v3 : Int32) (v4 : Int32) (st : fkS), fk_J wM g fk_eI k 96 [(0, fk_r g 0), (3, .int v3), (4, .int v4)] [] st (k96 v3 v4 st)) (fu : Nat) : ∀ (v3 : Int32) (v4 : Int32) (v5 : Int32) (v6 : Int32) (st : fkS), fk_J wM g fk_eI k 109 [(0, fk_r g 0), (3, .int v3), (4, .int v4), (5, .int v5), (6, .int v6)] [] st (fk_lp4 (B8_worst_109 k96) fu v3 v4 v5 v6 st) := by
  induction fu with
  | zero =>
    intro v3 v4 v5 v6 st
    exact j_none hk
  | succ fu ih =>
    exact T8_worst_109 hk k96 H96 _ ih
def B8_worst_96 (k96 : Int32 → Int32 → fkS → Option (Int32 × fkS)) (v3 : Int32) (v4 : Int32) (st : fkS) : Option (Int32 × fkS) :=
 if (7 : Int32) ≤ v4 then
 (some (v3, st))
 else
 (fk_lp4 (B8_worst_109 k96) fk_fuel v3 v4 (0 : Int32) (0 : Int32) st)
set_option maxHeartbeats 1000000 in
set_option maxRecDepth 20000 in
theorem T8_worst_96 {g : fkG} {k : fkK} (hk : fk_ok wM g k RX8 cX8_worst 7 (some (.int)) 4 123) (k96 : Int32 → Int32 → fkS → Option (Int32 × fkS)) (H96 : ∀ (v3 : Int32) (v4 : Int32) (st : fkS), fk_J wM g fk_eI k 96 [(0, fk_r g 0), (3, .int v3), (4, .int v4)] [] st (k96 v3 v4 st)) : ∀ (v3 : Int32) (v4 : Int32) (st : fkS), fk_J wM g fk_eI k 96 [(0, fk_r g 0), (3, .int v3), (4, .int v4)] [] st (B8_worst_96 k96 v3 v4 st) := by
  intro v3 v4 st
  unfold B8_worst_96
  refine j_iload (pc := 96) hk 2 rfl dX8_worst_96 ?_
  refine j_bipush (pc := 98) hk dX8_worst_98 (v := 7) (by decide) ?_
  refine j_icmp_ge (tgt := 155) (pc := 100) hk (by decide) dX8_worst_100 (fun _ => ?_) (fun _ => ?_)
  · refine j_iload_n (pc := 155) hk 1 rfl dX8_worst_155 ?_
    exact j_iret (pc := 156) hk dX8_worst_156
  · refine j_iconst (pc := 103) hk dX8_worst_103 (v := 0) (by decide) ?_
    refine j_istore (lv' := ((5, .int (0 : Int32)) :: [(0, fk_r g 0), (3, .int v3), (4, .int v4)])) (pc := 104) hk (by decide) rfl dX8_worst_104 ?_
    refine j_sub hk (lv' := [(0, fk_r g 0), (3, .int v3), (4, .int v4), (5, .int (0 : Int32))]) [1, 2, 3, 0] rfl ?_
    refine j_iconst (pc := 106) hk dX8_worst_106 (v := 0) (by decide) ?_
    refine j_istore (lv' := ((6, .int (0 : Int32)) :: [(0, fk_r g 0), (3, .int v3), (4, .int v4), (5, .int (0 : Int32))])) (pc := 107) hk (by decide) rfl dX8_worst_107 ?_
    refine j_sub hk (lv' := [(0, fk_r g 0), (3, .int v3), (4, .int v4), (5, .int (0 : Int32)), (6, .int (0 : Int32))]) [1, 2, 3, 4, 0] rfl ?_
    exact j_sub hk [0, 1, 2, 3, 4] rfl (L8_worst_109 hk k96 H96 fk_fuel v3 v4 (0 : Int32) (0 : Int32) st)
set_option maxHeartbeats 1000000 in
set_option maxRecDepth 20000 in
theorem L8_worst_96 {g : fkG} {k : fkK} (hk : fk_ok wM g k RX8 cX8_worst 7 (some (.int)) 4 123) (fu : Nat) : ∀ (v3 : Int32) (v4 : Int32) (st : fkS), fk_J wM g fk_eI k 96 [(0, fk_r g 0), (3, .int v3), (4, .int v4)] [] st (fk_lp2 (B8_worst_96) fu v3 v4 st) := by
  induction fu with
  | zero =>
    intro v3 v4 st
    exact j_none hk
  | succ fu ih =>
    exact T8_worst_96 hk _ ih
def B8_worst_9 (k9 : Int32 → Int32 → Int32 → fkS → Option (Int32 × fkS)) (v1 : Int32) (v2 : Int32) (v3 : Int32) (st : fkS) : Option (Int32 × fkS) :=
 if (7 : Int32) ≤ v3 then
 (fk_chk (fk_in v1 7) <| fk_let (sA st 1 v1.toNatClampNeg v2) <| fun st2 =>
 fk_lp2 (B8_worst_96) fk_fuel (0 : Int32) (0 : Int32) st2)
 else
 (fk_chk (fk_in v1 7) <| fk_let (sA st 1 v1.toNatClampNeg v3) <| fun st3 =>
 fk_bind (F8_tells v1 st3) <| fun _ st4 =>
 fk_let (gI st4 24 0) <| fun x5 =>
 fk_chk (fk_in v3 7) <| fk_let (sA st4 16 v3.toNatClampNeg x5) <| fun st6 =>
 fk_lp4 (B8_worst_40 k9) fk_fuel v1 v2 v3 (0 : Int32) st6)
set_option maxHeartbeats 1000000 in
set_option maxRecDepth 20000 in
theorem T8_worst_9 {g : fkG} {k : fkK} (hk : fk_ok wM g k RX8 cX8_worst 7 (some (.int)) 4 123) (k9 : Int32 → Int32 → Int32 → fkS → Option (Int32 × fkS)) (H9 : ∀ (v1 : Int32) (v2 : Int32) (v3 : Int32) (st : fkS), fk_J wM g fk_eI k 9 [(0, fk_r g 0), (1, .int v1), (2, .int v2), (3, .int v3)] [] st (k9 v1 v2 v3 st)) : ∀ (v1 : Int32) (v2 : Int32) (v3 : Int32) (st : fkS), fk_J wM g fk_eI k 9 [(0, fk_r g 0), (1, .int v1), (2, .int v2), (3, .int v3)] [] st (B8_worst_9 k9 v1 v2 v3 st) := by
  intro v1 v2 v3 st
  unfold B8_worst_9
  refine j_iload_n (pc := 9) hk 3 rfl dX8_worst_9 ?_
  refine j_bipush (pc := 10) hk dX8_worst_10 (v := 7) (by decide) ?_
  refine j_icmp_ge (tgt := 84) (pc := 12) hk (by decide) dX8_worst_12 (fun _ => ?_) (fun _ => ?_)
  · refine j_aload_n (pc := 84) hk 0 rfl ⟨_, rfl⟩ dX8_worst_84 ?_
    refine f_8_7 (pc := 85) hk (rfl) dX8_worst_85 ?_
    refine j_iload_n (pc := 88) hk 1 rfl dX8_worst_88 ?_
    refine j_iload_n (pc := 89) hk 2 rfl dX8_worst_89 ?_
    refine a_istore (pc := 90) hk (isI_8_1) dX8_worst_90 (fun st2 => ?_)
    refine j_iconst (pc := 91) hk dX8_worst_91 (v := 0) (by decide) ?_
    refine j_istore_n (lv' := ((3, .int (0 : Int32)) :: [(0, fk_r g 0), (1, .int v1), (2, .int v2)])) (pc := 92) hk rfl (by decide) rfl dX8_worst_92 ?_
    refine j_sub hk (lv' := [(0, fk_r g 0), (1, .int v1), (2, .int v2), (3, .int (0 : Int32))]) [1, 2, 3, 0] rfl ?_
    refine j_iconst (pc := 93) hk dX8_worst_93 (v := 0) (by decide) ?_
    refine j_istore (lv' := ((4, .int (0 : Int32)) :: [(0, fk_r g 0), (1, .int v1), (2, .int v2), (3, .int (0 : Int32))])) (pc := 94) hk (by decide) rfl dX8_worst_94 ?_
    refine j_sub hk (lv' := [(0, fk_r g 0), (1, .int v1), (2, .int v2), (3, .int (0 : Int32)), (4, .int (0 : Int32))]) [1, 2, 3, 4, 0] rfl ?_
    exact j_sub hk [0, 3, 4] rfl (L8_worst_96 hk fk_fuel (0 : Int32) (0 : Int32) st2)
  · refine j_aload_n (pc := 15) hk 0 rfl ⟨_, rfl⟩ dX8_worst_15 ?_
    refine f_8_7 (pc := 16) hk (rfl) dX8_worst_16 ?_
    refine j_iload_n (pc := 19) hk 1 rfl dX8_worst_19 ?_
    refine j_iload_n (pc := 20) hk 3 rfl dX8_worst_20 ?_
    refine a_istore (pc := 21) hk (isI_8_1) dX8_worst_21 (fun st3 => ?_)
    refine j_aload_n (pc := 22) hk 0 rfl ⟨_, rfl⟩ dX8_worst_22 ?_
    refine j_iload_n (pc := 23) hk 1 rfl dX8_worst_23 ?_
    refine j_callVv (pc := 24) hk [.int v1] [] rfl (fun l o hq9 => C8_tells v1 st3 l o hq9) (rcv_8 (rfl)) yv_X8_tells ml_8_115 rfl (Nat.le_of_ble_eq_true rfl) (Nat.le_of_ble_eq_true rfl) (Nat.le_of_ble_eq_true rfl) dX8_worst_24 (fun _ st4 => ?_)
    refine j_aload_n (pc := 27) hk 0 rfl ⟨_, rfl⟩ dX8_worst_27 ?_
    refine f_8_56 (pc := 28) hk (rfl) dX8_worst_28 ?_
    refine j_iload_n (pc := 31) hk 3 rfl dX8_worst_31 ?_
    refine j_aload_n (pc := 32) hk 0 rfl ⟨_, rfl⟩ dX8_worst_32 ?_
    refine f_8_119 (pc := 33) hk (rfl) dX8_worst_33 (fun x5 => ?_)
    refine a_istore (pc := 36) hk (isI_8_28) dX8_worst_36 (fun st6 => ?_)
    refine j_iconst (pc := 37) hk dX8_worst_37 (v := 0) (by decide) ?_
    refine j_istore (lv' := ((4, .int (0 : Int32)) :: [(0, fk_r g 0), (1, .int v1), (2, .int v2), (3, .int v3)])) (pc := 38) hk (by decide) rfl dX8_worst_38 ?_
    refine j_sub hk (lv' := [(0, fk_r g 0), (1, .int v1), (2, .int v2), (3, .int v3), (4, .int (0 : Int32))]) [1, 2, 3, 4, 0] rfl ?_
    exact j_sub hk [0, 1, 2, 3, 4] rfl (L8_worst_40 hk k9 H9 fk_fuel v1 v2 v3 (0 : Int32) st6)
set_option maxHeartbeats 1000000 in
set_option maxRecDepth 20000 in
theorem L8_worst_9 {g : fkG} {k : fkK} (hk : fk_ok wM g k RX8 cX8_worst 7 (some (.int)) 4 123) (fu : Nat) : ∀ (v1 : Int32) (v2 : Int32) (v3 : Int32) (st : fkS), fk_J wM g fk_eI k 9 [(0, fk_r g 0), (1, .int v1), (2, .int v2), (3, .int v3)] [] st (fk_lp3 (B8_worst_9) fu v1 v2 v3 st) := by
  induction fu with
  | zero =>
    intro v1 v2 v3 st
    exact j_none hk
  | succ fu ih =>
    exact T8_worst_9 hk _ ih
def F8_worst (p1 : Int32) (st : fkS) : Option (Int32 × fkS) :=
 fk_chk (fk_in p1 7) <| fk_let (gA st 1 p1.toNatClampNeg) <| fun x1 =>
 fk_lp3 (B8_worst_9) fk_fuel p1 x1 (0 : Int32) st
set_option maxHeartbeats 1000000 in
set_option maxRecDepth 20000 in
theorem C8_worst (p1 : Int32) (st : fkS) {g : fkG} (l : Launch) (o : Int32 × fkS) (hF : F8_worst p1 st = some o) : fk_C wM yX8_worst cX8_worst 7 (some (.int)) 4 123 l g [fk_r g 0, .int p1] st (fk_eI o.1) o.2 := by
  refine fk_begin rfl (Nat.le_of_ble_eq_true rfl) (fun k hk => ?_) o hF
  have hk : fk_ok wM g k RX8 cX8_worst 7 (some (.int)) 4 123 := hk
  show fk_J wM g fk_eI k 0 [(0, fk_r g 0), (1, .int p1)] [] st (F8_worst p1 st)
  unfold F8_worst
  refine j_aload_n (pc := 0) hk 0 rfl ⟨_, rfl⟩ dX8_worst_0 ?_
  refine f_8_7 (pc := 1) hk (rfl) dX8_worst_1 ?_
  refine j_iload_n (pc := 4) hk 1 rfl dX8_worst_4 ?_
  refine a_iload (pc := 5) hk (isI_8_1) dX8_worst_5 (fun x1 => ?_)
  refine j_istore_n (lv' := ((2, .int x1) :: [(0, fk_r g 0), (1, .int p1)])) (pc := 6) hk rfl (by decide) rfl dX8_worst_6 ?_
  refine j_sub hk (lv' := [(0, fk_r g 0), (1, .int p1), (2, .int x1)]) [1, 2, 0] rfl ?_
  refine j_iconst (pc := 7) hk dX8_worst_7 (v := 0) (by decide) ?_
  refine j_istore_n (lv' := ((3, .int (0 : Int32)) :: [(0, fk_r g 0), (1, .int p1), (2, .int x1)])) (pc := 8) hk rfl (by decide) rfl dX8_worst_8 ?_
  refine j_sub hk (lv' := [(0, fk_r g 0), (1, .int p1), (2, .int x1), (3, .int (0 : Int32))]) [1, 2, 3, 0] rfl ?_
  exact j_sub hk [0, 1, 2, 3] rfl (L8_worst_9 hk fk_fuel p1 x1 (0 : Int32) st)
theorem dX8_next_0 : decode cX8_next 0 = .ok (.aload_n 0, 1) := by decide +kernel
theorem dX8_next_1 : decode cX8_next 1 = .ok (.iload_n 1, 1) := by decide +kernel
theorem dX8_next_2 : decode cX8_next 2 = .ok (.invokevirtual 99, 3) := by decide +kernel
theorem dX8_next_5 : decode cX8_next 5 = .ok (.ifCond .ne 9, 3) := by decide +kernel
theorem dX8_next_8 : decode cX8_next 8 = .ok (.aload_n 0, 1) := by decide +kernel
theorem dX8_next_9 : decode cX8_next 9 = .ok (.iconst (-1), 1) := by decide +kernel
theorem dX8_next_10 : decode cX8_next 10 = .ok (.invokevirtual 105, 3) := by decide +kernel
theorem dX8_next_13 : decode cX8_next 13 = .ok (.ireturn, 1) := by decide +kernel
theorem dX8_next_14 : decode cX8_next 14 = .ok (.iconst (-1), 1) := by decide +kernel
theorem dX8_next_15 : decode cX8_next 15 = .ok (.istore_n 2, 1) := by decide +kernel
theorem dX8_next_16 : decode cX8_next 16 = .ok (.bipush 7, 2) := by decide +kernel
theorem dX8_next_18 : decode cX8_next 18 = .ok (.istore_n 3, 1) := by decide +kernel
theorem dX8_next_19 : decode cX8_next 19 = .ok (.iconst 0, 1) := by decide +kernel
theorem dX8_next_20 : decode cX8_next 20 = .ok (.istore 4, 2) := by decide +kernel
theorem dX8_next_22 : decode cX8_next 22 = .ok (.iload 4, 2) := by decide +kernel
theorem dX8_next_24 : decode cX8_next 24 = .ok (.bipush 10, 2) := by decide +kernel
theorem dX8_next_26 : decode cX8_next 26 = .ok (.if_icmp .ge 38, 3) := by decide +kernel
theorem dX8_next_29 : decode cX8_next 29 = .ok (.aload_n 0, 1) := by decide +kernel
theorem dX8_next_30 : decode cX8_next 30 = .ok (.iconst 1, 1) := by decide +kernel
theorem dX8_next_31 : decode cX8_next 31 = .ok (.iload 4, 2) := by decide +kernel
theorem dX8_next_33 : decode cX8_next 33 = .ok (.invokevirtual 230, 3) := by decide +kernel
theorem dX8_next_36 : decode cX8_next 36 = .ok (.aload_n 0, 1) := by decide +kernel
theorem dX8_next_37 : decode cX8_next 37 = .ok (.iload_n 1, 1) := by decide +kernel
theorem dX8_next_38 : decode cX8_next 38 = .ok (.invokevirtual 251, 3) := by decide +kernel
theorem dX8_next_41 : decode cX8_next 41 = .ok (.istore 5, 2) := by decide +kernel
theorem dX8_next_43 : decode cX8_next 43 = .ok (.iload 5, 2) := by decide +kernel
theorem dX8_next_45 : decode cX8_next 45 = .ok (.iload_n 3, 1) := by decide +kernel
theorem dX8_next_46 : decode cX8_next 46 = .ok (.if_icmp .lt 6, 3) := by decide +kernel
theorem dX8_next_49 : decode cX8_next 49 = .ok (.goto 9, 3) := by decide +kernel
theorem dX8_next_52 : decode cX8_next 52 = .ok (.iload 5, 2) := by decide +kernel
theorem dX8_next_54 : decode cX8_next 54 = .ok (.istore_n 3, 1) := by decide +kernel
theorem dX8_next_55 : decode cX8_next 55 = .ok (.iload 4, 2) := by decide +kernel
theorem dX8_next_57 : decode cX8_next 57 = .ok (.istore_n 2, 1) := by decide +kernel
theorem dX8_next_58 : decode cX8_next 58 = .ok (.iinc 4 1, 3) := by decide +kernel
theorem dX8_next_61 : decode cX8_next 61 = .ok (.goto (-39), 3) := by decide +kernel
theorem dX8_next_64 : decode cX8_next 64 = .ok (.iload_n 2, 1) := by decide +kernel
theorem dX8_next_65 : decode cX8_next 65 = .ok (.ireturn, 1) := by decide +kernel
def B8_next_58 (k22 : Int32 → Int32 → Int32 → Int32 → fkS → Option (Int32 × fkS)) (v1 : Int32) (v2 : Int32) (v3 : Int32) (v4 : Int32) (st : fkS) : Option (Int32 × fkS) :=
 k22 v1 v2 v3 (v4 + (1 : Int32)) st
set_option maxHeartbeats 1000000 in
set_option maxRecDepth 20000 in
theorem T8_next_58 {g : fkG} {k : fkK} (hk : fk_ok wM g k RX8 cX8_next 6 (some (.int)) 5 149) (k22 : Int32 → Int32 → Int32 → Int32 → fkS → Option (Int32 × fkS)) (H22 : ∀ (v1 : Int32) (v2 : Int32) (v3 : Int32) (v4 : Int32) (st : fkS), fk_J wM g fk_eI k 22 [(0, fk_r g 0), (1, .int v1), (2, .int v2), (3, .int v3), (4, .int v4)] [] st (k22 v1 v2 v3 v4 st)) : ∀ (v1 : Int32) (v2 : Int32) (v3 : Int32) (v4 : Int32) (st : fkS), fk_J wM g fk_eI k 58 [(0, fk_r g 0), (1, .int v1), (2, .int v2), (3, .int v3), (4, .int v4)] [] st (B8_next_58 k22 v1 v2 v3 v4 st) := by
  intro v1 v2 v3 v4 st
  unfold B8_next_58
  refine j_iinc (dd := (1 : Int32)) (lv' := ((4, .int (v4 + (1 : Int32))) :: [(0, fk_r g 0), (1, .int v1), (2, .int v2), (3, .int v3)])) (pc := 58) hk 4 rfl (by decide) (by decide) rfl dX8_next_58 ?_
  refine j_sub hk (lv' := [(0, fk_r g 0), (1, .int v1), (2, .int v2), (3, .int v3), (4, .int (v4 + (1 : Int32)))]) [1, 2, 3, 4, 0] rfl ?_
  refine j_goto (tgt := 22) (pc := 61) hk (by decide) dX8_next_61 ?_
  exact j_sub hk [0, 1, 2, 3, 4] rfl (H22 v1 v2 v3 (v4 + (1 : Int32)) st)
def B8_next_22 (k22 : Int32 → Int32 → Int32 → Int32 → fkS → Option (Int32 × fkS)) (v1 : Int32) (v2 : Int32) (v3 : Int32) (v4 : Int32) (st : fkS) : Option (Int32 × fkS) :=
 if (10 : Int32) ≤ v4 then
 (some (v2, st))
 else
 (fk_bind (F8_lays (1 : Int32) v4 st) <| fun _ st5 =>
 fk_bind (F8_worst v1 st5) <| fun x6 st7 =>
 if x6 < v3 then
 (B8_next_58 k22 v1 v4 x6 v4 st7)
 else
 (B8_next_58 k22 v1 v2 v3 v4 st7))
set_option maxHeartbeats 1000000 in
set_option maxRecDepth 20000 in
theorem T8_next_22 {g : fkG} {k : fkK} (hk : fk_ok wM g k RX8 cX8_next 6 (some (.int)) 5 149) (k22 : Int32 → Int32 → Int32 → Int32 → fkS → Option (Int32 × fkS)) (H22 : ∀ (v1 : Int32) (v2 : Int32) (v3 : Int32) (v4 : Int32) (st : fkS), fk_J wM g fk_eI k 22 [(0, fk_r g 0), (1, .int v1), (2, .int v2), (3, .int v3), (4, .int v4)] [] st (k22 v1 v2 v3 v4 st)) : ∀ (v1 : Int32) (v2 : Int32) (v3 : Int32) (v4 : Int32) (st : fkS), fk_J wM g fk_eI k 22 [(0, fk_r g 0), (1, .int v1), (2, .int v2), (3, .int v3), (4, .int v4)] [] st (B8_next_22 k22 v1 v2 v3 v4 st) := by
  intro v1 v2 v3 v4 st
  unfold B8_next_22
  refine j_iload (pc := 22) hk 4 rfl dX8_next_22 ?_
  refine j_bipush (pc := 24) hk dX8_next_24 (v := 10) (by decide) ?_
  refine j_icmp_ge (tgt := 64) (pc := 26) hk (by decide) dX8_next_26 (fun _ => ?_) (fun _ => ?_)
  · refine j_iload_n (pc := 64) hk 2 rfl dX8_next_64 ?_
    exact j_iret (pc := 65) hk dX8_next_65
  · refine j_aload_n (pc := 29) hk 0 rfl ⟨_, rfl⟩ dX8_next_29 ?_
    refine j_iconst (pc := 30) hk dX8_next_30 (v := 1) (by decide) ?_
    refine j_iload (pc := 31) hk 4 rfl dX8_next_31 ?_
    refine j_callVv (pc := 33) hk [.int (1 : Int32), .int v4] [] rfl (fun l o hq9 => C8_lays (1 : Int32) v4 st l o hq9) (rcv_8 (rfl)) yv_X8_lays ml_8_230 rfl (Nat.le_of_ble_eq_true rfl) (Nat.le_of_ble_eq_true rfl) (Nat.le_of_ble_eq_true rfl) dX8_next_33 (fun _ st5 => ?_)
    refine j_aload_n (pc := 36) hk 0 rfl ⟨_, rfl⟩ dX8_next_36 ?_
    refine j_iload_n (pc := 37) hk 1 rfl dX8_next_37 ?_
    refine j_callVi (pc := 38) hk [.int v1] [] rfl (fun l o hq9 => C8_worst v1 st5 l o hq9) (rcv_8 (rfl)) yv_X8_worst ml_8_251 rfl (Nat.le_of_ble_eq_true rfl) (Nat.le_of_ble_eq_true rfl) (Nat.le_of_ble_eq_true rfl) dX8_next_38 (fun x6 st7 => ?_)
    refine j_istore (lv' := ((5, .int x6) :: [(0, fk_r g 0), (1, .int v1), (2, .int v2), (3, .int v3), (4, .int v4)])) (pc := 41) hk (by decide) rfl dX8_next_41 ?_
    refine j_sub hk (lv' := [(0, fk_r g 0), (1, .int v1), (2, .int v2), (3, .int v3), (4, .int v4), (5, .int x6)]) [1, 2, 3, 4, 5, 0] rfl ?_
    refine j_iload (pc := 43) hk 5 rfl dX8_next_43 ?_
    refine j_iload_n (pc := 45) hk 3 rfl dX8_next_45 ?_
    refine j_icmp_lt (tgt := 52) (pc := 46) hk (by decide) dX8_next_46 (fun _ => ?_) (fun _ => ?_)
    · refine j_iload (pc := 52) hk 5 rfl dX8_next_52 ?_
      refine j_istore_n (lv' := ((3, .int x6) :: [(0, fk_r g 0), (1, .int v1), (2, .int v2), (4, .int v4), (5, .int x6)])) (pc := 54) hk rfl (by decide) rfl dX8_next_54 ?_
      refine j_sub hk (lv' := [(0, fk_r g 0), (1, .int v1), (2, .int v2), (3, .int x6), (4, .int v4), (5, .int x6)]) [1, 2, 3, 0, 4, 5] rfl ?_
      refine j_iload (pc := 55) hk 4 rfl dX8_next_55 ?_
      refine j_istore_n (lv' := ((2, .int v4) :: [(0, fk_r g 0), (1, .int v1), (3, .int x6), (4, .int v4), (5, .int x6)])) (pc := 57) hk rfl (by decide) rfl dX8_next_57 ?_
      refine j_sub hk (lv' := [(0, fk_r g 0), (1, .int v1), (2, .int v4), (3, .int x6), (4, .int v4), (5, .int x6)]) [1, 2, 0, 3, 4, 5] rfl ?_
      exact j_sub hk [0, 1, 2, 3, 4] rfl (T8_next_58 hk k22 H22 v1 v4 x6 v4 st7)
    · refine j_goto (tgt := 58) (pc := 49) hk (by decide) dX8_next_49 ?_
      exact j_sub hk [0, 1, 2, 3, 4] rfl (T8_next_58 hk k22 H22 v1 v2 v3 v4 st7)
set_option maxHeartbeats 1000000 in
set_option maxRecDepth 20000 in
theorem L8_next_22 {g : fkG} {k : fkK} (hk : fk_ok wM g k RX8 cX8_next 6 (some (.int)) 5 149) (fu : Nat) : ∀ (v1 : Int32) (v2 : Int32) (v3 : Int32) (v4 : Int32) (st : fkS), fk_J wM g fk_eI k 22 [(0, fk_r g 0), (1, .int v1), (2, .int v2), (3, .int v3), (4, .int v4)] [] st (fk_lp4 (B8_next_22) fu v1 v2 v3 v4 st) := by
  induction fu with
  | zero =>
    intro v1 v2 v3 v4 st
    exact j_none hk
  | succ fu ih =>
    exact T8_next_22 hk _ ih
def F8_next (p1 : Int32) (st : fkS) : Option (Int32 × fkS) :=
 fk_bind (F8_isBird p1 st) <| fun x1 st2 =>
 if x1 = 0 then
 (fk_bind (F8_no10 (-1 : Int32) st2) <| fun x3 st4 =>
 some (x3, st4))
 else
 (fk_lp4 (B8_next_22) fk_fuel p1 (-1 : Int32) (7 : Int32) (0 : Int32) st2)
set_option maxHeartbeats 1000000 in
set_option maxRecDepth 20000 in
theorem C8_next (p1 : Int32) (st : fkS) {g : fkG} (l : Launch) (o : Int32 × fkS) (hF : F8_next p1 st = some o) : fk_C wM yX8_next cX8_next 6 (some (.int)) 5 149 l g [fk_r g 0, .int p1] st (fk_eI o.1) o.2 := by
  refine fk_begin rfl (Nat.le_of_ble_eq_true rfl) (fun k hk => ?_) o hF
  have hk : fk_ok wM g k RX8 cX8_next 6 (some (.int)) 5 149 := hk
  show fk_J wM g fk_eI k 0 [(0, fk_r g 0), (1, .int p1)] [] st (F8_next p1 st)
  unfold F8_next
  refine j_aload_n (pc := 0) hk 0 rfl ⟨_, rfl⟩ dX8_next_0 ?_
  refine j_iload_n (pc := 1) hk 1 rfl dX8_next_1 ?_
  refine j_callVi (pc := 2) hk [.int p1] [] rfl (fun l o hq9 => C8_isBird p1 st l o hq9) (rcv_8 (rfl)) yv_X8_isBird ml_8_99 rfl (Nat.le_of_ble_eq_true rfl) (Nat.le_of_ble_eq_true rfl) (Nat.le_of_ble_eq_true rfl) dX8_next_2 (fun x1 st2 => ?_)
  refine j_if_ne (tgt := 14) (pc := 5) hk (by decide) dX8_next_5 (fun _ => ?_) (fun _ => ?_)
  · refine j_aload_n (pc := 8) hk 0 rfl ⟨_, rfl⟩ dX8_next_8 ?_
    refine j_iconst (pc := 9) hk dX8_next_9 (v := -1) (by decide) ?_
    refine j_callVi (pc := 10) hk [.int (-1 : Int32)] [] rfl (fun l o hq9 => C8_no10 (-1 : Int32) st2 l o hq9) (rcv_8 (rfl)) yv_X8_no10 ml_8_105 rfl (Nat.le_of_ble_eq_true rfl) (Nat.le_of_ble_eq_true rfl) (Nat.le_of_ble_eq_true rfl) dX8_next_10 (fun x3 st4 => ?_)
    exact j_iret (pc := 13) hk dX8_next_13
  · refine j_iconst (pc := 14) hk dX8_next_14 (v := -1) (by decide) ?_
    refine j_istore_n (lv' := ((2, .int (-1 : Int32)) :: [(0, fk_r g 0), (1, .int p1)])) (pc := 15) hk rfl (by decide) rfl dX8_next_15 ?_
    refine j_sub hk (lv' := [(0, fk_r g 0), (1, .int p1), (2, .int (-1 : Int32))]) [1, 2, 0] rfl ?_
    refine j_bipush (pc := 16) hk dX8_next_16 (v := 7) (by decide) ?_
    refine j_istore_n (lv' := ((3, .int (7 : Int32)) :: [(0, fk_r g 0), (1, .int p1), (2, .int (-1 : Int32))])) (pc := 18) hk rfl (by decide) rfl dX8_next_18 ?_
    refine j_sub hk (lv' := [(0, fk_r g 0), (1, .int p1), (2, .int (-1 : Int32)), (3, .int (7 : Int32))]) [1, 2, 3, 0] rfl ?_
    refine j_iconst (pc := 19) hk dX8_next_19 (v := 0) (by decide) ?_
    refine j_istore (lv' := ((4, .int (0 : Int32)) :: [(0, fk_r g 0), (1, .int p1), (2, .int (-1 : Int32)), (3, .int (7 : Int32))])) (pc := 20) hk (by decide) rfl dX8_next_20 ?_
    refine j_sub hk (lv' := [(0, fk_r g 0), (1, .int p1), (2, .int (-1 : Int32)), (3, .int (7 : Int32)), (4, .int (0 : Int32))]) [1, 2, 3, 4, 0] rfl ?_
    exact j_sub hk [0, 1, 2, 3, 4] rfl (L8_next_22 hk fk_fuel p1 (-1 : Int32) (7 : Int32) (0 : Int32) st2)
theorem dX8_unknown_0 : decode cX8_unknown 0 = .ok (.iconst 0, 1) := by decide +kernel
theorem dX8_unknown_1 : decode cX8_unknown 1 = .ok (.istore_n 1, 1) := by decide +kernel
theorem dX8_unknown_2 : decode cX8_unknown 2 = .ok (.iconst 0, 1) := by decide +kernel
theorem dX8_unknown_3 : decode cX8_unknown 3 = .ok (.istore_n 2, 1) := by decide +kernel
theorem dX8_unknown_4 : decode cX8_unknown 4 = .ok (.iload_n 2, 1) := by decide +kernel
theorem dX8_unknown_5 : decode cX8_unknown 5 = .ok (.aload_n 0, 1) := by decide +kernel
theorem dX8_unknown_6 : decode cX8_unknown 6 = .ok (.getfield 112, 3) := by decide +kernel
theorem dX8_unknown_9 : decode cX8_unknown 9 = .ok (.if_icmp .ge 22, 3) := by decide +kernel
theorem dX8_unknown_12 : decode cX8_unknown 12 = .ok (.aload_n 0, 1) := by decide +kernel
theorem dX8_unknown_13 : decode cX8_unknown 13 = .ok (.getfield 50, 3) := by decide +kernel
theorem dX8_unknown_16 : decode cX8_unknown 16 = .ok (.iload_n 2, 1) := by decide +kernel
theorem dX8_unknown_17 : decode cX8_unknown 17 = .ok (.iaload, 1) := by decide +kernel
theorem dX8_unknown_18 : decode cX8_unknown 18 = .ok (.iconst (-1), 1) := by decide +kernel
theorem dX8_unknown_19 : decode cX8_unknown 19 = .ok (.if_icmp .ne 6, 3) := by decide +kernel
theorem dX8_unknown_22 : decode cX8_unknown 22 = .ok (.iinc 1 1, 3) := by decide +kernel
theorem dX8_unknown_25 : decode cX8_unknown 25 = .ok (.iinc 2 1, 3) := by decide +kernel
theorem dX8_unknown_28 : decode cX8_unknown 28 = .ok (.goto (-24), 3) := by decide +kernel
theorem dX8_unknown_31 : decode cX8_unknown 31 = .ok (.iload_n 1, 1) := by decide +kernel
theorem dX8_unknown_32 : decode cX8_unknown 32 = .ok (.ireturn, 1) := by decide +kernel
def B8_unknown_25 (k4 : Int32 → Int32 → fkS → Option (Int32 × fkS)) (v1 : Int32) (v2 : Int32) (st : fkS) : Option (Int32 × fkS) :=
 k4 v1 (v2 + (1 : Int32)) st
set_option maxHeartbeats 1000000 in
set_option maxRecDepth 20000 in
theorem T8_unknown_25 {g : fkG} {k : fkK} (hk : fk_ok wM g k RX8 cX8_unknown 3 (some (.int)) 0 0) (k4 : Int32 → Int32 → fkS → Option (Int32 × fkS)) (H4 : ∀ (v1 : Int32) (v2 : Int32) (st : fkS), fk_J wM g fk_eI k 4 [(0, fk_r g 0), (1, .int v1), (2, .int v2)] [] st (k4 v1 v2 st)) : ∀ (v1 : Int32) (v2 : Int32) (st : fkS), fk_J wM g fk_eI k 25 [(0, fk_r g 0), (1, .int v1), (2, .int v2)] [] st (B8_unknown_25 k4 v1 v2 st) := by
  intro v1 v2 st
  unfold B8_unknown_25
  refine j_iinc (dd := (1 : Int32)) (lv' := ((2, .int (v2 + (1 : Int32))) :: [(0, fk_r g 0), (1, .int v1)])) (pc := 25) hk 2 rfl (by decide) (by decide) rfl dX8_unknown_25 ?_
  refine j_sub hk (lv' := [(0, fk_r g 0), (1, .int v1), (2, .int (v2 + (1 : Int32)))]) [1, 2, 0] rfl ?_
  refine j_goto (tgt := 4) (pc := 28) hk (by decide) dX8_unknown_28 ?_
  exact j_sub hk [0, 1, 2] rfl (H4 v1 (v2 + (1 : Int32)) st)
def B8_unknown_4 (k4 : Int32 → Int32 → fkS → Option (Int32 × fkS)) (v1 : Int32) (v2 : Int32) (st : fkS) : Option (Int32 × fkS) :=
 fk_let (gI st 22 0) <| fun x1 =>
 if x1 ≤ v2 then
 (some (v1, st))
 else
 (fk_chk (fk_in v2 8) <| fk_let (gA st 14 v2.toNatClampNeg) <| fun x2 =>
 if x2 = (-1 : Int32) then
 (B8_unknown_25 k4 (v1 + (1 : Int32)) v2 st)
 else
 (B8_unknown_25 k4 v1 v2 st))
set_option maxHeartbeats 1000000 in
set_option maxRecDepth 20000 in
theorem T8_unknown_4 {g : fkG} {k : fkK} (hk : fk_ok wM g k RX8 cX8_unknown 3 (some (.int)) 0 0) (k4 : Int32 → Int32 → fkS → Option (Int32 × fkS)) (H4 : ∀ (v1 : Int32) (v2 : Int32) (st : fkS), fk_J wM g fk_eI k 4 [(0, fk_r g 0), (1, .int v1), (2, .int v2)] [] st (k4 v1 v2 st)) : ∀ (v1 : Int32) (v2 : Int32) (st : fkS), fk_J wM g fk_eI k 4 [(0, fk_r g 0), (1, .int v1), (2, .int v2)] [] st (B8_unknown_4 k4 v1 v2 st) := by
  intro v1 v2 st
  unfold B8_unknown_4
  refine j_iload_n (pc := 4) hk 2 rfl dX8_unknown_4 ?_
  refine j_aload_n (pc := 5) hk 0 rfl ⟨_, rfl⟩ dX8_unknown_5 ?_
  refine f_8_112 (pc := 6) hk (rfl) dX8_unknown_6 (fun x1 => ?_)
  refine j_icmp_ge (tgt := 31) (pc := 9) hk (by decide) dX8_unknown_9 (fun _ => ?_) (fun _ => ?_)
  · refine j_iload_n (pc := 31) hk 1 rfl dX8_unknown_31 ?_
    exact j_iret (pc := 32) hk dX8_unknown_32
  · refine j_aload_n (pc := 12) hk 0 rfl ⟨_, rfl⟩ dX8_unknown_12 ?_
    refine f_8_50 (pc := 13) hk (rfl) dX8_unknown_13 ?_
    refine j_iload_n (pc := 16) hk 2 rfl dX8_unknown_16 ?_
    refine a_iload (pc := 17) hk (isI_8_23) dX8_unknown_17 (fun x2 => ?_)
    refine j_iconst (pc := 18) hk dX8_unknown_18 (v := -1) (by decide) ?_
    refine j_icmp_ne (tgt := 25) (pc := 19) hk (by decide) dX8_unknown_19 (fun _ => ?_) (fun _ => ?_)
    · refine j_iinc (dd := (1 : Int32)) (lv' := ((1, .int (v1 + (1 : Int32))) :: [(0, fk_r g 0), (2, .int v2)])) (pc := 22) hk 1 rfl (by decide) (by decide) rfl dX8_unknown_22 ?_
      refine j_sub hk (lv' := [(0, fk_r g 0), (1, .int (v1 + (1 : Int32))), (2, .int v2)]) [1, 0, 2] rfl ?_
      exact j_sub hk [0, 1, 2] rfl (T8_unknown_25 hk k4 H4 (v1 + (1 : Int32)) v2 st)
    · exact j_sub hk [0, 1, 2] rfl (T8_unknown_25 hk k4 H4 v1 v2 st)
set_option maxHeartbeats 1000000 in
set_option maxRecDepth 20000 in
theorem L8_unknown_4 {g : fkG} {k : fkK} (hk : fk_ok wM g k RX8 cX8_unknown 3 (some (.int)) 0 0) (fu : Nat) : ∀ (v1 : Int32) (v2 : Int32) (st : fkS), fk_J wM g fk_eI k 4 [(0, fk_r g 0), (1, .int v1), (2, .int v2)] [] st (fk_lp2 (B8_unknown_4) fu v1 v2 st) := by
  induction fu with
  | zero =>
    intro v1 v2 st
    exact j_none hk
  | succ fu ih =>
    exact T8_unknown_4 hk _ ih
def F8_unknown (st : fkS) : Option (Int32 × fkS) :=
 fk_lp2 (B8_unknown_4) fk_fuel (0 : Int32) (0 : Int32) st
set_option maxHeartbeats 1000000 in
set_option maxRecDepth 20000 in
theorem C8_unknown (st : fkS) {g : fkG} (l : Launch) (o : Int32 × fkS) (hF : F8_unknown st = some o) : fk_C wM yX8_unknown cX8_unknown 3 (some (.int)) 0 0 l g [fk_r g 0] st (fk_eI o.1) o.2 := by
  refine fk_begin rfl (Nat.le_of_ble_eq_true rfl) (fun k hk => ?_) o hF
  have hk : fk_ok wM g k RX8 cX8_unknown 3 (some (.int)) 0 0 := hk
  show fk_J wM g fk_eI k 0 [(0, fk_r g 0)] [] st (F8_unknown st)
  unfold F8_unknown
  refine j_iconst (pc := 0) hk dX8_unknown_0 (v := 0) (by decide) ?_
  refine j_istore_n (lv' := ((1, .int (0 : Int32)) :: [(0, fk_r g 0)])) (pc := 1) hk rfl (by decide) rfl dX8_unknown_1 ?_
  refine j_sub hk (lv' := [(0, fk_r g 0), (1, .int (0 : Int32))]) [1, 0] rfl ?_
  refine j_iconst (pc := 2) hk dX8_unknown_2 (v := 0) (by decide) ?_
  refine j_istore_n (lv' := ((2, .int (0 : Int32)) :: [(0, fk_r g 0), (1, .int (0 : Int32))])) (pc := 3) hk rfl (by decide) rfl dX8_unknown_3 ?_
  refine j_sub hk (lv' := [(0, fk_r g 0), (1, .int (0 : Int32)), (2, .int (0 : Int32))]) [1, 2, 0] rfl ?_
  exact j_sub hk [0, 1, 2] rfl (L8_unknown_4 hk fk_fuel (0 : Int32) (0 : Int32) st)
theorem dX8_chance_0 : decode cX8_chance 0 = .ok (.aload_n 0, 1) := by decide +kernel
theorem dX8_chance_1 : decode cX8_chance 1 = .ok (.iload_n 1, 1) := by decide +kernel
theorem dX8_chance_2 : decode cX8_chance 2 = .ok (.iload_n 2, 1) := by decide +kernel
theorem dX8_chance_3 : decode cX8_chance 3 = .ok (.invokevirtual 218, 3) := by decide +kernel
theorem dX8_chance_6 : decode cX8_chance 6 = .ok (.istore 5, 2) := by decide +kernel
theorem dX8_chance_8 : decode cX8_chance 8 = .ok (.iload 5, 2) := by decide +kernel
theorem dX8_chance_10 : decode cX8_chance 10 = .ok (.ifCond .ge 10, 3) := by decide +kernel
theorem dX8_chance_13 : decode cX8_chance 13 = .ok (.aload_n 0, 1) := by decide +kernel
theorem dX8_chance_14 : decode cX8_chance 14 = .ok (.iload 5, 2) := by decide +kernel
theorem dX8_chance_16 : decode cX8_chance 16 = .ok (.invokevirtual 81, 3) := by decide +kernel
theorem dX8_chance_19 : decode cX8_chance 19 = .ok (.ireturn, 1) := by decide +kernel
theorem dX8_chance_20 : decode cX8_chance 20 = .ok (.iload 4, 2) := by decide +kernel
theorem dX8_chance_22 : decode cX8_chance 22 = .ok (.iconst 0, 1) := by decide +kernel
theorem dX8_chance_23 : decode cX8_chance 23 = .ok (.iconst 1, 1) := by decide +kernel
theorem dX8_chance_24 : decode cX8_chance 24 = .ok (.invokestatic 88, 3) := by decide +kernel
theorem dX8_chance_27 : decode cX8_chance 27 = .ok (.ifCond .ne 10, 3) := by decide +kernel
theorem dX8_chance_30 : decode cX8_chance 30 = .ok (.aload_n 0, 1) := by decide +kernel
theorem dX8_chance_31 : decode cX8_chance 31 = .ok (.bipush (-5), 2) := by decide +kernel
theorem dX8_chance_33 : decode cX8_chance 33 = .ok (.invokevirtual 81, 3) := by decide +kernel
theorem dX8_chance_36 : decode cX8_chance 36 = .ok (.ireturn, 1) := by decide +kernel
theorem dX8_chance_37 : decode cX8_chance 37 = .ok (.aload_n 0, 1) := by decide +kernel
theorem dX8_chance_38 : decode cX8_chance 38 = .ok (.iload_n 1, 1) := by decide +kernel
theorem dX8_chance_39 : decode cX8_chance 39 = .ok (.iconst (-1), 1) := by decide +kernel
theorem dX8_chance_40 : decode cX8_chance 40 = .ok (.invokevirtual 221, 3) := by decide +kernel
theorem dX8_chance_43 : decode cX8_chance 43 = .ok (.ifCond .eq 23, 3) := by decide +kernel
theorem dX8_chance_46 : decode cX8_chance 46 = .ok (.aload_n 0, 1) := by decide +kernel
theorem dX8_chance_47 : decode cX8_chance 47 = .ok (.invokevirtual 254, 3) := by decide +kernel
theorem dX8_chance_50 : decode cX8_chance 50 = .ok (.iconst 3, 1) := by decide +kernel
theorem dX8_chance_51 : decode cX8_chance 51 = .ok (.if_icmp .gt 15, 3) := by decide +kernel
theorem dX8_chance_54 : decode cX8_chance 54 = .ok (.iload 4, 2) := by decide +kernel
theorem dX8_chance_56 : decode cX8_chance 56 = .ok (.ifCond .ne 17, 3) := by decide +kernel
theorem dX8_chance_59 : decode cX8_chance 59 = .ok (.iload_n 3, 1) := by decide +kernel
theorem dX8_chance_60 : decode cX8_chance 60 = .ok (.invokestatic 126, 3) := by decide +kernel
theorem dX8_chance_63 : decode cX8_chance 63 = .ok (.ifCond .ne 10, 3) := by decide +kernel
theorem dX8_chance_66 : decode cX8_chance 66 = .ok (.aload_n 0, 1) := by decide +kernel
theorem dX8_chance_67 : decode cX8_chance 67 = .ok (.bipush (-6), 2) := by decide +kernel
theorem dX8_chance_69 : decode cX8_chance 69 = .ok (.invokevirtual 81, 3) := by decide +kernel
theorem dX8_chance_72 : decode cX8_chance 72 = .ok (.ireturn, 1) := by decide +kernel
theorem dX8_chance_73 : decode cX8_chance 73 = .ok (.aload_n 0, 1) := by decide +kernel
theorem dX8_chance_74 : decode cX8_chance 74 = .ok (.invokevirtual 254, 3) := by decide +kernel
theorem dX8_chance_77 : decode cX8_chance 77 = .ok (.istore 6, 2) := by decide +kernel
theorem dX8_chance_79 : decode cX8_chance 79 = .ok (.iconst 0, 1) := by decide +kernel
theorem dX8_chance_80 : decode cX8_chance 80 = .ok (.istore 7, 2) := by decide +kernel
theorem dX8_chance_82 : decode cX8_chance 82 = .ok (.iconst 0, 1) := by decide +kernel
theorem dX8_chance_83 : decode cX8_chance 83 = .ok (.istore 8, 2) := by decide +kernel
theorem dX8_chance_85 : decode cX8_chance 85 = .ok (.iconst 0, 1) := by decide +kernel
theorem dX8_chance_86 : decode cX8_chance 86 = .ok (.istore 9, 2) := by decide +kernel
theorem dX8_chance_88 : decode cX8_chance 88 = .ok (.iload 9, 2) := by decide +kernel
theorem dX8_chance_90 : decode cX8_chance 90 = .ok (.iload 6, 2) := by decide +kernel
theorem dX8_chance_92 : decode cX8_chance 92 = .ok (.invokestatic 227, 3) := by decide +kernel
theorem dX8_chance_95 : decode cX8_chance 95 = .ok (.if_icmp .ge 102, 3) := by decide +kernel
theorem dX8_chance_98 : decode cX8_chance 98 = .ok (.aload_n 0, 1) := by decide +kernel
theorem dX8_chance_99 : decode cX8_chance 99 = .ok (.iload_n 1, 1) := by decide +kernel
theorem dX8_chance_100 : decode cX8_chance 100 = .ok (.iconst (-1), 1) := by decide +kernel
theorem dX8_chance_101 : decode cX8_chance 101 = .ok (.invokevirtual 221, 3) := by decide +kernel
theorem dX8_chance_104 : decode cX8_chance 104 = .ok (.pop, 1) := by decide +kernel
theorem dX8_chance_105 : decode cX8_chance 105 = .ok (.iload 9, 2) := by decide +kernel
theorem dX8_chance_107 : decode cX8_chance 107 = .ok (.istore 10, 2) := by decide +kernel
theorem dX8_chance_109 : decode cX8_chance 109 = .ok (.iconst 0, 1) := by decide +kernel
theorem dX8_chance_110 : decode cX8_chance 110 = .ok (.istore 11, 2) := by decide +kernel
theorem dX8_chance_112 : decode cX8_chance 112 = .ok (.iload 11, 2) := by decide +kernel
theorem dX8_chance_114 : decode cX8_chance 114 = .ok (.aload_n 0, 1) := by decide +kernel
theorem dX8_chance_115 : decode cX8_chance 115 = .ok (.getfield 112, 3) := by decide +kernel
theorem dX8_chance_118 : decode cX8_chance 118 = .ok (.if_icmp .ge 42, 3) := by decide +kernel
theorem dX8_chance_121 : decode cX8_chance 121 = .ok (.aload_n 0, 1) := by decide +kernel
theorem dX8_chance_122 : decode cX8_chance 122 = .ok (.getfield 50, 3) := by decide +kernel
theorem dX8_chance_125 : decode cX8_chance 125 = .ok (.iload 11, 2) := by decide +kernel
theorem dX8_chance_127 : decode cX8_chance 127 = .ok (.iaload, 1) := by decide +kernel
theorem dX8_chance_128 : decode cX8_chance 128 = .ok (.iconst (-1), 1) := by decide +kernel
theorem dX8_chance_129 : decode cX8_chance 129 = .ok (.if_icmp .eq 6, 3) := by decide +kernel
theorem dX8_chance_132 : decode cX8_chance 132 = .ok (.goto 22, 3) := by decide +kernel
theorem dX8_chance_135 : decode cX8_chance 135 = .ok (.aload_n 0, 1) := by decide +kernel
theorem dX8_chance_136 : decode cX8_chance 136 = .ok (.getfield 50, 3) := by decide +kernel
theorem dX8_chance_139 : decode cX8_chance 139 = .ok (.iload 11, 2) := by decide +kernel
theorem dX8_chance_141 : decode cX8_chance 141 = .ok (.iload 10, 2) := by decide +kernel
theorem dX8_chance_143 : decode cX8_chance 143 = .ok (.bipush 10, 2) := by decide +kernel
theorem dX8_chance_145 : decode cX8_chance 145 = .ok (.irem, 1) := by decide +kernel
theorem dX8_chance_146 : decode cX8_chance 146 = .ok (.iastore, 1) := by decide +kernel
theorem dX8_chance_147 : decode cX8_chance 147 = .ok (.iload 10, 2) := by decide +kernel
theorem dX8_chance_149 : decode cX8_chance 149 = .ok (.bipush 10, 2) := by decide +kernel
theorem dX8_chance_151 : decode cX8_chance 151 = .ok (.idiv, 1) := by decide +kernel
theorem dX8_chance_152 : decode cX8_chance 152 = .ok (.istore 10, 2) := by decide +kernel
theorem dX8_chance_154 : decode cX8_chance 154 = .ok (.iinc 11 1, 3) := by decide +kernel
theorem dX8_chance_157 : decode cX8_chance 157 = .ok (.goto (-45), 3) := by decide +kernel
theorem dX8_chance_160 : decode cX8_chance 160 = .ok (.aload_n 0, 1) := by decide +kernel
theorem dX8_chance_161 : decode cX8_chance 161 = .ok (.iload_n 2, 1) := by decide +kernel
theorem dX8_chance_162 : decode cX8_chance 162 = .ok (.aload_n 0, 1) := by decide +kernel
theorem dX8_chance_163 : decode cX8_chance 163 = .ok (.getfield 19, 3) := by decide +kernel
theorem dX8_chance_166 : decode cX8_chance 166 = .ok (.iconst 1, 1) := by decide +kernel
theorem dX8_chance_167 : decode cX8_chance 167 = .ok (.iaload, 1) := by decide +kernel
theorem dX8_chance_168 : decode cX8_chance 168 = .ok (.invokevirtual 224, 3) := by decide +kernel
theorem dX8_chance_171 : decode cX8_chance 171 = .ok (.aload_n 0, 1) := by decide +kernel
theorem dX8_chance_172 : decode cX8_chance 172 = .ok (.getfield 209, 3) := by decide +kernel
theorem dX8_chance_175 : decode cX8_chance 175 = .ok (.iload_n 3, 1) := by decide +kernel
theorem dX8_chance_176 : decode cX8_chance 176 = .ok (.if_icmp .ne 6, 3) := by decide +kernel
theorem dX8_chance_179 : decode cX8_chance 179 = .ok (.iinc 7 1, 3) := by decide +kernel
theorem dX8_chance_182 : decode cX8_chance 182 = .ok (.iload 8, 2) := by decide +kernel
theorem dX8_chance_184 : decode cX8_chance 184 = .ok (.aload_n 0, 1) := by decide +kernel
theorem dX8_chance_185 : decode cX8_chance 185 = .ok (.getfield 212, 3) := by decide +kernel
theorem dX8_chance_188 : decode cX8_chance 188 = .ok (.iadd, 1) := by decide +kernel
theorem dX8_chance_189 : decode cX8_chance 189 = .ok (.istore 8, 2) := by decide +kernel
theorem dX8_chance_191 : decode cX8_chance 191 = .ok (.iinc 9 1, 3) := by decide +kernel
theorem dX8_chance_194 : decode cX8_chance 194 = .ok (.goto (-106), 3) := by decide +kernel
theorem dX8_chance_197 : decode cX8_chance 197 = .ok (.iload 4, 2) := by decide +kernel
theorem dX8_chance_199 : decode cX8_chance 199 = .ok (.ifCond .ne 21, 3) := by decide +kernel
theorem dX8_chance_202 : decode cX8_chance 202 = .ok (.ldc2_w 257, 3) := by decide +kernel
theorem dX8_chance_205 : decode cX8_chance 205 = .ok (.iload 7, 2) := by decide +kernel
theorem dX8_chance_207 : decode cX8_chance 207 = .ok (.i2l, 1) := by decide +kernel
theorem dX8_chance_208 : decode cX8_chance 208 = .ok (.lmul, 1) := by decide +kernel
theorem dX8_chance_209 : decode cX8_chance 209 = .ok (.iload 6, 2) := by decide +kernel
theorem dX8_chance_211 : decode cX8_chance 211 = .ok (.invokestatic 227, 3) := by decide +kernel
theorem dX8_chance_214 : decode cX8_chance 214 = .ok (.i2l, 1) := by decide +kernel
theorem dX8_chance_215 : decode cX8_chance 215 = .ok (.ldiv, 1) := by decide +kernel
theorem dX8_chance_216 : decode cX8_chance 216 = .ok (.l2i, 1) := by decide +kernel
theorem dX8_chance_217 : decode cX8_chance 217 = .ok (.goto 15, 3) := by decide +kernel
theorem dX8_chance_220 : decode cX8_chance 220 = .ok (.sipush 1000, 3) := by decide +kernel
theorem dX8_chance_223 : decode cX8_chance 223 = .ok (.iload 8, 2) := by decide +kernel
theorem dX8_chance_225 : decode cX8_chance 225 = .ok (.imul, 1) := by decide +kernel
theorem dX8_chance_226 : decode cX8_chance 226 = .ok (.iload 6, 2) := by decide +kernel
theorem dX8_chance_228 : decode cX8_chance 228 = .ok (.invokestatic 227, 3) := by decide +kernel
theorem dX8_chance_231 : decode cX8_chance 231 = .ok (.idiv, 1) := by decide +kernel
theorem dX8_chance_232 : decode cX8_chance 232 = .ok (.ireturn, 1) := by decide +kernel
def B8_chance_66 (st : fkS) : Option (Int32 × fkS) :=
 fk_bind (F8_no (-6 : Int32) st) <| fun x15 st16 =>
 some (x15, st16)
set_option maxHeartbeats 1000000 in
set_option maxRecDepth 20000 in
theorem T8_chance_66 {g : fkG} {k : fkK} (hk : fk_ok wM g k RX8 cX8_chance 12 (some (.int)) 5 146) : ∀ (st : fkS), fk_J wM g fk_eI k 66 [(0, fk_r g 0)] [] st (B8_chance_66 st) := by
  intro st
  unfold B8_chance_66
  refine j_aload_n (pc := 66) hk 0 rfl ⟨_, rfl⟩ dX8_chance_66 ?_
  refine j_bipush (pc := 67) hk dX8_chance_67 (v := -6) (by decide) ?_
  refine j_callVi (pc := 69) hk [.int (-6 : Int32)] [] rfl (fun l o hq9 => C8_no (-6 : Int32) st l o hq9) (rcv_8 (rfl)) yv_X8_no ml_8_81 rfl (Nat.le_of_ble_eq_true rfl) (Nat.le_of_ble_eq_true rfl) (Nat.le_of_ble_eq_true rfl) dX8_chance_69 (fun x15 st16 => ?_)
  exact j_iret (pc := 72) hk dX8_chance_72
def B8_chance_154 (k88 : Int32 → Int32 → Int32 → Int32 → Int32 → Int32 → Int32 → Int32 → fkS → Option (Int32 × fkS)) (k112 : Int32 → Int32 → Int32 → Int32 → Int32 → Int32 → Int32 → Int32 → Int32 → Int32 → fkS → Option (Int32 × fkS)) (v1 : Int32) (v2 : Int32) (v3 : Int32) (v4 : Int32) (v6 : Int32) (v7 : Int32) (v8 : Int32) (v9 : Int32) (v10 : Int32) (v11 : Int32) (st : fkS) : Option (Int32 × fkS) :=
 k112 v1 v2 v3 v4 v6 v7 v8 v9 v10 (v11 + (1 : Int32)) st
set_option maxHeartbeats 1000000 in
set_option maxRecDepth 20000 in
theorem T8_chance_154 {g : fkG} {k : fkK} (hk : fk_ok wM g k RX8 cX8_chance 12 (some (.int)) 5 146) (k88 : Int32 → Int32 → Int32 → Int32 → Int32 → Int32 → Int32 → Int32 → fkS → Option (Int32 × fkS)) (H88 : ∀ (v1 : Int32) (v2 : Int32) (v3 : Int32) (v4 : Int32) (v6 : Int32) (v7 : Int32) (v8 : Int32) (v9 : Int32) (st : fkS), fk_J wM g fk_eI k 88 [(0, fk_r g 0), (1, .int v1), (2, .int v2), (3, .int v3), (4, .int v4), (6, .int v6), (7, .int v7), (8, .int v8), (9, .int v9)] [] st (k88 v1 v2 v3 v4 v6 v7 v8 v9 st)) (k112 : Int32 → Int32 → Int32 → Int32 → Int32 → Int32 → Int32 → Int32 → Int32 → Int32 → fkS → Option (Int32 × fkS)) (H112 : ∀ (v1 : Int32) (v2 : Int32) (v3 : Int32) (v4 : Int32) (v6 : Int32) (v7 : Int32) (v8 : Int32) (v9 : Int32) (v10 : Int32) (v11 : Int32) (st : fkS), fk_J wM g fk_eI k 112 [(0, fk_r g 0), (1, .int v1), (2, .int v2), (3, .int v3), (4, .int v4), (6, .int v6), (7, .int v7), (8, .int v8), (9, .int v9), (10, .int v10), (11, .int v11)] [] st (k112 v1 v2 v3 v4 v6 v7 v8 v9 v10 v11 st)) : ∀ (v1 : Int32) (v2 : Int32) (v3 : Int32) (v4 : Int32) (v6 : Int32) (v7 : Int32) (v8 : Int32) (v9 : Int32) (v10 : Int32) (v11 : Int32) (st : fkS), fk_J wM g fk_eI k 154 [(0, fk_r g 0), (1, .int v1), (2, .int v2), (3, .int v3), (4, .int v4), (6, .int v6), (7, .int v7), (8, .int v8), (9, .int v9), (10, .int v10), (11, .int v11)] [] st (B8_chance_154 k88 k112 v1 v2 v3 v4 v6 v7 v8 v9 v10 v11 st) := by
  intro v1 v2 v3 v4 v6 v7 v8 v9 v10 v11 st
  unfold B8_chance_154
  refine j_iinc (dd := (1 : Int32)) (lv' := ((11, .int (v11 + (1 : Int32))) :: [(0, fk_r g 0), (1, .int v1), (2, .int v2), (3, .int v3), (4, .int v4), (6, .int v6), (7, .int v7), (8, .int v8), (9, .int v9), (10, .int v10)])) (pc := 154) hk 10 rfl (by decide) (by decide) rfl dX8_chance_154 ?_
  refine j_sub hk (lv' := [(0, fk_r g 0), (1, .int v1), (2, .int v2), (3, .int v3), (4, .int v4), (6, .int v6), (7, .int v7), (8, .int v8), (9, .int v9), (10, .int v10), (11, .int (v11 + (1 : Int32)))]) [1, 2, 3, 4, 5, 6, 7, 8, 9, 10, 0] rfl ?_
  refine j_goto (tgt := 112) (pc := 157) hk (by decide) dX8_chance_157 ?_
  exact j_sub hk [0, 1, 2, 3, 4, 5, 6, 7, 8, 9, 10] rfl (H112 v1 v2 v3 v4 v6 v7 v8 v9 v10 (v11 + (1 : Int32)) st)
def B8_chance_182 (k88 : Int32 → Int32 → Int32 → Int32 → Int32 → Int32 → Int32 → Int32 → fkS → Option (Int32 × fkS)) (v1 : Int32) (v2 : Int32) (v3 : Int32) (v4 : Int32) (v6 : Int32) (v7 : Int32) (v8 : Int32) (v9 : Int32) (st : fkS) : Option (Int32 × fkS) :=
 fk_let (gI st 27 0) <| fun x35 =>
 k88 v1 v2 v3 v4 v6 v7 (v8 + x35) (v9 + (1 : Int32)) st
set_option maxHeartbeats 1000000 in
set_option maxRecDepth 20000 in
theorem T8_chance_182 {g : fkG} {k : fkK} (hk : fk_ok wM g k RX8 cX8_chance 12 (some (.int)) 5 146) (k88 : Int32 → Int32 → Int32 → Int32 → Int32 → Int32 → Int32 → Int32 → fkS → Option (Int32 × fkS)) (H88 : ∀ (v1 : Int32) (v2 : Int32) (v3 : Int32) (v4 : Int32) (v6 : Int32) (v7 : Int32) (v8 : Int32) (v9 : Int32) (st : fkS), fk_J wM g fk_eI k 88 [(0, fk_r g 0), (1, .int v1), (2, .int v2), (3, .int v3), (4, .int v4), (6, .int v6), (7, .int v7), (8, .int v8), (9, .int v9)] [] st (k88 v1 v2 v3 v4 v6 v7 v8 v9 st)) : ∀ (v1 : Int32) (v2 : Int32) (v3 : Int32) (v4 : Int32) (v6 : Int32) (v7 : Int32) (v8 : Int32) (v9 : Int32) (st : fkS), fk_J wM g fk_eI k 182 [(0, fk_r g 0), (1, .int v1), (2, .int v2), (3, .int v3), (4, .int v4), (6, .int v6), (7, .int v7), (8, .int v8), (9, .int v9)] [] st (B8_chance_182 k88 v1 v2 v3 v4 v6 v7 v8 v9 st) := by
  intro v1 v2 v3 v4 v6 v7 v8 v9 st
  unfold B8_chance_182
  refine j_iload (pc := 182) hk 7 rfl dX8_chance_182 ?_
  refine j_aload_n (pc := 184) hk 0 rfl ⟨_, rfl⟩ dX8_chance_184 ?_
  refine f_8_212 (pc := 185) hk (rfl) dX8_chance_185 (fun x35 => ?_)
  refine j_iadd (pc := 188) hk dX8_chance_188 ?_
  refine j_istore (lv' := ((8, .int (v8 + x35)) :: [(0, fk_r g 0), (1, .int v1), (2, .int v2), (3, .int v3), (4, .int v4), (6, .int v6), (7, .int v7), (9, .int v9)])) (pc := 189) hk (by decide) rfl dX8_chance_189 ?_
  refine j_sub hk (lv' := [(0, fk_r g 0), (1, .int v1), (2, .int v2), (3, .int v3), (4, .int v4), (6, .int v6), (7, .int v7), (8, .int (v8 + x35)), (9, .int v9)]) [1, 2, 3, 4, 5, 6, 7, 0, 8] rfl ?_
  refine j_iinc (dd := (1 : Int32)) (lv' := ((9, .int (v9 + (1 : Int32))) :: [(0, fk_r g 0), (1, .int v1), (2, .int v2), (3, .int v3), (4, .int v4), (6, .int v6), (7, .int v7), (8, .int (v8 + x35))])) (pc := 191) hk 8 rfl (by decide) (by decide) rfl dX8_chance_191 ?_
  refine j_sub hk (lv' := [(0, fk_r g 0), (1, .int v1), (2, .int v2), (3, .int v3), (4, .int v4), (6, .int v6), (7, .int v7), (8, .int (v8 + x35)), (9, .int (v9 + (1 : Int32)))]) [1, 2, 3, 4, 5, 6, 7, 8, 0] rfl ?_
  refine j_goto (tgt := 88) (pc := 194) hk (by decide) dX8_chance_194 ?_
  exact j_sub hk [0, 1, 2, 3, 4, 5, 6, 7, 8] rfl (H88 v1 v2 v3 v4 v6 v7 (v8 + x35) (v9 + (1 : Int32)) st)
def B8_chance_112 (k88 : Int32 → Int32 → Int32 → Int32 → Int32 → Int32 → Int32 → Int32 → fkS → Option (Int32 × fkS)) (k112 : Int32 → Int32 → Int32 → Int32 → Int32 → Int32 → Int32 → Int32 → Int32 → Int32 → fkS → Option (Int32 × fkS)) (v1 : Int32) (v2 : Int32) (v3 : Int32) (v4 : Int32) (v6 : Int32) (v7 : Int32) (v8 : Int32) (v9 : Int32) (v10 : Int32) (v11 : Int32) (st : fkS) : Option (Int32 × fkS) :=
 fk_let (gI st 22 0) <| fun x29 =>
 if x29 ≤ v11 then
 (fk_chk (fk_in (1 : Int32) 3) <| fk_let (gA st 4 (1 : Int32).toNatClampNeg) <| fun x30 =>
 fk_bind (F8_goes v2 x30 st) <| fun _ st31 =>
 fk_let (gI st31 26 0) <| fun x32 =>
 if x32 = v3 then
 (B8_chance_182 k88 v1 v2 v3 v4 v6 (v7 + (1 : Int32)) v8 v9 st31)
 else
 (B8_chance_182 k88 v1 v2 v3 v4 v6 v7 v8 v9 st31))
 else
 (fk_chk (fk_in v11 8) <| fk_let (gA st 14 v11.toNatClampNeg) <| fun x33 =>
 if x33 = (-1 : Int32) then
 (fk_chk (fk_in v11 8) <| fk_let (sA st 14 v11.toNatClampNeg (fk_rem v10 (10 : Int32))) <| fun st34 =>
 B8_chance_154 k88 k112 v1 v2 v3 v4 v6 v7 v8 v9 (v10 / (10 : Int32)) v11 st34)
 else
 (B8_chance_154 k88 k112 v1 v2 v3 v4 v6 v7 v8 v9 v10 v11 st))
set_option maxHeartbeats 1000000 in
set_option maxRecDepth 20000 in
theorem T8_chance_112 {g : fkG} {k : fkK} (hk : fk_ok wM g k RX8 cX8_chance 12 (some (.int)) 5 146) (k88 : Int32 → Int32 → Int32 → Int32 → Int32 → Int32 → Int32 → Int32 → fkS → Option (Int32 × fkS)) (H88 : ∀ (v1 : Int32) (v2 : Int32) (v3 : Int32) (v4 : Int32) (v6 : Int32) (v7 : Int32) (v8 : Int32) (v9 : Int32) (st : fkS), fk_J wM g fk_eI k 88 [(0, fk_r g 0), (1, .int v1), (2, .int v2), (3, .int v3), (4, .int v4), (6, .int v6), (7, .int v7), (8, .int v8), (9, .int v9)] [] st (k88 v1 v2 v3 v4 v6 v7 v8 v9 st)) (k112 : Int32 → Int32 → Int32 → Int32 → Int32 → Int32 → Int32 → Int32 → Int32 → Int32 → fkS → Option (Int32 × fkS)) (H112 : ∀ (v1 : Int32) (v2 : Int32) (v3 : Int32) (v4 : Int32) (v6 : Int32) (v7 : Int32) (v8 : Int32) (v9 : Int32) (v10 : Int32) (v11 : Int32) (st : fkS), fk_J wM g fk_eI k 112 [(0, fk_r g 0), (1, .int v1), (2, .int v2), (3, .int v3), (4, .int v4), (6, .int v6), (7, .int v7), (8, .int v8), (9, .int v9), (10, .int v10), (11, .int v11)] [] st (k112 v1 v2 v3 v4 v6 v7 v8 v9 v10 v11 st)) : ∀ (v1 : Int32) (v2 : Int32) (v3 : Int32) (v4 : Int32) (v6 : Int32) (v7 : Int32) (v8 : Int32) (v9 : Int32) (v10 : Int32) (v11 : Int32) (st : fkS), fk_J wM g fk_eI k 112 [(0, fk_r g 0), (1, .int v1), (2, .int v2), (3, .int v3), (4, .int v4), (6, .int v6), (7, .int v7), (8, .int v8), (9, .int v9), (10, .int v10), (11, .int v11)] [] st (B8_chance_112 k88 k112 v1 v2 v3 v4 v6 v7 v8 v9 v10 v11 st) := by
  intro v1 v2 v3 v4 v6 v7 v8 v9 v10 v11 st
  unfold B8_chance_112
  refine j_iload (pc := 112) hk 10 rfl dX8_chance_112 ?_
  refine j_aload_n (pc := 114) hk 0 rfl ⟨_, rfl⟩ dX8_chance_114 ?_
  refine f_8_112 (pc := 115) hk (rfl) dX8_chance_115 (fun x29 => ?_)
  refine j_icmp_ge (tgt := 160) (pc := 118) hk (by decide) dX8_chance_118 (fun _ => ?_) (fun _ => ?_)
  · refine j_aload_n (pc := 160) hk 0 rfl ⟨_, rfl⟩ dX8_chance_160 ?_
    refine j_iload_n (pc := 161) hk 2 rfl dX8_chance_161 ?_
    refine j_aload_n (pc := 162) hk 0 rfl ⟨_, rfl⟩ dX8_chance_162 ?_
    refine f_8_19 (pc := 163) hk (rfl) dX8_chance_163 ?_
    refine j_iconst (pc := 166) hk dX8_chance_166 (v := 1) (by decide) ?_
    refine a_iload (pc := 167) hk (isI_8_4) dX8_chance_167 (fun x30 => ?_)
    refine j_callVv (pc := 168) hk [.int v2, .int x30] [] rfl (fun l o hq9 => C8_goes v2 x30 st l o hq9) (rcv_8 (rfl)) yv_X8_goes ml_8_224 rfl (Nat.le_of_ble_eq_true rfl) (Nat.le_of_ble_eq_true rfl) (Nat.le_of_ble_eq_true rfl) dX8_chance_168 (fun _ st31 => ?_)
    refine j_aload_n (pc := 171) hk 0 rfl ⟨_, rfl⟩ dX8_chance_171 ?_
    refine f_8_209 (pc := 172) hk (rfl) dX8_chance_172 (fun x32 => ?_)
    refine j_iload_n (pc := 175) hk 3 rfl dX8_chance_175 ?_
    refine j_icmp_ne (tgt := 182) (pc := 176) hk (by decide) dX8_chance_176 (fun _ => ?_) (fun _ => ?_)
    · refine j_iinc (dd := (1 : Int32)) (lv' := ((7, .int (v7 + (1 : Int32))) :: [(0, fk_r g 0), (1, .int v1), (2, .int v2), (3, .int v3), (4, .int v4), (6, .int v6), (8, .int v8), (9, .int v9), (10, .int v10), (11, .int v11)])) (pc := 179) hk 6 rfl (by decide) (by decide) rfl dX8_chance_179 ?_
      refine j_sub hk (lv' := [(0, fk_r g 0), (1, .int v1), (2, .int v2), (3, .int v3), (4, .int v4), (6, .int v6), (7, .int (v7 + (1 : Int32))), (8, .int v8), (9, .int v9), (10, .int v10), (11, .int v11)]) [1, 2, 3, 4, 5, 6, 0, 7, 8, 9, 10] rfl ?_
      exact j_sub hk [0, 1, 2, 3, 4, 5, 6, 7, 8] rfl (T8_chance_182 hk k88 H88 v1 v2 v3 v4 v6 (v7 + (1 : Int32)) v8 v9 st31)
    · exact j_sub hk [0, 1, 2, 3, 4, 5, 6, 7, 8] rfl (T8_chance_182 hk k88 H88 v1 v2 v3 v4 v6 v7 v8 v9 st31)
  · refine j_aload_n (pc := 121) hk 0 rfl ⟨_, rfl⟩ dX8_chance_121 ?_
    refine f_8_50 (pc := 122) hk (rfl) dX8_chance_122 ?_
    refine j_iload (pc := 125) hk 10 rfl dX8_chance_125 ?_
    refine a_iload (pc := 127) hk (isI_8_23) dX8_chance_127 (fun x33 => ?_)
    refine j_iconst (pc := 128) hk dX8_chance_128 (v := -1) (by decide) ?_
    refine j_icmp_eq (tgt := 135) (pc := 129) hk (by decide) dX8_chance_129 (fun _ => ?_) (fun _ => ?_)
    · refine j_aload_n (pc := 135) hk 0 rfl ⟨_, rfl⟩ dX8_chance_135 ?_
      refine f_8_50 (pc := 136) hk (rfl) dX8_chance_136 ?_
      refine j_iload (pc := 139) hk 10 rfl dX8_chance_139 ?_
      refine j_iload (pc := 141) hk 9 rfl dX8_chance_141 ?_
      refine j_bipush (pc := 143) hk dX8_chance_143 (v := 10) (by decide) ?_
      refine j_irem (pc := 145) hk (show fk_nz (10 : Int32) = true from by decide) dX8_chance_145 ?_
      refine a_istore (pc := 146) hk (isI_8_23) dX8_chance_146 (fun st34 => ?_)
      refine j_iload (pc := 147) hk 9 rfl dX8_chance_147 ?_
      refine j_bipush (pc := 149) hk dX8_chance_149 (v := 10) (by decide) ?_
      refine j_idiv (pc := 151) hk (show fk_nz (10 : Int32) = true from by decide) dX8_chance_151 ?_
      refine j_istore (lv' := ((10, .int (v10 / (10 : Int32))) :: [(0, fk_r g 0), (1, .int v1), (2, .int v2), (3, .int v3), (4, .int v4), (6, .int v6), (7, .int v7), (8, .int v8), (9, .int v9), (11, .int v11)])) (pc := 152) hk (by decide) rfl dX8_chance_152 ?_
      refine j_sub hk (lv' := [(0, fk_r g 0), (1, .int v1), (2, .int v2), (3, .int v3), (4, .int v4), (6, .int v6), (7, .int v7), (8, .int v8), (9, .int v9), (10, .int (v10 / (10 : Int32))), (11, .int v11)]) [1, 2, 3, 4, 5, 6, 7, 8, 9, 0, 10] rfl ?_
      exact j_sub hk [0, 1, 2, 3, 4, 5, 6, 7, 8, 9, 10] rfl (T8_chance_154 hk k88 H88 k112 H112 v1 v2 v3 v4 v6 v7 v8 v9 (v10 / (10 : Int32)) v11 st34)
    · refine j_goto (tgt := 154) (pc := 132) hk (by decide) dX8_chance_132 ?_
      exact j_sub hk [0, 1, 2, 3, 4, 5, 6, 7, 8, 9, 10] rfl (T8_chance_154 hk k88 H88 k112 H112 v1 v2 v3 v4 v6 v7 v8 v9 v10 v11 st)
set_option maxHeartbeats 1000000 in
set_option maxRecDepth 20000 in
theorem L8_chance_112 {g : fkG} {k : fkK} (hk : fk_ok wM g k RX8 cX8_chance 12 (some (.int)) 5 146) (k88 : Int32 → Int32 → Int32 → Int32 → Int32 → Int32 → Int32 → Int32 → fkS → Option (Int32 × fkS)) (H88 : ∀ (v1 : Int32) (v2 : Int32) (v3 : Int32) (v4 : Int32) (v6 : Int32) (v7 : Int32) (v8 : Int32) (v9 : Int32) (st : fkS), fk_J wM g fk_eI k 88 [(0, fk_r g 0), (1, .int v1), (2, .int v2), (3, .int v3), (4, .int v4), (6, .int v6), (7, .int v7), (8, .int v8), (9, .int v9)] [] st (k88 v1 v2 v3 v4 v6 v7 v8 v9 st)) (fu : Nat) : ∀ (v1 : Int32) (v2 : Int32) (v3 : Int32) (v4 : Int32) (v6 : Int32) (v7 : Int32) (v8 : Int32) (v9 : Int32) (v10 : Int32) (v11 : Int32) (st : fkS), fk_J wM g fk_eI k 112 [(0, fk_r g 0), (1, .int v1), (2, .int v2), (3, .int v3), (4, .int v4), (6, .int v6), (7, .int v7), (8, .int v8), (9, .int v9), (10, .int v10), (11, .int v11)] [] st (fk_lp10 (B8_chance_112 k88) fu v1 v2 v3 v4 v6 v7 v8 v9 v10 v11 st) := by
  induction fu with
  | zero =>
    intro v1 v2 v3 v4 v6 v7 v8 v9 v10 v11 st
    exact j_none hk
  | succ fu ih =>
    exact T8_chance_112 hk k88 H88 _ ih
def B8_chance_88 (k88 : Int32 → Int32 → Int32 → Int32 → Int32 → Int32 → Int32 → Int32 → fkS → Option (Int32 × fkS)) (v1 : Int32) (v2 : Int32) (v3 : Int32) (v4 : Int32) (v6 : Int32) (v7 : Int32) (v8 : Int32) (v9 : Int32) (st : fkS) : Option (Int32 × fkS) :=
 fk_bind (F8_pow v6 st) <| fun x19 st20 =>
 if x19 ≤ v9 then
 (if v4 = 0 then
 (fk_bind (F8_pow v6 st20) <| fun x21 st22 =>
 fk_chk (fk_nzL x21.toInt64) <|
 some ((((1000000 : Int64) * v7.toInt64) / x21.toInt64).toInt32, st22))
 else
 (fk_bind (F8_pow v6 st20) <| fun x24 st25 =>
 fk_chk (fk_nz x24) <|
 some ((((1000 : Int32) * v8) / x24), st25)))
 else
 (fk_bind (F8_isPie v1 (-1 : Int32) st20) <| fun x27 st28 =>
 fk_lp10 (B8_chance_112 k88) fk_fuel v1 v2 v3 v4 v6 v7 v8 v9 v9 (0 : Int32) st28)
set_option maxHeartbeats 1000000 in
set_option maxRecDepth 20000 in
theorem T8_chance_88 {g : fkG} {k : fkK} (hk : fk_ok wM g k RX8 cX8_chance 12 (some (.int)) 5 146) (k88 : Int32 → Int32 → Int32 → Int32 → Int32 → Int32 → Int32 → Int32 → fkS → Option (Int32 × fkS)) (H88 : ∀ (v1 : Int32) (v2 : Int32) (v3 : Int32) (v4 : Int32) (v6 : Int32) (v7 : Int32) (v8 : Int32) (v9 : Int32) (st : fkS), fk_J wM g fk_eI k 88 [(0, fk_r g 0), (1, .int v1), (2, .int v2), (3, .int v3), (4, .int v4), (6, .int v6), (7, .int v7), (8, .int v8), (9, .int v9)] [] st (k88 v1 v2 v3 v4 v6 v7 v8 v9 st)) : ∀ (v1 : Int32) (v2 : Int32) (v3 : Int32) (v4 : Int32) (v6 : Int32) (v7 : Int32) (v8 : Int32) (v9 : Int32) (st : fkS), fk_J wM g fk_eI k 88 [(0, fk_r g 0), (1, .int v1), (2, .int v2), (3, .int v3), (4, .int v4), (6, .int v6), (7, .int v7), (8, .int v8), (9, .int v9)] [] st (B8_chance_88 k88 v1 v2 v3 v4 v6 v7 v8 v9 st) := by
  intro v1 v2 v3 v4 v6 v7 v8 v9 st
  unfold B8_chance_88
  refine j_iload (pc := 88) hk 8 rfl dX8_chance_88 ?_
  refine j_iload (pc := 90) hk 5 rfl dX8_chance_90 ?_
  refine j_callSi (pc := 92) hk [.int v6] [.int v9] rfl (fun l o hq9 => C8_pow v6 st l o hq9) yv_X8_pow ml_8_227 rfl (Nat.le_of_ble_eq_true rfl) (Nat.le_of_ble_eq_true rfl) (Nat.le_of_ble_eq_true rfl) dX8_chance_92 (fun x19 st20 => ?_)
  refine j_icmp_ge (tgt := 197) (pc := 95) hk (by decide) dX8_chance_95 (fun _ => ?_) (fun _ => ?_)
  · refine j_iload (pc := 197) hk 4 rfl dX8_chance_197 ?_
    refine j_if_ne (tgt := 220) (pc := 199) hk (by decide) dX8_chance_199 (fun _ => ?_) (fun _ => ?_)
    · refine j_ldc2 (pc := 202) hk dX8_chance_202 wk_8_257 ?_
      refine j_iload (pc := 205) hk 6 rfl dX8_chance_205 ?_
      refine j_i2l (pc := 207) hk dX8_chance_207 ?_
      refine j_lmul (pc := 208) hk dX8_chance_208 ?_
      refine j_iload (pc := 209) hk 5 rfl dX8_chance_209 ?_
      refine j_callSi (pc := 211) hk [.int v6] [.long ((1000000 : Int64) * v7.toInt64)] rfl (fun l o hq9 => C8_pow v6 st20 l o hq9) yv_X8_pow ml_8_227 rfl (Nat.le_of_ble_eq_true rfl) (Nat.le_of_ble_eq_true rfl) (Nat.le_of_ble_eq_true rfl) dX8_chance_211 (fun x21 st22 => ?_)
      refine j_i2l (pc := 214) hk dX8_chance_214 ?_
      refine j_chk (pc := 215) hk (fun hz23 => ?_)
      refine j_ldiv (pc := 215) hk hz23 dX8_chance_215 ?_
      refine j_l2i (pc := 216) hk dX8_chance_216 ?_
      refine j_goto (tgt := 232) (pc := 217) hk (by decide) dX8_chance_217 ?_
      exact j_iret (pc := 232) hk dX8_chance_232
    · refine j_sipush (pc := 220) hk dX8_chance_220 (v := 1000) (by decide) ?_
      refine j_iload (pc := 223) hk 7 rfl dX8_chance_223 ?_
      refine j_imul (pc := 225) hk dX8_chance_225 ?_
      refine j_iload (pc := 226) hk 5 rfl dX8_chance_226 ?_
      refine j_callSi (pc := 228) hk [.int v6] [.int ((1000 : Int32) * v8)] rfl (fun l o hq9 => C8_pow v6 st20 l o hq9) yv_X8_pow ml_8_227 rfl (Nat.le_of_ble_eq_true rfl) (Nat.le_of_ble_eq_true rfl) (Nat.le_of_ble_eq_true rfl) dX8_chance_228 (fun x24 st25 => ?_)
      refine j_chk (pc := 231) hk (fun hz26 => ?_)
      refine j_idiv (pc := 231) hk hz26 dX8_chance_231 ?_
      exact j_iret (pc := 232) hk dX8_chance_232
  · refine j_aload_n (pc := 98) hk 0 rfl ⟨_, rfl⟩ dX8_chance_98 ?_
    refine j_iload_n (pc := 99) hk 1 rfl dX8_chance_99 ?_
    refine j_iconst (pc := 100) hk dX8_chance_100 (v := -1) (by decide) ?_
    refine j_callVi (pc := 101) hk [.int v1, .int (-1 : Int32)] [] rfl (fun l o hq9 => C8_isPie v1 (-1 : Int32) st20 l o hq9) (rcv_8 (rfl)) yv_X8_isPie ml_8_221 rfl (Nat.le_of_ble_eq_true rfl) (Nat.le_of_ble_eq_true rfl) (Nat.le_of_ble_eq_true rfl) dX8_chance_101 (fun x27 st28 => ?_)
    refine j_pop (pc := 104) hk rfl dX8_chance_104 ?_
    refine j_iload (pc := 105) hk 8 rfl dX8_chance_105 ?_
    refine j_istore (lv' := ((10, .int v9) :: [(0, fk_r g 0), (1, .int v1), (2, .int v2), (3, .int v3), (4, .int v4), (6, .int v6), (7, .int v7), (8, .int v8), (9, .int v9)])) (pc := 107) hk (by decide) rfl dX8_chance_107 ?_
    refine j_sub hk (lv' := [(0, fk_r g 0), (1, .int v1), (2, .int v2), (3, .int v3), (4, .int v4), (6, .int v6), (7, .int v7), (8, .int v8), (9, .int v9), (10, .int v9)]) [1, 2, 3, 4, 5, 6, 7, 8, 9, 0] rfl ?_
    refine j_iconst (pc := 109) hk dX8_chance_109 (v := 0) (by decide) ?_
    refine j_istore (lv' := ((11, .int (0 : Int32)) :: [(0, fk_r g 0), (1, .int v1), (2, .int v2), (3, .int v3), (4, .int v4), (6, .int v6), (7, .int v7), (8, .int v8), (9, .int v9), (10, .int v9)])) (pc := 110) hk (by decide) rfl dX8_chance_110 ?_
    refine j_sub hk (lv' := [(0, fk_r g 0), (1, .int v1), (2, .int v2), (3, .int v3), (4, .int v4), (6, .int v6), (7, .int v7), (8, .int v8), (9, .int v9), (10, .int v9), (11, .int (0 : Int32))]) [1, 2, 3, 4, 5, 6, 7, 8, 9, 10, 0] rfl ?_
    exact j_sub hk [0, 1, 2, 3, 4, 5, 6, 7, 8, 9, 10] rfl (L8_chance_112 hk k88 H88 fk_fuel v1 v2 v3 v4 v6 v7 v8 v9 v9 (0 : Int32) st28)
set_option maxHeartbeats 1000000 in
set_option maxRecDepth 20000 in
theorem L8_chance_88 {g : fkG} {k : fkK} (hk : fk_ok wM g k RX8 cX8_chance 12 (some (.int)) 5 146) (fu : Nat) : ∀ (v1 : Int32) (v2 : Int32) (v3 : Int32) (v4 : Int32) (v6 : Int32) (v7 : Int32) (v8 : Int32) (v9 : Int32) (st : fkS), fk_J wM g fk_eI k 88 [(0, fk_r g 0), (1, .int v1), (2, .int v2), (3, .int v3), (4, .int v4), (6, .int v6), (7, .int v7), (8, .int v8), (9, .int v9)] [] st (fk_lp8 (B8_chance_88) fu v1 v2 v3 v4 v6 v7 v8 v9 st) := by
  induction fu with
  | zero =>
    intro v1 v2 v3 v4 v6 v7 v8 v9 st
    exact j_none hk
  | succ fu ih =>
    exact T8_chance_88 hk _ ih
def B8_chance_73 (v1 : Int32) (v2 : Int32) (v3 : Int32) (v4 : Int32) (st : fkS) : Option (Int32 × fkS) :=
 fk_bind (F8_unknown st) <| fun x17 st18 =>
 fk_lp8 (B8_chance_88) fk_fuel v1 v2 v3 v4 x17 (0 : Int32) (0 : Int32) (0 : Int32) st18
set_option maxHeartbeats 1000000 in
set_option maxRecDepth 20000 in
theorem T8_chance_73 {g : fkG} {k : fkK} (hk : fk_ok wM g k RX8 cX8_chance 12 (some (.int)) 5 146) : ∀ (v1 : Int32) (v2 : Int32) (v3 : Int32) (v4 : Int32) (st : fkS), fk_J wM g fk_eI k 73 [(0, fk_r g 0), (1, .int v1), (2, .int v2), (3, .int v3), (4, .int v4)] [] st (B8_chance_73 v1 v2 v3 v4 st) := by
  intro v1 v2 v3 v4 st
  unfold B8_chance_73
  refine j_aload_n (pc := 73) hk 0 rfl ⟨_, rfl⟩ dX8_chance_73 ?_
  refine j_callVi (pc := 74) hk [] [] rfl (fun l o hq9 => C8_unknown st l o hq9) (rcv_8 (rfl)) yv_X8_unknown ml_8_254 rfl (Nat.le_of_ble_eq_true rfl) (Nat.le_of_ble_eq_true rfl) (Nat.le_of_ble_eq_true rfl) dX8_chance_74 (fun x17 st18 => ?_)
  refine j_istore (lv' := ((6, .int x17) :: [(0, fk_r g 0), (1, .int v1), (2, .int v2), (3, .int v3), (4, .int v4)])) (pc := 77) hk (by decide) rfl dX8_chance_77 ?_
  refine j_sub hk (lv' := [(0, fk_r g 0), (1, .int v1), (2, .int v2), (3, .int v3), (4, .int v4), (6, .int x17)]) [1, 2, 3, 4, 5, 0] rfl ?_
  refine j_iconst (pc := 79) hk dX8_chance_79 (v := 0) (by decide) ?_
  refine j_istore (lv' := ((7, .int (0 : Int32)) :: [(0, fk_r g 0), (1, .int v1), (2, .int v2), (3, .int v3), (4, .int v4), (6, .int x17)])) (pc := 80) hk (by decide) rfl dX8_chance_80 ?_
  refine j_sub hk (lv' := [(0, fk_r g 0), (1, .int v1), (2, .int v2), (3, .int v3), (4, .int v4), (6, .int x17), (7, .int (0 : Int32))]) [1, 2, 3, 4, 5, 6, 0] rfl ?_
  refine j_iconst (pc := 82) hk dX8_chance_82 (v := 0) (by decide) ?_
  refine j_istore (lv' := ((8, .int (0 : Int32)) :: [(0, fk_r g 0), (1, .int v1), (2, .int v2), (3, .int v3), (4, .int v4), (6, .int x17), (7, .int (0 : Int32))])) (pc := 83) hk (by decide) rfl dX8_chance_83 ?_
  refine j_sub hk (lv' := [(0, fk_r g 0), (1, .int v1), (2, .int v2), (3, .int v3), (4, .int v4), (6, .int x17), (7, .int (0 : Int32)), (8, .int (0 : Int32))]) [1, 2, 3, 4, 5, 6, 7, 0] rfl ?_
  refine j_iconst (pc := 85) hk dX8_chance_85 (v := 0) (by decide) ?_
  refine j_istore (lv' := ((9, .int (0 : Int32)) :: [(0, fk_r g 0), (1, .int v1), (2, .int v2), (3, .int v3), (4, .int v4), (6, .int x17), (7, .int (0 : Int32)), (8, .int (0 : Int32))])) (pc := 86) hk (by decide) rfl dX8_chance_86 ?_
  refine j_sub hk (lv' := [(0, fk_r g 0), (1, .int v1), (2, .int v2), (3, .int v3), (4, .int v4), (6, .int x17), (7, .int (0 : Int32)), (8, .int (0 : Int32)), (9, .int (0 : Int32))]) [1, 2, 3, 4, 5, 6, 7, 8, 0] rfl ?_
  exact j_sub hk [0, 1, 2, 3, 4, 5, 6, 7, 8] rfl (L8_chance_88 hk fk_fuel v1 v2 v3 v4 x17 (0 : Int32) (0 : Int32) (0 : Int32) st18)
def F8_chance (p1 : Int32) (p2 : Int32) (p3 : Int32) (p4 : Int32) (st : fkS) : Option (Int32 × fkS) :=
 fk_bind (F8_noPie p1 p2 st) <| fun x1 st2 =>
 if 0 ≤ x1 then
 (fk_bind (F8_within p4 (0 : Int32) (1 : Int32) st2) <| fun x3 st4 =>
 if x3 = 0 then
 (fk_bind (F8_no (-5 : Int32) st4) <| fun x5 st6 =>
 some (x5, st6))
 else
 (fk_bind (F8_isPie p1 (-1 : Int32) st4) <| fun x7 st8 =>
 if x7 = 0 then
 (B8_chance_66 st8)
 else
 (fk_bind (F8_unknown st8) <| fun x9 st10 =>
 if (3 : Int32) < x9 then
 (B8_chance_66 st10)
 else
 (if p4 = 0 then
 (fk_bind (F8_isState p3 st10) <| fun x11 st12 =>
 if x11 = 0 then
 (B8_chance_66 st12)
 else
 (B8_chance_73 p1 p2 p3 p4 st12))
 else
 (B8_chance_73 p1 p2 p3 p4 st10)))))
 else
 (fk_bind (F8_no x1 st2) <| fun x13 st14 =>
 some (x13, st14))
set_option maxHeartbeats 1000000 in
set_option maxRecDepth 20000 in
theorem C8_chance (p1 : Int32) (p2 : Int32) (p3 : Int32) (p4 : Int32) (st : fkS) {g : fkG} (l : Launch) (o : Int32 × fkS) (hF : F8_chance p1 p2 p3 p4 st = some o) : fk_C wM yX8_chance cX8_chance 12 (some (.int)) 5 146 l g [fk_r g 0, .int p1, .int p2, .int p3, .int p4] st (fk_eI o.1) o.2 := by
  refine fk_begin rfl (Nat.le_of_ble_eq_true rfl) (fun k hk => ?_) o hF
  have hk : fk_ok wM g k RX8 cX8_chance 12 (some (.int)) 5 146 := hk
  show fk_J wM g fk_eI k 0 [(0, fk_r g 0), (1, .int p1), (2, .int p2), (3, .int p3), (4, .int p4)] [] st (F8_chance p1 p2 p3 p4 st)
  unfold F8_chance
  refine j_aload_n (pc := 0) hk 0 rfl ⟨_, rfl⟩ dX8_chance_0 ?_
  refine j_iload_n (pc := 1) hk 1 rfl dX8_chance_1 ?_
  refine j_iload_n (pc := 2) hk 2 rfl dX8_chance_2 ?_
  refine j_callVi (pc := 3) hk [.int p1, .int p2] [] rfl (fun l o hq9 => C8_noPie p1 p2 st l o hq9) (rcv_8 (rfl)) yv_X8_noPie ml_8_218 rfl (Nat.le_of_ble_eq_true rfl) (Nat.le_of_ble_eq_true rfl) (Nat.le_of_ble_eq_true rfl) dX8_chance_3 (fun x1 st2 => ?_)
  refine j_istore (lv' := ((5, .int x1) :: [(0, fk_r g 0), (1, .int p1), (2, .int p2), (3, .int p3), (4, .int p4)])) (pc := 6) hk (by decide) rfl dX8_chance_6 ?_
  refine j_sub hk (lv' := [(0, fk_r g 0), (1, .int p1), (2, .int p2), (3, .int p3), (4, .int p4), (5, .int x1)]) [1, 2, 3, 4, 5, 0] rfl ?_
  refine j_iload (pc := 8) hk 5 rfl dX8_chance_8 ?_
  refine j_if_ge (tgt := 20) (pc := 10) hk (by decide) dX8_chance_10 (fun _ => ?_) (fun _ => ?_)
  · refine j_iload (pc := 20) hk 4 rfl dX8_chance_20 ?_
    refine j_iconst (pc := 22) hk dX8_chance_22 (v := 0) (by decide) ?_
    refine j_iconst (pc := 23) hk dX8_chance_23 (v := 1) (by decide) ?_
    refine j_callSi (pc := 24) hk [.int p4, .int (0 : Int32), .int (1 : Int32)] [] rfl (fun l o hq9 => C8_within p4 (0 : Int32) (1 : Int32) st2 l o hq9) yv_X8_within ml_8_88 rfl (Nat.le_of_ble_eq_true rfl) (Nat.le_of_ble_eq_true rfl) (Nat.le_of_ble_eq_true rfl) dX8_chance_24 (fun x3 st4 => ?_)
    refine j_if_ne (tgt := 37) (pc := 27) hk (by decide) dX8_chance_27 (fun _ => ?_) (fun _ => ?_)
    · refine j_aload_n (pc := 30) hk 0 rfl ⟨_, rfl⟩ dX8_chance_30 ?_
      refine j_bipush (pc := 31) hk dX8_chance_31 (v := -5) (by decide) ?_
      refine j_callVi (pc := 33) hk [.int (-5 : Int32)] [] rfl (fun l o hq9 => C8_no (-5 : Int32) st4 l o hq9) (rcv_8 (rfl)) yv_X8_no ml_8_81 rfl (Nat.le_of_ble_eq_true rfl) (Nat.le_of_ble_eq_true rfl) (Nat.le_of_ble_eq_true rfl) dX8_chance_33 (fun x5 st6 => ?_)
      exact j_iret (pc := 36) hk dX8_chance_36
    · refine j_aload_n (pc := 37) hk 0 rfl ⟨_, rfl⟩ dX8_chance_37 ?_
      refine j_iload_n (pc := 38) hk 1 rfl dX8_chance_38 ?_
      refine j_iconst (pc := 39) hk dX8_chance_39 (v := -1) (by decide) ?_
      refine j_callVi (pc := 40) hk [.int p1, .int (-1 : Int32)] [] rfl (fun l o hq9 => C8_isPie p1 (-1 : Int32) st4 l o hq9) (rcv_8 (rfl)) yv_X8_isPie ml_8_221 rfl (Nat.le_of_ble_eq_true rfl) (Nat.le_of_ble_eq_true rfl) (Nat.le_of_ble_eq_true rfl) dX8_chance_40 (fun x7 st8 => ?_)
      refine j_if_eq (tgt := 66) (pc := 43) hk (by decide) dX8_chance_43 (fun _ => ?_) (fun _ => ?_)
      · exact j_sub hk [0] rfl (T8_chance_66 hk st8)
      · refine j_aload_n (pc := 46) hk 0 rfl ⟨_, rfl⟩ dX8_chance_46 ?_
        refine j_callVi (pc := 47) hk [] [] rfl (fun l o hq9 => C8_unknown st8 l o hq9) (rcv_8 (rfl)) yv_X8_unknown ml_8_254 rfl (Nat.le_of_ble_eq_true rfl) (Nat.le_of_ble_eq_true rfl) (Nat.le_of_ble_eq_true rfl) dX8_chance_47 (fun x9 st10 => ?_)
        refine j_iconst (pc := 50) hk dX8_chance_50 (v := 3) (by decide) ?_
        refine j_icmp_gt (tgt := 66) (pc := 51) hk (by decide) dX8_chance_51 (fun _ => ?_) (fun _ => ?_)
        · exact j_sub hk [0] rfl (T8_chance_66 hk st10)
        · refine j_iload (pc := 54) hk 4 rfl dX8_chance_54 ?_
          refine j_if_ne (tgt := 73) (pc := 56) hk (by decide) dX8_chance_56 (fun _ => ?_) (fun _ => ?_)
          · refine j_iload_n (pc := 59) hk 3 rfl dX8_chance_59 ?_
            refine j_callSi (pc := 60) hk [.int p3] [] rfl (fun l o hq9 => C8_isState p3 st10 l o hq9) yv_X8_isState ml_8_126 rfl (Nat.le_of_ble_eq_true rfl) (Nat.le_of_ble_eq_true rfl) (Nat.le_of_ble_eq_true rfl) dX8_chance_60 (fun x11 st12 => ?_)
            refine j_if_ne (tgt := 73) (pc := 63) hk (by decide) dX8_chance_63 (fun _ => ?_) (fun _ => ?_)
            · exact j_sub hk [0] rfl (T8_chance_66 hk st12)
            · exact j_sub hk [0, 1, 2, 3, 4] rfl (T8_chance_73 hk p1 p2 p3 p4 st12)
          · exact j_sub hk [0, 1, 2, 3, 4] rfl (T8_chance_73 hk p1 p2 p3 p4 st10)
  · refine j_aload_n (pc := 13) hk 0 rfl ⟨_, rfl⟩ dX8_chance_13 ?_
    refine j_iload (pc := 14) hk 5 rfl dX8_chance_14 ?_
    refine j_callVi (pc := 16) hk [.int x1] [] rfl (fun l o hq9 => C8_no x1 st2 l o hq9) (rcv_8 (rfl)) yv_X8_no ml_8_81 rfl (Nat.le_of_ble_eq_true rfl) (Nat.le_of_ble_eq_true rfl) (Nat.le_of_ble_eq_true rfl) dX8_chance_16 (fun x13 st14 => ?_)
    exact j_iret (pc := 19) hk dX8_chance_19
