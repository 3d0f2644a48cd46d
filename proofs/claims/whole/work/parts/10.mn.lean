theorem dX0_become_0 : decode cX0_become 0 = .ok (.aload_n 1, 1) := by decide +kernel
theorem dX0_become_1 : decode cX0_become 1 = .ok (.ifnonnull 4, 3) := by decide +kernel
theorem dX0_become_5 : decode cX0_become 5 = .ok (.aload_n 0, 1) := by decide +kernel
theorem dX0_become_6 : decode cX0_become 6 = .ok (.aload_n 1, 1) := by decide +kernel
theorem dX0_become_7 : decode cX0_become 7 = .ok (.getfield 9, 3) := by decide +kernel
theorem dX0_become_10 : decode cX0_become 10 = .ok (.putfield 9, 3) := by decide +kernel
theorem dX0_become_13 : decode cX0_become 13 = .ok (.aload_n 1, 1) := by decide +kernel
theorem dX0_become_14 : decode cX0_become 14 = .ok (.getfield 15, 3) := by decide +kernel
theorem dX0_become_17 : decode cX0_become 17 = .ok (.iconst 0, 1) := by decide +kernel
theorem dX0_become_18 : decode cX0_become 18 = .ok (.aload_n 0, 1) := by decide +kernel
theorem dX0_become_19 : decode cX0_become 19 = .ok (.getfield 15, 3) := by decide +kernel
theorem dX0_become_22 : decode cX0_become 22 = .ok (.iconst 0, 1) := by decide +kernel
theorem dX0_become_23 : decode cX0_become 23 = .ok (.bipush 7, 2) := by decide +kernel
theorem dX0_become_25 : decode cX0_become 25 = .ok (.invokestatic 46, 3) := by decide +kernel
theorem dX0_become_28 : decode cX0_become 28 = .ok (.aload_n 1, 1) := by decide +kernel
theorem dX0_become_29 : decode cX0_become 29 = .ok (.getfield 19, 3) := by decide +kernel
theorem dX0_become_32 : decode cX0_become 32 = .ok (.iconst 0, 1) := by decide +kernel
theorem dX0_become_33 : decode cX0_become 33 = .ok (.aload_n 0, 1) := by decide +kernel
theorem dX0_become_34 : decode cX0_become 34 = .ok (.getfield 19, 3) := by decide +kernel
theorem dX0_become_37 : decode cX0_become 37 = .ok (.iconst 0, 1) := by decide +kernel
theorem dX0_become_38 : decode cX0_become 38 = .ok (.bipush 7, 2) := by decide +kernel
theorem dX0_become_40 : decode cX0_become 40 = .ok (.invokestatic 46, 3) := by decide +kernel
theorem dX0_become_43 : decode cX0_become 43 = .ok (.aload_n 1, 1) := by decide +kernel
theorem dX0_become_44 : decode cX0_become 44 = .ok (.getfield 22, 3) := by decide +kernel
theorem dX0_become_47 : decode cX0_become 47 = .ok (.iconst 0, 1) := by decide +kernel
theorem dX0_become_48 : decode cX0_become 48 = .ok (.aload_n 0, 1) := by decide +kernel
theorem dX0_become_49 : decode cX0_become 49 = .ok (.getfield 22, 3) := by decide +kernel
theorem dX0_become_52 : decode cX0_become 52 = .ok (.iconst 0, 1) := by decide +kernel
theorem dX0_become_53 : decode cX0_become 53 = .ok (.bipush 7, 2) := by decide +kernel
theorem dX0_become_55 : decode cX0_become 55 = .ok (.invokestatic 46, 3) := by decide +kernel
theorem dX0_become_58 : decode cX0_become 58 = .ok (.aload_n 1, 1) := by decide +kernel
theorem dX0_become_59 : decode cX0_become 59 = .ok (.getfield 25, 3) := by decide +kernel
theorem dX0_become_62 : decode cX0_become 62 = .ok (.iconst 0, 1) := by decide +kernel
theorem dX0_become_63 : decode cX0_become 63 = .ok (.aload_n 0, 1) := by decide +kernel
theorem dX0_become_64 : decode cX0_become 64 = .ok (.getfield 25, 3) := by decide +kernel
theorem dX0_become_67 : decode cX0_become 67 = .ok (.iconst 0, 1) := by decide +kernel
theorem dX0_become_68 : decode cX0_become 68 = .ok (.bipush 40, 2) := by decide +kernel
theorem dX0_become_70 : decode cX0_become 70 = .ok (.invokestatic 46, 3) := by decide +kernel
theorem dX0_become_73 : decode cX0_become 73 = .ok (.aload_n 0, 1) := by decide +kernel
theorem dX0_become_74 : decode cX0_become 74 = .ok (.aload_n 1, 1) := by decide +kernel
theorem dX0_become_75 : decode cX0_become 75 = .ok (.getfield 28, 3) := by decide +kernel
theorem dX0_become_78 : decode cX0_become 78 = .ok (.putfield 28, 3) := by decide +kernel
theorem dX0_become_81 : decode cX0_become 81 = .ok (.aload_n 0, 1) := by decide +kernel
theorem dX0_become_82 : decode cX0_become 82 = .ok (.aload_n 1, 1) := by decide +kernel
theorem dX0_become_83 : decode cX0_become 83 = .ok (.getfield 31, 3) := by decide +kernel
theorem dX0_become_86 : decode cX0_become 86 = .ok (.putfield 31, 3) := by decide +kernel
theorem dX0_become_89 : decode cX0_become 89 = .ok (.aload_n 0, 1) := by decide +kernel
theorem dX0_become_90 : decode cX0_become 90 = .ok (.aload_n 1, 1) := by decide +kernel
theorem dX0_become_91 : decode cX0_become 91 = .ok (.getfield 34, 3) := by decide +kernel
theorem dX0_become_94 : decode cX0_become 94 = .ok (.putfield 34, 3) := by decide +kernel
theorem dX0_become_97 : decode cX0_become 97 = .ok (.aload_n 0, 1) := by decide +kernel
theorem dX0_become_98 : decode cX0_become 98 = .ok (.aload_n 1, 1) := by decide +kernel
theorem dX0_become_99 : decode cX0_become 99 = .ok (.getfield 37, 3) := by decide +kernel
theorem dX0_become_102 : decode cX0_become 102 = .ok (.putfield 37, 3) := by decide +kernel
theorem dX0_become_105 : decode cX0_become 105 = .ok (.aload_n 0, 1) := by decide +kernel
theorem dX0_become_106 : decode cX0_become 106 = .ok (.aload_n 1, 1) := by decide +kernel
theorem dX0_become_107 : decode cX0_become 107 = .ok (.getfield 40, 3) := by decide +kernel
theorem dX0_become_110 : decode cX0_become 110 = .ok (.putfield 40, 3) := by decide +kernel
theorem dX0_become_113 : decode cX0_become 113 = .ok (.aload_n 0, 1) := by decide +kernel
theorem dX0_become_114 : decode cX0_become 114 = .ok (.aload_n 1, 1) := by decide +kernel
theorem dX0_become_115 : decode cX0_become 115 = .ok (.getfield 43, 3) := by decide +kernel
theorem dX0_become_118 : decode cX0_become 118 = .ok (.putfield 43, 3) := by decide +kernel
theorem dX0_become_121 : decode cX0_become 121 = .ok (.return_, 1) := by decide +kernel
def F0_become (h : Nat) (o1 : Nat) (st : fkS) : Option (Unit × fkS) :=
 fk_let (gI st 0 o1) <| fun x1 =>
 fk_let (sI st 0 h x1) <| fun st2 =>
 fk_chk (fk_cp (0 : Int32) (0 : Int32) (7 : Int32) 7 7) <| fk_let (sAF st2 (h + 3) (va_cpy (gA st2 (o1 + 3)) (gA st2 (h + 3)) (0 : Int32).toNatClampNeg (0 : Int32).toNatClampNeg (7 : Int32).toNatClampNeg)) <| fun st3 =>
 fk_chk (fk_cp (0 : Int32) (0 : Int32) (7 : Int32) 7 7) <| fk_let (sAF st3 (h + 6) (va_cpy (gA st3 (o1 + 6)) (gA st3 (h + 6)) (0 : Int32).toNatClampNeg (0 : Int32).toNatClampNeg (7 : Int32).toNatClampNeg)) <| fun st4 =>
 fk_chk (fk_cp (0 : Int32) (0 : Int32) (7 : Int32) 7 7) <| fk_let (sAF st4 (h + 9) (va_cpy (gA st4 (o1 + 9)) (gA st4 (h + 9)) (0 : Int32).toNatClampNeg (0 : Int32).toNatClampNeg (7 : Int32).toNatClampNeg)) <| fun st5 =>
 fk_chk (fk_cp (0 : Int32) (0 : Int32) (40 : Int32) 40 40) <| fk_let (sAF st5 (h + 12) (va_cpy (gA st5 (o1 + 12)) (gA st5 (h + 12)) (0 : Int32).toNatClampNeg (0 : Int32).toNatClampNeg (40 : Int32).toNatClampNeg)) <| fun st6 =>
 fk_let (gI st6 5 o1) <| fun x7 =>
 fk_let (sI st6 5 h x7) <| fun st8 =>
 fk_let (gI st8 6 o1) <| fun x9 =>
 fk_let (sI st8 6 h x9) <| fun st10 =>
 fk_let (gI st10 7 o1) <| fun x11 =>
 fk_let (sI st10 7 h x11) <| fun st12 =>
 fk_let (gI st12 8 o1) <| fun x13 =>
 fk_let (sI st12 8 h x13) <| fun st14 =>
 fk_let (gI st14 9 o1) <| fun x15 =>
 fk_let (sI st14 9 h x15) <| fun st16 =>
 fk_let (gI st16 10 o1) <| fun x17 =>
 fk_let (sI st16 10 h x17) <| fun st18 =>
 some ((), st18)
set_option maxHeartbeats 1000000 in
set_option maxRecDepth 20000 in
theorem C0_become (h : Nat) (o1 : Nat) (hh : kdC h = 0) (ho1 : kdC o1 = 0) (st : fkS) {g : fkG} (l : Launch) (o : Unit × fkS) (hF : F0_become h o1 st = some o) : fk_C wC yX0_become cX0_become 2 none 1 100 l g [fk_r g h, fk_r g o1] st (fk_eU o.1) o.2 := by
  refine fk_begin rfl (Nat.le_of_ble_eq_true rfl) (fun k hk => ?_) o hF
  have hk : fk_ok wC g k RX0 cX0_become 2 none 1 100 := hk
  show fk_J wC g fk_eU k 0 [(0, fk_r g h), (1, fk_r g o1)] [] st (F0_become h o1 st)
  unfold F0_become
  refine j_aload_n (pc := 0) hk 1 rfl ⟨_, rfl⟩ dX0_become_0 ?_
  refine j_ifnonnullR (tgt := 5) (pc := 1) hk ⟨_, rfl⟩ (by decide) dX0_become_1 ?_
  refine j_aload_n (pc := 5) hk 0 rfl ⟨_, rfl⟩ dX0_become_5 ?_
  refine j_aload_n (pc := 6) hk 1 rfl ⟨_, rfl⟩ dX0_become_6 ?_
  refine f_0_9 (pc := 7) hk (ho1) dX0_become_7 (fun x1 => ?_)
  refine p_0_9 (pc := 10) hk (hh) dX0_become_10 (fun st2 => ?_)
  refine j_aload_n (pc := 13) hk 1 rfl ⟨_, rfl⟩ dX0_become_13 ?_
  refine f_0_15 (pc := 14) hk (ho1) dX0_become_14 ?_
  refine j_iconst (pc := 17) hk dX0_become_17 (v := 0) (by decide) ?_
  refine j_aload_n (pc := 18) hk 0 rfl ⟨_, rfl⟩ dX0_become_18 ?_
  refine f_0_15 (pc := 19) hk (hh) dX0_become_19 ?_
  refine j_iconst (pc := 22) hk dX0_become_22 (v := 0) (by decide) ?_
  refine j_bipush (pc := 23) hk dX0_become_23 (v := 7) (by decide) ?_
  refine a_icopy (pc := 25) hk (isI_0_1 (ho1)) (isI_0_1 (hh)) ml_0_46 (Nat.le_of_ble_eq_true rfl) (Nat.le_of_ble_eq_true rfl) dX0_become_25 (fun st3 => ?_)
  refine j_aload_n (pc := 28) hk 1 rfl ⟨_, rfl⟩ dX0_become_28 ?_
  refine f_0_19 (pc := 29) hk (ho1) dX0_become_29 ?_
  refine j_iconst (pc := 32) hk dX0_become_32 (v := 0) (by decide) ?_
  refine j_aload_n (pc := 33) hk 0 rfl ⟨_, rfl⟩ dX0_become_33 ?_
  refine f_0_19 (pc := 34) hk (hh) dX0_become_34 ?_
  refine j_iconst (pc := 37) hk dX0_become_37 (v := 0) (by decide) ?_
  refine j_bipush (pc := 38) hk dX0_become_38 (v := 7) (by decide) ?_
  refine a_icopy (pc := 40) hk (isI_0_2 (ho1)) (isI_0_2 (hh)) ml_0_46 (Nat.le_of_ble_eq_true rfl) (Nat.le_of_ble_eq_true rfl) dX0_become_40 (fun st4 => ?_)
  refine j_aload_n (pc := 43) hk 1 rfl ⟨_, rfl⟩ dX0_become_43 ?_
  refine f_0_22 (pc := 44) hk (ho1) dX0_become_44 ?_
  refine j_iconst (pc := 47) hk dX0_become_47 (v := 0) (by decide) ?_
  refine j_aload_n (pc := 48) hk 0 rfl ⟨_, rfl⟩ dX0_become_48 ?_
  refine f_0_22 (pc := 49) hk (hh) dX0_become_49 ?_
  refine j_iconst (pc := 52) hk dX0_become_52 (v := 0) (by decide) ?_
  refine j_bipush (pc := 53) hk dX0_become_53 (v := 7) (by decide) ?_
  refine a_icopy (pc := 55) hk (isI_0_3 (ho1)) (isI_0_3 (hh)) ml_0_46 (Nat.le_of_ble_eq_true rfl) (Nat.le_of_ble_eq_true rfl) dX0_become_55 (fun st5 => ?_)
  refine j_aload_n (pc := 58) hk 1 rfl ⟨_, rfl⟩ dX0_become_58 ?_
  refine f_0_25 (pc := 59) hk (ho1) dX0_become_59 ?_
  refine j_iconst (pc := 62) hk dX0_become_62 (v := 0) (by decide) ?_
  refine j_aload_n (pc := 63) hk 0 rfl ⟨_, rfl⟩ dX0_become_63 ?_
  refine f_0_25 (pc := 64) hk (hh) dX0_become_64 ?_
  refine j_iconst (pc := 67) hk dX0_become_67 (v := 0) (by decide) ?_
  refine j_bipush (pc := 68) hk dX0_become_68 (v := 40) (by decide) ?_
  refine a_icopy (pc := 70) hk (isI_0_4 (ho1)) (isI_0_4 (hh)) ml_0_46 (Nat.le_of_ble_eq_true rfl) (Nat.le_of_ble_eq_true rfl) dX0_become_70 (fun st6 => ?_)
  refine j_aload_n (pc := 73) hk 0 rfl ⟨_, rfl⟩ dX0_become_73 ?_
  refine j_aload_n (pc := 74) hk 1 rfl ⟨_, rfl⟩ dX0_become_74 ?_
  refine f_0_28 (pc := 75) hk (ho1) dX0_become_75 (fun x7 => ?_)
  refine p_0_28 (pc := 78) hk (hh) dX0_become_78 (fun st8 => ?_)
  refine j_aload_n (pc := 81) hk 0 rfl ⟨_, rfl⟩ dX0_become_81 ?_
  refine j_aload_n (pc := 82) hk 1 rfl ⟨_, rfl⟩ dX0_become_82 ?_
  refine f_0_31 (pc := 83) hk (ho1) dX0_become_83 (fun x9 => ?_)
  refine p_0_31 (pc := 86) hk (hh) dX0_become_86 (fun st10 => ?_)
  refine j_aload_n (pc := 89) hk 0 rfl ⟨_, rfl⟩ dX0_become_89 ?_
  refine j_aload_n (pc := 90) hk 1 rfl ⟨_, rfl⟩ dX0_become_90 ?_
  refine f_0_34 (pc := 91) hk (ho1) dX0_become_91 (fun x11 => ?_)
  refine p_0_34 (pc := 94) hk (hh) dX0_become_94 (fun st12 => ?_)
  refine j_aload_n (pc := 97) hk 0 rfl ⟨_, rfl⟩ dX0_become_97 ?_
  refine j_aload_n (pc := 98) hk 1 rfl ⟨_, rfl⟩ dX0_become_98 ?_
  refine f_0_37 (pc := 99) hk (ho1) dX0_become_99 (fun x13 => ?_)
  refine p_0_37 (pc := 102) hk (hh) dX0_become_102 (fun st14 => ?_)
  refine j_aload_n (pc := 105) hk 0 rfl ⟨_, rfl⟩ dX0_become_105 ?_
  refine j_aload_n (pc := 106) hk 1 rfl ⟨_, rfl⟩ dX0_become_106 ?_
  refine f_0_40 (pc := 107) hk (ho1) dX0_become_107 (fun x15 => ?_)
  refine p_0_40 (pc := 110) hk (hh) dX0_become_110 (fun st16 => ?_)
  refine j_aload_n (pc := 113) hk 0 rfl ⟨_, rfl⟩ dX0_become_113 ?_
  refine j_aload_n (pc := 114) hk 1 rfl ⟨_, rfl⟩ dX0_become_114 ?_
  refine f_0_43 (pc := 115) hk (ho1) dX0_become_115 (fun x17 => ?_)
  refine p_0_43 (pc := 118) hk (hh) dX0_become_118 (fun st18 => ?_)
  exact j_vret (pc := 121) hk dX0_become_121
theorem dX0_lacks_0 : decode cX0_lacks 0 = .ok (.iload_n 1, 1) := by decide +kernel
theorem dX0_lacks_1 : decode cX0_lacks 1 = .ok (.ifCond .lt 17, 3) := by decide +kernel
theorem dX0_lacks_4 : decode cX0_lacks 4 = .ok (.iload_n 1, 1) := by decide +kernel
theorem dX0_lacks_5 : decode cX0_lacks 5 = .ok (.aload_n 0, 1) := by decide +kernel
theorem dX0_lacks_6 : decode cX0_lacks 6 = .ok (.getfield 9, 3) := by decide +kernel
theorem dX0_lacks_9 : decode cX0_lacks 9 = .ok (.if_icmp .ge 9, 3) := by decide +kernel
theorem dX0_lacks_12 : decode cX0_lacks 12 = .ok (.iload_n 1, 1) := by decide +kernel
theorem dX0_lacks_13 : decode cX0_lacks 13 = .ok (.bipush 7, 2) := by decide +kernel
theorem dX0_lacks_15 : decode cX0_lacks 15 = .ok (.if_icmp .lt 7, 3) := by decide +kernel
theorem dX0_lacks_18 : decode cX0_lacks 18 = .ok (.iconst 1, 1) := by decide +kernel
theorem dX0_lacks_19 : decode cX0_lacks 19 = .ok (.goto 4, 3) := by decide +kernel
theorem dX0_lacks_22 : decode cX0_lacks 22 = .ok (.iconst 0, 1) := by decide +kernel
theorem dX0_lacks_23 : decode cX0_lacks 23 = .ok (.ireturn, 1) := by decide +kernel
def F0_lacks (h : Nat) (p1 : Int32) (st : fkS) : Option (Int32 × fkS) :=
 if p1 < 0 then
 (some ((1 : Int32), st))
 else
 (fk_let (gI st 0 h) <| fun x1 =>
 if x1 ≤ p1 then
 (some ((1 : Int32), st))
 else
 (if p1 < (7 : Int32) then
 (some ((0 : Int32), st))
 else
 (some ((1 : Int32), st))))
set_option maxHeartbeats 1000000 in
set_option maxRecDepth 20000 in
theorem C0_lacks (h : Nat) (hh : kdC h = 0) (p1 : Int32) (st : fkS) {g : fkG} (l : Launch) (o : Int32 × fkS) (hF : F0_lacks h p1 st = some o) : fk_C wC yX0_lacks cX0_lacks 2 (some (.boolean)) 0 0 l g [fk_r g h, .int p1] st (fk_eI o.1) o.2 := by
  refine fk_begin rfl (Nat.le_of_ble_eq_true rfl) (fun k hk => ?_) o hF
  have hk : fk_ok wC g k RX0 cX0_lacks 2 (some (.boolean)) 0 0 := hk
  show fk_J wC g fk_eI k 0 [(0, fk_r g h), (1, .int p1)] [] st (F0_lacks h p1 st)
  unfold F0_lacks
  refine j_iload_n (pc := 0) hk 1 rfl dX0_lacks_0 ?_
  refine j_if_lt (tgt := 18) (pc := 1) hk (by decide) dX0_lacks_1 (fun _ => ?_) (fun _ => ?_)
  · refine j_iconst (pc := 18) hk dX0_lacks_18 (v := 1) (by decide) ?_
    refine j_goto (tgt := 23) (pc := 19) hk (by decide) dX0_lacks_19 ?_
    exact j_zret (pc := 23) hk rfl dX0_lacks_23
  · refine j_iload_n (pc := 4) hk 1 rfl dX0_lacks_4 ?_
    refine j_aload_n (pc := 5) hk 0 rfl ⟨_, rfl⟩ dX0_lacks_5 ?_
    refine f_0_9 (pc := 6) hk (hh) dX0_lacks_6 (fun x1 => ?_)
    refine j_icmp_ge (tgt := 18) (pc := 9) hk (by decide) dX0_lacks_9 (fun _ => ?_) (fun _ => ?_)
    · refine j_iconst (pc := 18) hk dX0_lacks_18 (v := 1) (by decide) ?_
      refine j_goto (tgt := 23) (pc := 19) hk (by decide) dX0_lacks_19 ?_
      exact j_zret (pc := 23) hk rfl dX0_lacks_23
    · refine j_iload_n (pc := 12) hk 1 rfl dX0_lacks_12 ?_
      refine j_bipush (pc := 13) hk dX0_lacks_13 (v := 7) (by decide) ?_
      refine j_icmp_lt (tgt := 22) (pc := 15) hk (by decide) dX0_lacks_15 (fun _ => ?_) (fun _ => ?_)
      · refine j_iconst (pc := 22) hk dX0_lacks_22 (v := 0) (by decide) ?_
        exact j_zret (pc := 23) hk rfl dX0_lacks_23
      · refine j_iconst (pc := 18) hk dX0_lacks_18 (v := 1) (by decide) ?_
        refine j_goto (tgt := 23) (pc := 19) hk (by decide) dX0_lacks_19 ?_
        exact j_zret (pc := 23) hk rfl dX0_lacks_23
theorem dX0_add_0 : decode cX0_add 0 = .ok (.aload_n 0, 1) := by decide +kernel
theorem dX0_add_1 : decode cX0_add 1 = .ok (.getfield 9, 3) := by decide +kernel
theorem dX0_add_4 : decode cX0_add 4 = .ok (.ifCond .lt 12, 3) := by decide +kernel
theorem dX0_add_7 : decode cX0_add 7 = .ok (.aload_n 0, 1) := by decide +kernel
theorem dX0_add_8 : decode cX0_add 8 = .ok (.getfield 9, 3) := by decide +kernel
theorem dX0_add_11 : decode cX0_add 11 = .ok (.bipush 7, 2) := by decide +kernel
theorem dX0_add_13 : decode cX0_add 13 = .ok (.if_icmp .lt 4, 3) := by decide +kernel
theorem dX0_add_16 : decode cX0_add 16 = .ok (.return_, 1) := by decide +kernel
theorem dX0_add_17 : decode cX0_add 17 = .ok (.aload_n 0, 1) := by decide +kernel
theorem dX0_add_18 : decode cX0_add 18 = .ok (.getfield 15, 3) := by decide +kernel
theorem dX0_add_21 : decode cX0_add 21 = .ok (.aload_n 0, 1) := by decide +kernel
theorem dX0_add_22 : decode cX0_add 22 = .ok (.getfield 9, 3) := by decide +kernel
theorem dX0_add_25 : decode cX0_add 25 = .ok (.iload_n 1, 1) := by decide +kernel
theorem dX0_add_26 : decode cX0_add 26 = .ok (.iastore, 1) := by decide +kernel
theorem dX0_add_27 : decode cX0_add 27 = .ok (.aload_n 0, 1) := by decide +kernel
theorem dX0_add_28 : decode cX0_add 28 = .ok (.getfield 19, 3) := by decide +kernel
theorem dX0_add_31 : decode cX0_add 31 = .ok (.aload_n 0, 1) := by decide +kernel
theorem dX0_add_32 : decode cX0_add 32 = .ok (.getfield 9, 3) := by decide +kernel
theorem dX0_add_35 : decode cX0_add 35 = .ok (.iload_n 2, 1) := by decide +kernel
theorem dX0_add_36 : decode cX0_add 36 = .ok (.iastore, 1) := by decide +kernel
theorem dX0_add_37 : decode cX0_add 37 = .ok (.aload_n 0, 1) := by decide +kernel
theorem dX0_add_38 : decode cX0_add 38 = .ok (.getfield 22, 3) := by decide +kernel
theorem dX0_add_41 : decode cX0_add 41 = .ok (.aload_n 0, 1) := by decide +kernel
theorem dX0_add_42 : decode cX0_add 42 = .ok (.getfield 9, 3) := by decide +kernel
theorem dX0_add_45 : decode cX0_add 45 = .ok (.iload_n 3, 1) := by decide +kernel
theorem dX0_add_46 : decode cX0_add 46 = .ok (.iastore, 1) := by decide +kernel
theorem dX0_add_47 : decode cX0_add 47 = .ok (.aload_n 0, 1) := by decide +kernel
theorem dX0_add_48 : decode cX0_add 48 = .ok (.dup, 1) := by decide +kernel
theorem dX0_add_49 : decode cX0_add 49 = .ok (.getfield 9, 3) := by decide +kernel
theorem dX0_add_52 : decode cX0_add 52 = .ok (.iconst 1, 1) := by decide +kernel
theorem dX0_add_53 : decode cX0_add 53 = .ok (.iadd, 1) := by decide +kernel
theorem dX0_add_54 : decode cX0_add 54 = .ok (.putfield 9, 3) := by decide +kernel
theorem dX0_add_57 : decode cX0_add 57 = .ok (.return_, 1) := by decide +kernel
def F0_add (h : Nat) (p1 : Int32) (p2 : Int32) (p3 : Int32) (st : fkS) : Option (Unit × fkS) :=
 fk_let (gI st 0 h) <| fun x1 =>
 if x1 < 0 then
 (some ((), st))
 else
 (fk_let (gI st 0 h) <| fun x2 =>
 if x2 < (7 : Int32) then
 (fk_let (gI st 0 h) <| fun x3 =>
 fk_chk (fk_in x3 7) <| fk_let (sA st (h + 3) x3.toNatClampNeg p1) <| fun st4 =>
 fk_let (gI st4 0 h) <| fun x5 =>
 fk_chk (fk_in x5 7) <| fk_let (sA st4 (h + 6) x5.toNatClampNeg p2) <| fun st6 =>
 fk_let (gI st6 0 h) <| fun x7 =>
 fk_chk (fk_in x7 7) <| fk_let (sA st6 (h + 9) x7.toNatClampNeg p3) <| fun st8 =>
 fk_let (gI st8 0 h) <| fun x9 =>
 fk_let (sI st8 0 h (x9 + (1 : Int32))) <| fun st10 =>
 some ((), st10))
 else
 (some ((), st)))
set_option maxHeartbeats 1000000 in
set_option maxRecDepth 20000 in
theorem C0_add (h : Nat) (hh : kdC h = 0) (p1 : Int32) (p2 : Int32) (p3 : Int32) (st : fkS) {g : fkG} (l : Launch) (o : Unit × fkS) (hF : F0_add h p1 p2 p3 st = some o) : fk_C wC yX0_add cX0_add 4 none 0 0 l g [fk_r g h, .int p1, .int p2, .int p3] st (fk_eU o.1) o.2 := by
  refine fk_begin rfl (Nat.le_of_ble_eq_true rfl) (fun k hk => ?_) o hF
  have hk : fk_ok wC g k RX0 cX0_add 4 none 0 0 := hk
  show fk_J wC g fk_eU k 0 [(0, fk_r g h), (1, .int p1), (2, .int p2), (3, .int p3)] [] st (F0_add h p1 p2 p3 st)
  unfold F0_add
  refine j_aload_n (pc := 0) hk 0 rfl ⟨_, rfl⟩ dX0_add_0 ?_
  refine f_0_9 (pc := 1) hk (hh) dX0_add_1 (fun x1 => ?_)
  refine j_if_lt (tgt := 16) (pc := 4) hk (by decide) dX0_add_4 (fun _ => ?_) (fun _ => ?_)
  · exact j_vret (pc := 16) hk dX0_add_16
  · refine j_aload_n (pc := 7) hk 0 rfl ⟨_, rfl⟩ dX0_add_7 ?_
    refine f_0_9 (pc := 8) hk (hh) dX0_add_8 (fun x2 => ?_)
    refine j_bipush (pc := 11) hk dX0_add_11 (v := 7) (by decide) ?_
    refine j_icmp_lt (tgt := 17) (pc := 13) hk (by decide) dX0_add_13 (fun _ => ?_) (fun _ => ?_)
    · refine j_aload_n (pc := 17) hk 0 rfl ⟨_, rfl⟩ dX0_add_17 ?_
      refine f_0_15 (pc := 18) hk (hh) dX0_add_18 ?_
      refine j_aload_n (pc := 21) hk 0 rfl ⟨_, rfl⟩ dX0_add_21 ?_
      refine f_0_9 (pc := 22) hk (hh) dX0_add_22 (fun x3 => ?_)
      refine j_iload_n (pc := 25) hk 1 rfl dX0_add_25 ?_
      refine a_istore (pc := 26) hk (isI_0_1 (hh)) dX0_add_26 (fun st4 => ?_)
      refine j_aload_n (pc := 27) hk 0 rfl ⟨_, rfl⟩ dX0_add_27 ?_
      refine f_0_19 (pc := 28) hk (hh) dX0_add_28 ?_
      refine j_aload_n (pc := 31) hk 0 rfl ⟨_, rfl⟩ dX0_add_31 ?_
      refine f_0_9 (pc := 32) hk (hh) dX0_add_32 (fun x5 => ?_)
      refine j_iload_n (pc := 35) hk 2 rfl dX0_add_35 ?_
      refine a_istore (pc := 36) hk (isI_0_2 (hh)) dX0_add_36 (fun st6 => ?_)
      refine j_aload_n (pc := 37) hk 0 rfl ⟨_, rfl⟩ dX0_add_37 ?_
      refine f_0_22 (pc := 38) hk (hh) dX0_add_38 ?_
      refine j_aload_n (pc := 41) hk 0 rfl ⟨_, rfl⟩ dX0_add_41 ?_
      refine f_0_9 (pc := 42) hk (hh) dX0_add_42 (fun x7 => ?_)
      refine j_iload_n (pc := 45) hk 3 rfl dX0_add_45 ?_
      refine a_istore (pc := 46) hk (isI_0_3 (hh)) dX0_add_46 (fun st8 => ?_)
      refine j_aload_n (pc := 47) hk 0 rfl ⟨_, rfl⟩ dX0_add_47 ?_
      refine j_dup (pc := 48) hk rfl dX0_add_48 ?_
      refine f_0_9 (pc := 49) hk (hh) dX0_add_49 (fun x9 => ?_)
      refine j_iconst (pc := 52) hk dX0_add_52 (v := 1) (by decide) ?_
      refine j_iadd (pc := 53) hk dX0_add_53 ?_
      refine p_0_9 (pc := 54) hk (hh) dX0_add_54 (fun st10 => ?_)
      exact j_vret (pc := 57) hk dX0_add_57
    · exact j_vret (pc := 16) hk dX0_add_16
theorem dX0_comingBy_0 : decode cX0_comingBy 0 = .ok (.iload_n 1, 1) := by decide +kernel
theorem dX0_comingBy_1 : decode cX0_comingBy 1 = .ok (.ifCond .lt 18, 3) := by decide +kernel
theorem dX0_comingBy_4 : decode cX0_comingBy 4 = .ok (.iload_n 1, 1) := by decide +kernel
theorem dX0_comingBy_5 : decode cX0_comingBy 5 = .ok (.bipush 8, 2) := by decide +kernel
theorem dX0_comingBy_7 : decode cX0_comingBy 7 = .ok (.if_icmp .ge 12, 3) := by decide +kernel
theorem dX0_comingBy_10 : decode cX0_comingBy 10 = .ok (.iload_n 2, 1) := by decide +kernel
theorem dX0_comingBy_11 : decode cX0_comingBy 11 = .ok (.ifCond .lt 8, 3) := by decide +kernel
theorem dX0_comingBy_14 : decode cX0_comingBy 14 = .ok (.iload_n 2, 1) := by decide +kernel
theorem dX0_comingBy_15 : decode cX0_comingBy 15 = .ok (.iconst 5, 1) := by decide +kernel
theorem dX0_comingBy_16 : decode cX0_comingBy 16 = .ok (.if_icmp .lt 5, 3) := by decide +kernel
theorem dX0_comingBy_19 : decode cX0_comingBy 19 = .ok (.iconst (-1), 1) := by decide +kernel
theorem dX0_comingBy_20 : decode cX0_comingBy 20 = .ok (.ireturn, 1) := by decide +kernel
theorem dX0_comingBy_21 : decode cX0_comingBy 21 = .ok (.aload_n 0, 1) := by decide +kernel
theorem dX0_comingBy_22 : decode cX0_comingBy 22 = .ok (.getfield 25, 3) := by decide +kernel
theorem dX0_comingBy_25 : decode cX0_comingBy 25 = .ok (.iload_n 1, 1) := by decide +kernel
theorem dX0_comingBy_26 : decode cX0_comingBy 26 = .ok (.iconst 5, 1) := by decide +kernel
theorem dX0_comingBy_27 : decode cX0_comingBy 27 = .ok (.imul, 1) := by decide +kernel
theorem dX0_comingBy_28 : decode cX0_comingBy 28 = .ok (.iload_n 2, 1) := by decide +kernel
theorem dX0_comingBy_29 : decode cX0_comingBy 29 = .ok (.iadd, 1) := by decide +kernel
theorem dX0_comingBy_30 : decode cX0_comingBy 30 = .ok (.iaload, 1) := by decide +kernel
theorem dX0_comingBy_31 : decode cX0_comingBy 31 = .ok (.ireturn, 1) := by decide +kernel
def F0_comingBy (h : Nat) (p1 : Int32) (p2 : Int32) (st : fkS) : Option (Int32 × fkS) :=
 if p1 < 0 then
 (some ((-1 : Int32), st))
 else
 (if (8 : Int32) ≤ p1 then
 (some ((-1 : Int32), st))
 else
 (if p2 < 0 then
 (some ((-1 : Int32), st))
 else
 (if p2 < (5 : Int32) then
 (fk_chk (fk_in ((p1 * (5 : Int32)) + p2) 40) <| fk_let (gA st (h + 12) ((p1 * (5 : Int32)) + p2).toNatClampNeg) <| fun x1 =>
 some (x1, st))
 else
 (some ((-1 : Int32), st)))))
set_option maxHeartbeats 1000000 in
set_option maxRecDepth 20000 in
theorem C0_comingBy (h : Nat) (hh : kdC h = 0) (p1 : Int32) (p2 : Int32) (st : fkS) {g : fkG} (l : Launch) (o : Int32 × fkS) (hF : F0_comingBy h p1 p2 st = some o) : fk_C wC yX0_comingBy cX0_comingBy 3 (some (.int)) 0 0 l g [fk_r g h, .int p1, .int p2] st (fk_eI o.1) o.2 := by
  refine fk_begin rfl (Nat.le_of_ble_eq_true rfl) (fun k hk => ?_) o hF
  have hk : fk_ok wC g k RX0 cX0_comingBy 3 (some (.int)) 0 0 := hk
  show fk_J wC g fk_eI k 0 [(0, fk_r g h), (1, .int p1), (2, .int p2)] [] st (F0_comingBy h p1 p2 st)
  unfold F0_comingBy
  refine j_iload_n (pc := 0) hk 1 rfl dX0_comingBy_0 ?_
  refine j_if_lt (tgt := 19) (pc := 1) hk (by decide) dX0_comingBy_1 (fun _ => ?_) (fun _ => ?_)
  · refine j_iconst (pc := 19) hk dX0_comingBy_19 (v := -1) (by decide) ?_
    exact j_iret (pc := 20) hk dX0_comingBy_20
  · refine j_iload_n (pc := 4) hk 1 rfl dX0_comingBy_4 ?_
    refine j_bipush (pc := 5) hk dX0_comingBy_5 (v := 8) (by decide) ?_
    refine j_icmp_ge (tgt := 19) (pc := 7) hk (by decide) dX0_comingBy_7 (fun _ => ?_) (fun _ => ?_)
    · refine j_iconst (pc := 19) hk dX0_comingBy_19 (v := -1) (by decide) ?_
      exact j_iret (pc := 20) hk dX0_comingBy_20
    · refine j_iload_n (pc := 10) hk 2 rfl dX0_comingBy_10 ?_
      refine j_if_lt (tgt := 19) (pc := 11) hk (by decide) dX0_comingBy_11 (fun _ => ?_) (fun _ => ?_)
      · refine j_iconst (pc := 19) hk dX0_comingBy_19 (v := -1) (by decide) ?_
        exact j_iret (pc := 20) hk dX0_comingBy_20
      · refine j_iload_n (pc := 14) hk 2 rfl dX0_comingBy_14 ?_
        refine j_iconst (pc := 15) hk dX0_comingBy_15 (v := 5) (by decide) ?_
        refine j_icmp_lt (tgt := 21) (pc := 16) hk (by decide) dX0_comingBy_16 (fun _ => ?_) (fun _ => ?_)
        · refine j_aload_n (pc := 21) hk 0 rfl ⟨_, rfl⟩ dX0_comingBy_21 ?_
          refine f_0_25 (pc := 22) hk (hh) dX0_comingBy_22 ?_
          refine j_iload_n (pc := 25) hk 1 rfl dX0_comingBy_25 ?_
          refine j_iconst (pc := 26) hk dX0_comingBy_26 (v := 5) (by decide) ?_
          refine j_imul (pc := 27) hk dX0_comingBy_27 ?_
          refine j_iload_n (pc := 28) hk 2 rfl dX0_comingBy_28 ?_
          refine j_iadd (pc := 29) hk dX0_comingBy_29 ?_
          refine a_iload (pc := 30) hk (isI_0_4 (hh)) dX0_comingBy_30 (fun x1 => ?_)
          exact j_iret (pc := 31) hk dX0_comingBy_31
        · refine j_iconst (pc := 19) hk dX0_comingBy_19 (v := -1) (by decide) ?_
          exact j_iret (pc := 20) hk dX0_comingBy_20
theorem dX0_setComing_0 : decode cX0_setComing 0 = .ok (.aload_n 0, 1) := by decide +kernel
theorem dX0_setComing_1 : decode cX0_setComing 1 = .ok (.iload_n 1, 1) := by decide +kernel
theorem dX0_setComing_2 : decode cX0_setComing 2 = .ok (.iload_n 2, 1) := by decide +kernel
theorem dX0_setComing_3 : decode cX0_setComing 3 = .ok (.invokevirtual 52, 3) := by decide +kernel
theorem dX0_setComing_6 : decode cX0_setComing 6 = .ok (.iconst (-1), 1) := by decide +kernel
theorem dX0_setComing_7 : decode cX0_setComing 7 = .ok (.if_icmp .eq 14, 3) := by decide +kernel
theorem dX0_setComing_10 : decode cX0_setComing 10 = .ok (.aload_n 0, 1) := by decide +kernel
theorem dX0_setComing_11 : decode cX0_setComing 11 = .ok (.getfield 25, 3) := by decide +kernel
theorem dX0_setComing_14 : decode cX0_setComing 14 = .ok (.iload_n 1, 1) := by decide +kernel
theorem dX0_setComing_15 : decode cX0_setComing 15 = .ok (.iconst 5, 1) := by decide +kernel
theorem dX0_setComing_16 : decode cX0_setComing 16 = .ok (.imul, 1) := by decide +kernel
theorem dX0_setComing_17 : decode cX0_setComing 17 = .ok (.iload_n 2, 1) := by decide +kernel
theorem dX0_setComing_18 : decode cX0_setComing 18 = .ok (.iadd, 1) := by decide +kernel
theorem dX0_setComing_19 : decode cX0_setComing 19 = .ok (.iload_n 3, 1) := by decide +kernel
theorem dX0_setComing_20 : decode cX0_setComing 20 = .ok (.iastore, 1) := by decide +kernel
theorem dX0_setComing_21 : decode cX0_setComing 21 = .ok (.return_, 1) := by decide +kernel
def F0_setComing (h : Nat) (p1 : Int32) (p2 : Int32) (p3 : Int32) (st : fkS) : Option (Unit × fkS) :=
 fk_bind (F0_comingBy h p1 p2 st) <| fun x1 st2 =>
 if x1 = (-1 : Int32) then
 (some ((), st2))
 else
 (fk_chk (fk_in ((p1 * (5 : Int32)) + p2) 40) <| fk_let (sA st2 (h + 12) ((p1 * (5 : Int32)) + p2).toNatClampNeg p3) <| fun st3 =>
 some ((), st3))
set_option maxHeartbeats 1000000 in
set_option maxRecDepth 20000 in
theorem C0_setComing (h : Nat) (hh : kdC h = 0) (p1 : Int32) (p2 : Int32) (p3 : Int32) (st : fkS) {g : fkG} (l : Launch) (o : Unit × fkS) (hF : F0_setComing h p1 p2 p3 st = some o) : fk_C wC yX0_setComing cX0_setComing 4 none 1 22 l g [fk_r g h, .int p1, .int p2, .int p3] st (fk_eU o.1) o.2 := by
  refine fk_begin rfl (Nat.le_of_ble_eq_true rfl) (fun k hk => ?_) o hF
  have hk : fk_ok wC g k RX0 cX0_setComing 4 none 1 22 := hk
  show fk_J wC g fk_eU k 0 [(0, fk_r g h), (1, .int p1), (2, .int p2), (3, .int p3)] [] st (F0_setComing h p1 p2 p3 st)
  unfold F0_setComing
  refine j_aload_n (pc := 0) hk 0 rfl ⟨_, rfl⟩ dX0_setComing_0 ?_
  refine j_iload_n (pc := 1) hk 1 rfl dX0_setComing_1 ?_
  refine j_iload_n (pc := 2) hk 2 rfl dX0_setComing_2 ?_
  refine j_callVi (pc := 3) hk [.int p1, .int p2] [] rfl (fun l o hq9 => C0_comingBy h (hh) p1 p2 st l o hq9) (rcv_0 (hh)) yv_X0_comingBy ml_0_52 rfl (Nat.le_of_ble_eq_true rfl) (Nat.le_of_ble_eq_true rfl) (Nat.le_of_ble_eq_true rfl) dX0_setComing_3 (fun x1 st2 => ?_)
  refine j_iconst (pc := 6) hk dX0_setComing_6 (v := -1) (by decide) ?_
  refine j_icmp_eq (tgt := 21) (pc := 7) hk (by decide) dX0_setComing_7 (fun _ => ?_) (fun _ => ?_)
  · exact j_vret (pc := 21) hk dX0_setComing_21
  · refine j_aload_n (pc := 10) hk 0 rfl ⟨_, rfl⟩ dX0_setComing_10 ?_
    refine f_0_25 (pc := 11) hk (hh) dX0_setComing_11 ?_
    refine j_iload_n (pc := 14) hk 1 rfl dX0_setComing_14 ?_
    refine j_iconst (pc := 15) hk dX0_setComing_15 (v := 5) (by decide) ?_
    refine j_imul (pc := 16) hk dX0_setComing_16 ?_
    refine j_iload_n (pc := 17) hk 2 rfl dX0_setComing_17 ?_
    refine j_iadd (pc := 18) hk dX0_setComing_18 ?_
    refine j_iload_n (pc := 19) hk 3 rfl dX0_setComing_19 ?_
    refine a_istore (pc := 20) hk (isI_0_4 (hh)) dX0_setComing_20 (fun st3 => ?_)
    exact j_vret (pc := 21) hk dX0_setComing_21
theorem dX0_endOf_0 : decode cX0_endOf 0 = .ok (.iload_n 2, 1) := by decide +kernel
theorem dX0_endOf_1 : decode cX0_endOf 1 = .ok (.istore_n 3, 1) := by decide +kernel
theorem dX0_endOf_2 : decode cX0_endOf 2 = .ok (.iconst 0, 1) := by decide +kernel
theorem dX0_endOf_3 : decode cX0_endOf 3 = .ok (.istore 4, 2) := by decide +kernel
theorem dX0_endOf_5 : decode cX0_endOf 5 = .ok (.iload 4, 2) := by decide +kernel
theorem dX0_endOf_7 : decode cX0_endOf 7 = .ok (.aload_n 1, 1) := by decide +kernel
theorem dX0_endOf_8 : decode cX0_endOf 8 = .ok (.getfield 56, 3) := by decide +kernel
theorem dX0_endOf_11 : decode cX0_endOf 11 = .ok (.if_icmp .ge 34, 3) := by decide +kernel
theorem dX0_endOf_14 : decode cX0_endOf 14 = .ok (.iload 4, 2) := by decide +kernel
theorem dX0_endOf_16 : decode cX0_endOf 16 = .ok (.aload_n 1, 1) := by decide +kernel
theorem dX0_endOf_17 : decode cX0_endOf 17 = .ok (.getfield 61, 3) := by decide +kernel
theorem dX0_endOf_20 : decode cX0_endOf 20 = .ok (.arraylength, 1) := by decide +kernel
theorem dX0_endOf_21 : decode cX0_endOf 21 = .ok (.if_icmp .ge 24, 3) := by decide +kernel
theorem dX0_endOf_24 : decode cX0_endOf 24 = .ok (.aload_n 0, 1) := by decide +kernel
theorem dX0_endOf_25 : decode cX0_endOf 25 = .ok (.iload_n 3, 1) := by decide +kernel
theorem dX0_endOf_26 : decode cX0_endOf 26 = .ok (.aload_n 1, 1) := by decide +kernel
theorem dX0_endOf_27 : decode cX0_endOf 27 = .ok (.getfield 61, 3) := by decide +kernel
theorem dX0_endOf_30 : decode cX0_endOf 30 = .ok (.iload 4, 2) := by decide +kernel
theorem dX0_endOf_32 : decode cX0_endOf 32 = .ok (.iaload, 1) := by decide +kernel
theorem dX0_endOf_33 : decode cX0_endOf 33 = .ok (.iconst 5, 1) := by decide +kernel
theorem dX0_endOf_34 : decode cX0_endOf 34 = .ok (.irem, 1) := by decide +kernel
theorem dX0_endOf_35 : decode cX0_endOf 35 = .ok (.invokevirtual 52, 3) := by decide +kernel
theorem dX0_endOf_38 : decode cX0_endOf 38 = .ok (.istore_n 3, 1) := by decide +kernel
theorem dX0_endOf_39 : decode cX0_endOf 39 = .ok (.iinc 4 1, 3) := by decide +kernel
theorem dX0_endOf_42 : decode cX0_endOf 42 = .ok (.goto (-37), 3) := by decide +kernel
theorem dX0_endOf_45 : decode cX0_endOf 45 = .ok (.iload_n 3, 1) := by decide +kernel
theorem dX0_endOf_46 : decode cX0_endOf 46 = .ok (.ireturn, 1) := by decide +kernel
def B0_endOf_5 (h : Nat) (o1 : Nat) (k5 : Int32 → Int32 → fkS → Option (Int32 × fkS)) (v3 : Int32) (v4 : Int32) (st : fkS) : Option (Int32 × fkS) :=
 fk_let (gI st 124 o1) <| fun x1 =>
 if x1 ≤ v4 then
 (some (v3, st))
 else
 (if (16 : Int32) ≤ v4 then
 (some (v3, st))
 else
 (fk_chk (fk_in v4 16) <| fk_let (gA st (o1 + 2) v4.toNatClampNeg) <| fun x2 =>
 fk_bind (F0_comingBy h v3 (fk_rem x2 (5 : Int32)) st) <| fun x3 st4 =>
 k5 x3 (v4 + (1 : Int32)) st4))
set_option maxHeartbeats 1000000 in
set_option maxRecDepth 20000 in
theorem T0_endOf_5 {g : fkG} {k : fkK} (h : Nat) (o1 : Nat) (hh : kdC h = 0) (ho1 : kdC o1 = 6) (hk : fk_ok wC g k RX0 cX0_endOf 5 (some (.int)) 1 22) (k5 : Int32 → Int32 → fkS → Option (Int32 × fkS)) (H5 : ∀ (v3 : Int32) (v4 : Int32) (st : fkS), fk_J wC g fk_eI k 5 [(0, fk_r g h), (1, fk_r g o1), (3, .int v3), (4, .int v4)] [] st (k5 v3 v4 st)) : ∀ (v3 : Int32) (v4 : Int32) (st : fkS), fk_J wC g fk_eI k 5 [(0, fk_r g h), (1, fk_r g o1), (3, .int v3), (4, .int v4)] [] st (B0_endOf_5 h o1 k5 v3 v4 st) := by
  intro v3 v4 st
  unfold B0_endOf_5
  refine j_iload (pc := 5) hk 3 rfl dX0_endOf_5 ?_
  refine j_aload_n (pc := 7) hk 1 rfl ⟨_, rfl⟩ dX0_endOf_7 ?_
  refine f_0_56 (pc := 8) hk (ho1) dX0_endOf_8 (fun x1 => ?_)
  refine j_icmp_ge (tgt := 45) (pc := 11) hk (by decide) dX0_endOf_11 (fun _ => ?_) (fun _ => ?_)
  · refine j_iload_n (pc := 45) hk 2 rfl dX0_endOf_45 ?_
    exact j_iret (pc := 46) hk dX0_endOf_46
  · refine j_iload (pc := 14) hk 3 rfl dX0_endOf_14 ?_
    refine j_aload_n (pc := 16) hk 1 rfl ⟨_, rfl⟩ dX0_endOf_16 ?_
    refine f_0_61 (pc := 17) hk (ho1) dX0_endOf_17 ?_
    refine a_ilen (pc := 20) hk (isI_6_5 (ho1)) (v := 16) (by decide) dX0_endOf_20 ?_
    refine j_icmp_ge (tgt := 45) (pc := 21) hk (by decide) dX0_endOf_21 (fun _ => ?_) (fun _ => ?_)
    · refine j_iload_n (pc := 45) hk 2 rfl dX0_endOf_45 ?_
      exact j_iret (pc := 46) hk dX0_endOf_46
    · refine j_aload_n (pc := 24) hk 0 rfl ⟨_, rfl⟩ dX0_endOf_24 ?_
      refine j_iload_n (pc := 25) hk 2 rfl dX0_endOf_25 ?_
      refine j_aload_n (pc := 26) hk 1 rfl ⟨_, rfl⟩ dX0_endOf_26 ?_
      refine f_0_61 (pc := 27) hk (ho1) dX0_endOf_27 ?_
      refine j_iload (pc := 30) hk 3 rfl dX0_endOf_30 ?_
      refine a_iload (pc := 32) hk (isI_6_5 (ho1)) dX0_endOf_32 (fun x2 => ?_)
      refine j_iconst (pc := 33) hk dX0_endOf_33 (v := 5) (by decide) ?_
      refine j_irem (pc := 34) hk (show fk_nz (5 : Int32) = true from by decide) dX0_endOf_34 ?_
      refine j_callVi (pc := 35) hk [.int v3, .int (fk_rem x2 (5 : Int32))] [] rfl (fun l o hq9 => C0_comingBy h (hh) v3 (fk_rem x2 (5 : Int32)) st l o hq9) (rcv_0 (hh)) yv_X0_comingBy ml_0_52 rfl (Nat.le_of_ble_eq_true rfl) (Nat.le_of_ble_eq_true rfl) (Nat.le_of_ble_eq_true rfl) dX0_endOf_35 (fun x3 st4 => ?_)
      refine j_istore_n (lv' := ((3, .int x3) :: [(0, fk_r g h), (1, fk_r g o1), (4, .int v4)])) (pc := 38) hk rfl (by decide) rfl dX0_endOf_38 ?_
      refine j_sub hk (lv' := [(0, fk_r g h), (1, fk_r g o1), (3, .int x3), (4, .int v4)]) [1, 2, 0, 3] rfl ?_
      refine j_iinc (dd := (1 : Int32)) (lv' := ((4, .int (v4 + (1 : Int32))) :: [(0, fk_r g h), (1, fk_r g o1), (3, .int x3)])) (pc := 39) hk 3 rfl (by decide) (by decide) rfl dX0_endOf_39 ?_
      refine j_sub hk (lv' := [(0, fk_r g h), (1, fk_r g o1), (3, .int x3), (4, .int (v4 + (1 : Int32)))]) [1, 2, 3, 0] rfl ?_
      refine j_goto (tgt := 5) (pc := 42) hk (by decide) dX0_endOf_42 ?_
      exact j_sub hk [0, 1, 2, 3] rfl (H5 x3 (v4 + (1 : Int32)) st4)
set_option maxHeartbeats 1000000 in
set_option maxRecDepth 20000 in
theorem L0_endOf_5 {g : fkG} {k : fkK} (h : Nat) (o1 : Nat) (hh : kdC h = 0) (ho1 : kdC o1 = 6) (hk : fk_ok wC g k RX0 cX0_endOf 5 (some (.int)) 1 22) (fu : Nat) : ∀ (v3 : Int32) (v4 : Int32) (st : fkS), fk_J wC g fk_eI k 5 [(0, fk_r g h), (1, fk_r g o1), (3, .int v3), (4, .int v4)] [] st (fk_lp2 (B0_endOf_5 h o1) fu v3 v4 st) := by
  induction fu with
  | zero =>
    intro v3 v4 st
    exact j_none hk
  | succ fu ih =>
    exact T0_endOf_5 h o1 hh ho1 hk _ ih
def F0_endOf (h : Nat) (o1 : Nat) (p2 : Int32) (st : fkS) : Option (Int32 × fkS) :=
 fk_lp2 (B0_endOf_5 h o1) fk_fuel p2 (0 : Int32) st
set_option maxHeartbeats 1000000 in
set_option maxRecDepth 20000 in
theorem C0_endOf (h : Nat) (o1 : Nat) (hh : kdC h = 0) (ho1 : kdC o1 = 6) (p2 : Int32) (st : fkS) {g : fkG} (l : Launch) (o : Int32 × fkS) (hF : F0_endOf h o1 p2 st = some o) : fk_C wC yX0_endOf cX0_endOf 5 (some (.int)) 1 22 l g [fk_r g h, fk_r g o1, .int p2] st (fk_eI o.1) o.2 := by
  refine fk_begin rfl (Nat.le_of_ble_eq_true rfl) (fun k hk => ?_) o hF
  have hk : fk_ok wC g k RX0 cX0_endOf 5 (some (.int)) 1 22 := hk
  show fk_J wC g fk_eI k 0 [(0, fk_r g h), (1, fk_r g o1), (2, .int p2)] [] st (F0_endOf h o1 p2 st)
  unfold F0_endOf
  refine j_iload_n (pc := 0) hk 2 rfl dX0_endOf_0 ?_
  refine j_istore_n (lv' := ((3, .int p2) :: [(0, fk_r g h), (1, fk_r g o1), (2, .int p2)])) (pc := 1) hk rfl (by decide) rfl dX0_endOf_1 ?_
  refine j_sub hk (lv' := [(0, fk_r g h), (1, fk_r g o1), (2, .int p2), (3, .int p2)]) [1, 2, 3, 0] rfl ?_
  refine j_iconst (pc := 2) hk dX0_endOf_2 (v := 0) (by decide) ?_
  refine j_istore (lv' := ((4, .int (0 : Int32)) :: [(0, fk_r g h), (1, fk_r g o1), (2, .int p2), (3, .int p2)])) (pc := 3) hk (by decide) rfl dX0_endOf_3 ?_
  refine j_sub hk (lv' := [(0, fk_r g h), (1, fk_r g o1), (2, .int p2), (3, .int p2), (4, .int (0 : Int32))]) [1, 2, 3, 4, 0] rfl ?_
  exact j_sub hk [0, 1, 3, 4] rfl (L0_endOf_5 h o1 hh ho1 hk fk_fuel p2 (0 : Int32) st)
theorem dX0_illsOf_0 : decode cX0_illsOf 0 = .ok (.aload_n 0, 1) := by decide +kernel
theorem dX0_illsOf_1 : decode cX0_illsOf 1 = .ok (.getfield 31, 3) := by decide +kernel
theorem dX0_illsOf_4 : decode cX0_illsOf 4 = .ok (.istore_n 2, 1) := by decide +kernel
theorem dX0_illsOf_5 : decode cX0_illsOf 5 = .ok (.iconst 0, 1) := by decide +kernel
theorem dX0_illsOf_6 : decode cX0_illsOf 6 = .ok (.istore_n 3, 1) := by decide +kernel
theorem dX0_illsOf_7 : decode cX0_illsOf 7 = .ok (.iconst 0, 1) := by decide +kernel
theorem dX0_illsOf_8 : decode cX0_illsOf 8 = .ok (.istore 4, 2) := by decide +kernel
theorem dX0_illsOf_10 : decode cX0_illsOf 10 = .ok (.iload 4, 2) := by decide +kernel
theorem dX0_illsOf_12 : decode cX0_illsOf 12 = .ok (.aload_n 1, 1) := by decide +kernel
theorem dX0_illsOf_13 : decode cX0_illsOf 13 = .ok (.getfield 56, 3) := by decide +kernel
theorem dX0_illsOf_16 : decode cX0_illsOf 16 = .ok (.if_icmp .ge 45, 3) := by decide +kernel
theorem dX0_illsOf_19 : decode cX0_illsOf 19 = .ok (.iload 4, 2) := by decide +kernel
theorem dX0_illsOf_21 : decode cX0_illsOf 21 = .ok (.aload_n 1, 1) := by decide +kernel
theorem dX0_illsOf_22 : decode cX0_illsOf 22 = .ok (.getfield 61, 3) := by decide +kernel
theorem dX0_illsOf_25 : decode cX0_illsOf 25 = .ok (.arraylength, 1) := by decide +kernel
theorem dX0_illsOf_26 : decode cX0_illsOf 26 = .ok (.if_icmp .ge 35, 3) := by decide +kernel
theorem dX0_illsOf_29 : decode cX0_illsOf 29 = .ok (.aload_n 0, 1) := by decide +kernel
theorem dX0_illsOf_30 : decode cX0_illsOf 30 = .ok (.iload_n 2, 1) := by decide +kernel
theorem dX0_illsOf_31 : decode cX0_illsOf 31 = .ok (.aload_n 1, 1) := by decide +kernel
theorem dX0_illsOf_32 : decode cX0_illsOf 32 = .ok (.getfield 61, 3) := by decide +kernel
theorem dX0_illsOf_35 : decode cX0_illsOf 35 = .ok (.iload 4, 2) := by decide +kernel
theorem dX0_illsOf_37 : decode cX0_illsOf 37 = .ok (.iaload, 1) := by decide +kernel
theorem dX0_illsOf_38 : decode cX0_illsOf 38 = .ok (.iconst 5, 1) := by decide +kernel
theorem dX0_illsOf_39 : decode cX0_illsOf 39 = .ok (.irem, 1) := by decide +kernel
theorem dX0_illsOf_40 : decode cX0_illsOf 40 = .ok (.invokevirtual 52, 3) := by decide +kernel
theorem dX0_illsOf_43 : decode cX0_illsOf 43 = .ok (.istore_n 2, 1) := by decide +kernel
theorem dX0_illsOf_44 : decode cX0_illsOf 44 = .ok (.iload_n 3, 1) := by decide +kernel
theorem dX0_illsOf_45 : decode cX0_illsOf 45 = .ok (.aload_n 0, 1) := by decide +kernel
theorem dX0_illsOf_46 : decode cX0_illsOf 46 = .ok (.getfield 34, 3) := by decide +kernel
theorem dX0_illsOf_49 : decode cX0_illsOf 49 = .ok (.iload_n 2, 1) := by decide +kernel
theorem dX0_illsOf_50 : decode cX0_illsOf 50 = .ok (.ishr, 1) := by decide +kernel
theorem dX0_illsOf_51 : decode cX0_illsOf 51 = .ok (.iconst 1, 1) := by decide +kernel
theorem dX0_illsOf_52 : decode cX0_illsOf 52 = .ok (.iand, 1) := by decide +kernel
theorem dX0_illsOf_53 : decode cX0_illsOf 53 = .ok (.iadd, 1) := by decide +kernel
theorem dX0_illsOf_54 : decode cX0_illsOf 54 = .ok (.istore_n 3, 1) := by decide +kernel
theorem dX0_illsOf_55 : decode cX0_illsOf 55 = .ok (.iinc 4 1, 3) := by decide +kernel
theorem dX0_illsOf_58 : decode cX0_illsOf 58 = .ok (.goto (-48), 3) := by decide +kernel
theorem dX0_illsOf_61 : decode cX0_illsOf 61 = .ok (.iload_n 3, 1) := by decide +kernel
theorem dX0_illsOf_62 : decode cX0_illsOf 62 = .ok (.ireturn, 1) := by decide +kernel
def B0_illsOf_10 (h : Nat) (o1 : Nat) (k10 : Int32 → Int32 → Int32 → fkS → Option (Int32 × fkS)) (v2 : Int32) (v3 : Int32) (v4 : Int32) (st : fkS) : Option (Int32 × fkS) :=
 fk_let (gI st 124 o1) <| fun x2 =>
 if x2 ≤ v4 then
 (some (v3, st))
 else
 (if (16 : Int32) ≤ v4 then
 (some (v3, st))
 else
 (fk_chk (fk_in v4 16) <| fk_let (gA st (o1 + 2) v4.toNatClampNeg) <| fun x3 =>
 fk_bind (F0_comingBy h v2 (fk_rem x3 (5 : Int32)) st) <| fun x4 st5 =>
 fk_let (gI st5 7 h) <| fun x6 =>
 k10 x4 (v3 + ((x6 >>> (x4 &&& 31)) &&& (1 : Int32))) (v4 + (1 : Int32)) st5))
set_option maxHeartbeats 1000000 in
set_option maxRecDepth 20000 in
theorem T0_illsOf_10 {g : fkG} {k : fkK} (h : Nat) (o1 : Nat) (hh : kdC h = 0) (ho1 : kdC o1 = 6) (hk : fk_ok wC g k RX0 cX0_illsOf 5 (some (.int)) 1 22) (k10 : Int32 → Int32 → Int32 → fkS → Option (Int32 × fkS)) (H10 : ∀ (v2 : Int32) (v3 : Int32) (v4 : Int32) (st : fkS), fk_J wC g fk_eI k 10 [(0, fk_r g h), (1, fk_r g o1), (2, .int v2), (3, .int v3), (4, .int v4)] [] st (k10 v2 v3 v4 st)) : ∀ (v2 : Int32) (v3 : Int32) (v4 : Int32) (st : fkS), fk_J wC g fk_eI k 10 [(0, fk_r g h), (1, fk_r g o1), (2, .int v2), (3, .int v3), (4, .int v4)] [] st (B0_illsOf_10 h o1 k10 v2 v3 v4 st) := by
  intro v2 v3 v4 st
  unfold B0_illsOf_10
  refine j_iload (pc := 10) hk 4 rfl dX0_illsOf_10 ?_
  refine j_aload_n (pc := 12) hk 1 rfl ⟨_, rfl⟩ dX0_illsOf_12 ?_
  refine f_0_56 (pc := 13) hk (ho1) dX0_illsOf_13 (fun x2 => ?_)
  refine j_icmp_ge (tgt := 61) (pc := 16) hk (by decide) dX0_illsOf_16 (fun _ => ?_) (fun _ => ?_)
  · refine j_iload_n (pc := 61) hk 3 rfl dX0_illsOf_61 ?_
    exact j_iret (pc := 62) hk dX0_illsOf_62
  · refine j_iload (pc := 19) hk 4 rfl dX0_illsOf_19 ?_
    refine j_aload_n (pc := 21) hk 1 rfl ⟨_, rfl⟩ dX0_illsOf_21 ?_
    refine f_0_61 (pc := 22) hk (ho1) dX0_illsOf_22 ?_
    refine a_ilen (pc := 25) hk (isI_6_5 (ho1)) (v := 16) (by decide) dX0_illsOf_25 ?_
    refine j_icmp_ge (tgt := 61) (pc := 26) hk (by decide) dX0_illsOf_26 (fun _ => ?_) (fun _ => ?_)
    · refine j_iload_n (pc := 61) hk 3 rfl dX0_illsOf_61 ?_
      exact j_iret (pc := 62) hk dX0_illsOf_62
    · refine j_aload_n (pc := 29) hk 0 rfl ⟨_, rfl⟩ dX0_illsOf_29 ?_
      refine j_iload_n (pc := 30) hk 2 rfl dX0_illsOf_30 ?_
      refine j_aload_n (pc := 31) hk 1 rfl ⟨_, rfl⟩ dX0_illsOf_31 ?_
      refine f_0_61 (pc := 32) hk (ho1) dX0_illsOf_32 ?_
      refine j_iload (pc := 35) hk 4 rfl dX0_illsOf_35 ?_
      refine a_iload (pc := 37) hk (isI_6_5 (ho1)) dX0_illsOf_37 (fun x3 => ?_)
      refine j_iconst (pc := 38) hk dX0_illsOf_38 (v := 5) (by decide) ?_
      refine j_irem (pc := 39) hk (show fk_nz (5 : Int32) = true from by decide) dX0_illsOf_39 ?_
      refine j_callVi (pc := 40) hk [.int v2, .int (fk_rem x3 (5 : Int32))] [] rfl (fun l o hq9 => C0_comingBy h (hh) v2 (fk_rem x3 (5 : Int32)) st l o hq9) (rcv_0 (hh)) yv_X0_comingBy ml_0_52 rfl (Nat.le_of_ble_eq_true rfl) (Nat.le_of_ble_eq_true rfl) (Nat.le_of_ble_eq_true rfl) dX0_illsOf_40 (fun x4 st5 => ?_)
      refine j_istore_n (lv' := ((2, .int x4) :: [(0, fk_r g h), (1, fk_r g o1), (3, .int v3), (4, .int v4)])) (pc := 43) hk rfl (by decide) rfl dX0_illsOf_43 ?_
      refine j_sub hk (lv' := [(0, fk_r g h), (1, fk_r g o1), (2, .int x4), (3, .int v3), (4, .int v4)]) [1, 2, 0, 3, 4] rfl ?_
      refine j_iload_n (pc := 44) hk 3 rfl dX0_illsOf_44 ?_
      refine j_aload_n (pc := 45) hk 0 rfl ⟨_, rfl⟩ dX0_illsOf_45 ?_
      refine f_0_34 (pc := 46) hk (hh) dX0_illsOf_46 (fun x6 => ?_)
      refine j_iload_n (pc := 49) hk 2 rfl dX0_illsOf_49 ?_
      refine j_ishr (pc := 50) hk dX0_illsOf_50 ?_
      refine j_iconst (pc := 51) hk dX0_illsOf_51 (v := 1) (by decide) ?_
      refine j_iand (pc := 52) hk dX0_illsOf_52 ?_
      refine j_iadd (pc := 53) hk dX0_illsOf_53 ?_
      refine j_istore_n (lv' := ((3, .int (v3 + ((x6 >>> (x4 &&& 31)) &&& (1 : Int32)))) :: [(0, fk_r g h), (1, fk_r g o1), (2, .int x4), (4, .int v4)])) (pc := 54) hk rfl (by decide) rfl dX0_illsOf_54 ?_
      refine j_sub hk (lv' := [(0, fk_r g h), (1, fk_r g o1), (2, .int x4), (3, .int (v3 + ((x6 >>> (x4 &&& 31)) &&& (1 : Int32)))), (4, .int v4)]) [1, 2, 3, 0, 4] rfl ?_
      refine j_iinc (dd := (1 : Int32)) (lv' := ((4, .int (v4 + (1 : Int32))) :: [(0, fk_r g h), (1, fk_r g o1), (2, .int x4), (3, .int (v3 + ((x6 >>> (x4 &&& 31)) &&& (1 : Int32))))])) (pc := 55) hk 4 rfl (by decide) (by decide) rfl dX0_illsOf_55 ?_
      refine j_sub hk (lv' := [(0, fk_r g h), (1, fk_r g o1), (2, .int x4), (3, .int (v3 + ((x6 >>> (x4 &&& 31)) &&& (1 : Int32)))), (4, .int (v4 + (1 : Int32)))]) [1, 2, 3, 4, 0] rfl ?_
      refine j_goto (tgt := 10) (pc := 58) hk (by decide) dX0_illsOf_58 ?_
      exact j_sub hk [0, 1, 2, 3, 4] rfl (H10 x4 (v3 + ((x6 >>> (x4 &&& 31)) &&& (1 : Int32))) (v4 + (1 : Int32)) st5)
set_option maxHeartbeats 1000000 in
set_option maxRecDepth 20000 in
theorem L0_illsOf_10 {g : fkG} {k : fkK} (h : Nat) (o1 : Nat) (hh : kdC h = 0) (ho1 : kdC o1 = 6) (hk : fk_ok wC g k RX0 cX0_illsOf 5 (some (.int)) 1 22) (fu : Nat) : ∀ (v2 : Int32) (v3 : Int32) (v4 : Int32) (st : fkS), fk_J wC g fk_eI k 10 [(0, fk_r g h), (1, fk_r g o1), (2, .int v2), (3, .int v3), (4, .int v4)] [] st (fk_lp3 (B0_illsOf_10 h o1) fu v2 v3 v4 st) := by
  induction fu with
  | zero =>
    intro v2 v3 v4 st
    exact j_none hk
  | succ fu ih =>
    exact T0_illsOf_10 h o1 hh ho1 hk _ ih
def F0_illsOf (h : Nat) (o1 : Nat) (st : fkS) : Option (Int32 × fkS) :=
 fk_let (gI st 6 h) <| fun x1 =>
 fk_lp3 (B0_illsOf_10 h o1) fk_fuel x1 (0 : Int32) (0 : Int32) st
set_option maxHeartbeats 1000000 in
set_option maxRecDepth 20000 in
theorem C0_illsOf (h : Nat) (o1 : Nat) (hh : kdC h = 0) (ho1 : kdC o1 = 6) (st : fkS) {g : fkG} (l : Launch) (o : Int32 × fkS) (hF : F0_illsOf h o1 st = some o) : fk_C wC yX0_illsOf cX0_illsOf 5 (some (.int)) 1 22 l g [fk_r g h, fk_r g o1] st (fk_eI o.1) o.2 := by
  refine fk_begin rfl (Nat.le_of_ble_eq_true rfl) (fun k hk => ?_) o hF
  have hk : fk_ok wC g k RX0 cX0_illsOf 5 (some (.int)) 1 22 := hk
  show fk_J wC g fk_eI k 0 [(0, fk_r g h), (1, fk_r g o1)] [] st (F0_illsOf h o1 st)
  unfold F0_illsOf
  refine j_aload_n (pc := 0) hk 0 rfl ⟨_, rfl⟩ dX0_illsOf_0 ?_
  refine f_0_31 (pc := 1) hk (hh) dX0_illsOf_1 (fun x1 => ?_)
  refine j_istore_n (lv' := ((2, .int x1) :: [(0, fk_r g h), (1, fk_r g o1)])) (pc := 4) hk rfl (by decide) rfl dX0_illsOf_4 ?_
  refine j_sub hk (lv' := [(0, fk_r g h), (1, fk_r g o1), (2, .int x1)]) [1, 2, 0] rfl ?_
  refine j_iconst (pc := 5) hk dX0_illsOf_5 (v := 0) (by decide) ?_
  refine j_istore_n (lv' := ((3, .int (0 : Int32)) :: [(0, fk_r g h), (1, fk_r g o1), (2, .int x1)])) (pc := 6) hk rfl (by decide) rfl dX0_illsOf_6 ?_
  refine j_sub hk (lv' := [(0, fk_r g h), (1, fk_r g o1), (2, .int x1), (3, .int (0 : Int32))]) [1, 2, 3, 0] rfl ?_
  refine j_iconst (pc := 7) hk dX0_illsOf_7 (v := 0) (by decide) ?_
  refine j_istore (lv' := ((4, .int (0 : Int32)) :: [(0, fk_r g h), (1, fk_r g o1), (2, .int x1), (3, .int (0 : Int32))])) (pc := 8) hk (by decide) rfl dX0_illsOf_8 ?_
  refine j_sub hk (lv' := [(0, fk_r g h), (1, fk_r g o1), (2, .int x1), (3, .int (0 : Int32)), (4, .int (0 : Int32))]) [1, 2, 3, 4, 0] rfl ?_
  exact j_sub hk [0, 1, 2, 3, 4] rfl (L0_illsOf_10 h o1 hh ho1 hk fk_fuel x1 (0 : Int32) (0 : Int32) st)
theorem dX0_draw_0 : decode cX0_draw 0 = .ok (.aload_n 0, 1) := by decide +kernel
theorem dX0_draw_1 : decode cX0_draw 1 = .ok (.aload_n 0, 1) := by decide +kernel
theorem dX0_draw_2 : decode cX0_draw 2 = .ok (.getfield 43, 3) := by decide +kernel
theorem dX0_draw_5 : decode cX0_draw 5 = .ok (.ldc 64, 2) := by decide +kernel
theorem dX0_draw_7 : decode cX0_draw 7 = .ok (.imul, 1) := by decide +kernel
theorem dX0_draw_8 : decode cX0_draw 8 = .ok (.sipush 12345, 3) := by decide +kernel
theorem dX0_draw_11 : decode cX0_draw 11 = .ok (.iadd, 1) := by decide +kernel
theorem dX0_draw_12 : decode cX0_draw 12 = .ok (.putfield 43, 3) := by decide +kernel
theorem dX0_draw_15 : decode cX0_draw 15 = .ok (.iload_n 1, 1) := by decide +kernel
theorem dX0_draw_16 : decode cX0_draw 16 = .ok (.ifCond .gt 7, 3) := by decide +kernel
theorem dX0_draw_19 : decode cX0_draw 19 = .ok (.iconst 0, 1) := by decide +kernel
theorem dX0_draw_20 : decode cX0_draw 20 = .ok (.goto 12, 3) := by decide +kernel
theorem dX0_draw_23 : decode cX0_draw 23 = .ok (.aload_n 0, 1) := by decide +kernel
theorem dX0_draw_24 : decode cX0_draw 24 = .ok (.getfield 43, 3) := by decide +kernel
theorem dX0_draw_27 : decode cX0_draw 27 = .ok (.bipush 16, 2) := by decide +kernel
theorem dX0_draw_29 : decode cX0_draw 29 = .ok (.iushr, 1) := by decide +kernel
theorem dX0_draw_30 : decode cX0_draw 30 = .ok (.iload_n 1, 1) := by decide +kernel
theorem dX0_draw_31 : decode cX0_draw 31 = .ok (.irem, 1) := by decide +kernel
theorem dX0_draw_32 : decode cX0_draw 32 = .ok (.ireturn, 1) := by decide +kernel
def F0_draw (h : Nat) (p1 : Int32) (st : fkS) : Option (Int32 × fkS) :=
 fk_let (gI st 10 h) <| fun x1 =>
 fk_let (sI st 10 h ((x1 * (1103515245 : Int32)) + (12345 : Int32))) <| fun st2 =>
 if 0 < p1 then
 (fk_let (gI st2 10 h) <| fun x3 =>
 fk_chk (fk_nz p1) <|
 some ((fk_rem (fk_ushr x3 (16 : Int32)) p1), st2))
 else
 (some ((0 : Int32), st2))
set_option maxHeartbeats 1000000 in
set_option maxRecDepth 20000 in
theorem C0_draw (h : Nat) (hh : kdC h = 0) (p1 : Int32) (st : fkS) {g : fkG} (l : Launch) (o : Int32 × fkS) (hF : F0_draw h p1 st = some o) : fk_C wC yX0_draw cX0_draw 2 (some (.int)) 0 0 l g [fk_r g h, .int p1] st (fk_eI o.1) o.2 := by
  refine fk_begin rfl (Nat.le_of_ble_eq_true rfl) (fun k hk => ?_) o hF
  have hk : fk_ok wC g k RX0 cX0_draw 2 (some (.int)) 0 0 := hk
  show fk_J wC g fk_eI k 0 [(0, fk_r g h), (1, .int p1)] [] st (F0_draw h p1 st)
  unfold F0_draw
  refine j_aload_n (pc := 0) hk 0 rfl ⟨_, rfl⟩ dX0_draw_0 ?_
  refine j_aload_n (pc := 1) hk 0 rfl ⟨_, rfl⟩ dX0_draw_1 ?_
  refine f_0_43 (pc := 2) hk (hh) dX0_draw_2 (fun x1 => ?_)
  refine j_ldc (pc := 5) hk dX0_draw_5 wk_0_64 ?_
  refine j_imul (pc := 7) hk dX0_draw_7 ?_
  refine j_sipush (pc := 8) hk dX0_draw_8 (v := 12345) (by decide) ?_
  refine j_iadd (pc := 11) hk dX0_draw_11 ?_
  refine p_0_43 (pc := 12) hk (hh) dX0_draw_12 (fun st2 => ?_)
  refine j_iload_n (pc := 15) hk 1 rfl dX0_draw_15 ?_
  refine j_if_gt (tgt := 23) (pc := 16) hk (by decide) dX0_draw_16 (fun _ => ?_) (fun _ => ?_)
  · refine j_aload_n (pc := 23) hk 0 rfl ⟨_, rfl⟩ dX0_draw_23 ?_
    refine f_0_43 (pc := 24) hk (hh) dX0_draw_24 (fun x3 => ?_)
    refine j_bipush (pc := 27) hk dX0_draw_27 (v := 16) (by decide) ?_
    refine j_iushr (pc := 29) hk dX0_draw_29 ?_
    refine j_iload_n (pc := 30) hk 1 rfl dX0_draw_30 ?_
    refine j_chk (pc := 31) hk (fun hz4 => ?_)
    refine j_irem (pc := 31) hk hz4 dX0_draw_31 ?_
    exact j_iret (pc := 32) hk dX0_draw_32
  · refine j_iconst (pc := 19) hk dX0_draw_19 (v := 0) (by decide) ?_
    refine j_goto (tgt := 32) (pc := 20) hk (by decide) dX0_draw_20 ?_
    exact j_iret (pc := 32) hk dX0_draw_32
theorem dX1_forget_0 : decode cX1_forget 0 = .ok (.aload_n 0, 1) := by decide +kernel
theorem dX1_forget_1 : decode cX1_forget 1 = .ok (.iconst 0, 1) := by decide +kernel
theorem dX1_forget_2 : decode cX1_forget 2 = .ok (.putfield 15, 3) := by decide +kernel
theorem dX1_forget_5 : decode cX1_forget 5 = .ok (.return_, 1) := by decide +kernel
def F1_forget (st : fkS) : Option (Unit × fkS) :=
 fk_let (sI st 21 36 (0 : Int32)) <| fun st1 =>
 some ((), st1)
set_option maxHeartbeats 1000000 in
set_option maxRecDepth 20000 in
theorem C1_forget (st : fkS) {g : fkG} (l : Launch) (o : Unit × fkS) (hF : F1_forget st = some o) : fk_C wC yX1_forget cX1_forget 1 none 0 0 l g [fk_r g 36] st (fk_eU o.1) o.2 := by
  refine fk_begin rfl (Nat.le_of_ble_eq_true rfl) (fun k hk => ?_) o hF
  have hk : fk_ok wC g k RX1 cX1_forget 1 none 0 0 := hk
  show fk_J wC g fk_eU k 0 [(0, fk_r g 36)] [] st (F1_forget st)
  unfold F1_forget
  refine j_aload_n (pc := 0) hk 0 rfl ⟨_, rfl⟩ dX1_forget_0 ?_
  refine j_iconst (pc := 1) hk dX1_forget_1 (v := 0) (by decide) ?_
  refine p_1_15 (pc := 2) hk (rfl) dX1_forget_2 (fun st1 => ?_)
  exact j_vret (pc := 5) hk dX1_forget_5
theorem dX1_take_0 : decode cX1_take 0 = .ok (.aload_n 1, 1) := by decide +kernel
theorem dX1_take_1 : decode cX1_take 1 = .ok (.iload_n 2, 1) := by decide +kernel
theorem dX1_take_2 : decode cX1_take 2 = .ok (.invokevirtual 28, 3) := by decide +kernel
theorem dX1_take_5 : decode cX1_take 5 = .ok (.ifCond .eq 4, 3) := by decide +kernel
theorem dX1_take_8 : decode cX1_take 8 = .ok (.return_, 1) := by decide +kernel
theorem dX1_take_9 : decode cX1_take 9 = .ok (.aload_n 0, 1) := by decide +kernel
theorem dX1_take_10 : decode cX1_take 10 = .ok (.aload_n 1, 1) := by decide +kernel
theorem dX1_take_11 : decode cX1_take 11 = .ok (.getfield 34, 3) := by decide +kernel
theorem dX1_take_14 : decode cX1_take 14 = .ok (.iload_n 2, 1) := by decide +kernel
theorem dX1_take_15 : decode cX1_take 15 = .ok (.iaload, 1) := by decide +kernel
theorem dX1_take_16 : decode cX1_take 16 = .ok (.putfield 19, 3) := by decide +kernel
theorem dX1_take_19 : decode cX1_take 19 = .ok (.aload_n 0, 1) := by decide +kernel
theorem dX1_take_20 : decode cX1_take 20 = .ok (.iload_n 2, 1) := by decide +kernel
theorem dX1_take_21 : decode cX1_take 21 = .ok (.putfield 22, 3) := by decide +kernel
theorem dX1_take_24 : decode cX1_take 24 = .ok (.aload_n 0, 1) := by decide +kernel
theorem dX1_take_25 : decode cX1_take 25 = .ok (.aload_n 1, 1) := by decide +kernel
theorem dX1_take_26 : decode cX1_take 26 = .ok (.getfield 37, 3) := by decide +kernel
theorem dX1_take_29 : decode cX1_take 29 = .ok (.iload_n 2, 1) := by decide +kernel
theorem dX1_take_30 : decode cX1_take 30 = .ok (.iaload, 1) := by decide +kernel
theorem dX1_take_31 : decode cX1_take 31 = .ok (.putfield 25, 3) := by decide +kernel
theorem dX1_take_34 : decode cX1_take 34 = .ok (.return_, 1) := by decide +kernel
def F1_take (o1 : Nat) (p2 : Int32) (st : fkS) : Option (Unit × fkS) :=
 fk_bind (F0_lacks o1 p2 st) <| fun x1 st2 =>
 if x1 = 0 then
 (fk_chk (fk_in p2 7) <| fk_let (gA st2 (o1 + 3) p2.toNatClampNeg) <| fun x3 =>
 fk_let (sI st2 22 36 x3) <| fun st4 =>
 fk_let (sI st4 23 36 p2) <| fun st5 =>
 fk_chk (fk_in p2 7) <| fk_let (gA st5 (o1 + 6) p2.toNatClampNeg) <| fun x6 =>
 fk_let (sI st5 24 36 x6) <| fun st7 =>
 some ((), st7))
 else
 (some ((), st2))
set_option maxHeartbeats 1000000 in
set_option maxRecDepth 20000 in
theorem C1_take (o1 : Nat) (ho1 : kdC o1 = 0) (p2 : Int32) (st : fkS) {g : fkG} (l : Launch) (o : Unit × fkS) (hF : F1_take o1 p2 st = some o) : fk_C wC yX1_take cX1_take 3 none 1 21 l g [fk_r g 36, fk_r g o1, .int p2] st (fk_eU o.1) o.2 := by
  refine fk_begin rfl (Nat.le_of_ble_eq_true rfl) (fun k hk => ?_) o hF
  have hk : fk_ok wC g k RX1 cX1_take 3 none 1 21 := hk
  show fk_J wC g fk_eU k 0 [(0, fk_r g 36), (1, fk_r g o1), (2, .int p2)] [] st (F1_take o1 p2 st)
  unfold F1_take
  refine j_aload_n (pc := 0) hk 1 rfl ⟨_, rfl⟩ dX1_take_0 ?_
  refine j_iload_n (pc := 1) hk 2 rfl dX1_take_1 ?_
  refine j_callVNi (pc := 2) hk [.int p2] [] rfl (fun l o hq9 => C0_lacks o1 (ho1) p2 st l o hq9) (rcv_0 (ho1)) yv_X0_lacks ml_1_28 rfl (Nat.le_of_ble_eq_true rfl) (Nat.le_of_ble_eq_true rfl) (Nat.le_of_ble_eq_true rfl) dX1_take_2 (fun x1 st2 => ?_)
  refine j_if_eq (tgt := 9) (pc := 5) hk (by decide) dX1_take_5 (fun _ => ?_) (fun _ => ?_)
  · refine j_aload_n (pc := 9) hk 0 rfl ⟨_, rfl⟩ dX1_take_9 ?_
    refine j_aload_n (pc := 10) hk 1 rfl ⟨_, rfl⟩ dX1_take_10 ?_
    refine f_1_34 (pc := 11) hk (ho1) dX1_take_11 ?_
    refine j_iload_n (pc := 14) hk 2 rfl dX1_take_14 ?_
    refine a_iload (pc := 15) hk (isI_0_1 (ho1)) dX1_take_15 (fun x3 => ?_)
    refine p_1_19 (pc := 16) hk (rfl) dX1_take_16 (fun st4 => ?_)
    refine j_aload_n (pc := 19) hk 0 rfl ⟨_, rfl⟩ dX1_take_19 ?_
    refine j_iload_n (pc := 20) hk 2 rfl dX1_take_20 ?_
    refine p_1_22 (pc := 21) hk (rfl) dX1_take_21 (fun st5 => ?_)
    refine j_aload_n (pc := 24) hk 0 rfl ⟨_, rfl⟩ dX1_take_24 ?_
    refine j_aload_n (pc := 25) hk 1 rfl ⟨_, rfl⟩ dX1_take_25 ?_
    refine f_1_37 (pc := 26) hk (ho1) dX1_take_26 ?_
    refine j_iload_n (pc := 29) hk 2 rfl dX1_take_29 ?_
    refine a_iload (pc := 30) hk (isI_0_2 (ho1)) dX1_take_30 (fun x6 => ?_)
    refine p_1_25 (pc := 31) hk (rfl) dX1_take_31 (fun st7 => ?_)
    exact j_vret (pc := 34) hk dX1_take_34
  · exact j_vret (pc := 8) hk dX1_take_8
theorem dX1_traced_0 : decode cX1_traced 0 = .ok (.aload_n 0, 1) := by decide +kernel
theorem dX1_traced_1 : decode cX1_traced 1 = .ok (.getfield 15, 3) := by decide +kernel
theorem dX1_traced_4 : decode cX1_traced 4 = .ok (.aload_n 0, 1) := by decide +kernel
theorem dX1_traced_5 : decode cX1_traced 5 = .ok (.getfield 9, 3) := by decide +kernel
theorem dX1_traced_8 : decode cX1_traced 8 = .ok (.arraylength, 1) := by decide +kernel
theorem dX1_traced_9 : decode cX1_traced 9 = .ok (.invokestatic 40, 3) := by decide +kernel
theorem dX1_traced_12 : decode cX1_traced 12 = .ok (.ireturn, 1) := by decide +kernel
def F1_traced (st : fkS) : Option (Int32 × fkS) :=
 fk_let (gI st 21 36) <| fun x1 =>
 some ((fk_min x1 (20 : Int32)), st)
set_option maxHeartbeats 1000000 in
set_option maxRecDepth 20000 in
theorem C1_traced (st : fkS) {g : fkG} (l : Launch) (o : Int32 × fkS) (hF : F1_traced st = some o) : fk_C wC yX1_traced cX1_traced 1 (some (.int)) 1 100 l g [fk_r g 36] st (fk_eI o.1) o.2 := by
  refine fk_begin rfl (Nat.le_of_ble_eq_true rfl) (fun k hk => ?_) o hF
  have hk : fk_ok wC g k RX1 cX1_traced 1 (some (.int)) 1 100 := hk
  show fk_J wC g fk_eI k 0 [(0, fk_r g 36)] [] st (F1_traced st)
  unfold F1_traced
  refine j_aload_n (pc := 0) hk 0 rfl ⟨_, rfl⟩ dX1_traced_0 ?_
  refine f_1_15 (pc := 1) hk (rfl) dX1_traced_1 (fun x1 => ?_)
  refine j_aload_n (pc := 4) hk 0 rfl ⟨_, rfl⟩ dX1_traced_4 ?_
  refine f_1_9 (pc := 5) hk (rfl) dX1_traced_5 ?_
  refine a_ilen (pc := 8) hk (isI_1_0 (rfl)) (v := 20) (by decide) dX1_traced_8 ?_
  refine j_mmin (pc := 9) hk ml_1_40 wd_min1 wd_math wd_min2 (Nat.le_of_ble_eq_true rfl) (Nat.le_of_ble_eq_true rfl) dX1_traced_9 ?_
  exact j_iret (pc := 12) hk dX1_traced_12
theorem dX1_begin_0 : decode cX1_begin 0 = .ok (.aload_n 0, 1) := by decide +kernel
theorem dX1_begin_1 : decode cX1_begin 1 = .ok (.getfield 15, 3) := by decide +kernel
theorem dX1_begin_4 : decode cX1_begin 4 = .ok (.ifCond .lt 25, 3) := by decide +kernel
theorem dX1_begin_7 : decode cX1_begin 7 = .ok (.aload_n 0, 1) := by decide +kernel
theorem dX1_begin_8 : decode cX1_begin 8 = .ok (.getfield 15, 3) := by decide +kernel
theorem dX1_begin_11 : decode cX1_begin 11 = .ok (.aload_n 0, 1) := by decide +kernel
theorem dX1_begin_12 : decode cX1_begin 12 = .ok (.getfield 9, 3) := by decide +kernel
theorem dX1_begin_15 : decode cX1_begin 15 = .ok (.arraylength, 1) := by decide +kernel
theorem dX1_begin_16 : decode cX1_begin 16 = .ok (.if_icmp .ge 13, 3) := by decide +kernel
theorem dX1_begin_19 : decode cX1_begin 19 = .ok (.aload_n 0, 1) := by decide +kernel
theorem dX1_begin_20 : decode cX1_begin 20 = .ok (.getfield 9, 3) := by decide +kernel
theorem dX1_begin_23 : decode cX1_begin 23 = .ok (.aload_n 0, 1) := by decide +kernel
theorem dX1_begin_24 : decode cX1_begin 24 = .ok (.getfield 15, 3) := by decide +kernel
theorem dX1_begin_27 : decode cX1_begin 27 = .ok (.iload_n 1, 1) := by decide +kernel
theorem dX1_begin_28 : decode cX1_begin 28 = .ok (.iastore, 1) := by decide +kernel
theorem dX1_begin_29 : decode cX1_begin 29 = .ok (.aload_n 0, 1) := by decide +kernel
theorem dX1_begin_30 : decode cX1_begin 30 = .ok (.dup, 1) := by decide +kernel
theorem dX1_begin_31 : decode cX1_begin 31 = .ok (.getfield 15, 3) := by decide +kernel
theorem dX1_begin_34 : decode cX1_begin 34 = .ok (.iconst 1, 1) := by decide +kernel
theorem dX1_begin_35 : decode cX1_begin 35 = .ok (.iadd, 1) := by decide +kernel
theorem dX1_begin_36 : decode cX1_begin 36 = .ok (.putfield 15, 3) := by decide +kernel
theorem dX1_begin_39 : decode cX1_begin 39 = .ok (.return_, 1) := by decide +kernel
def B1_begin_29 (st : fkS) : Option (Unit × fkS) :=
 fk_let (gI st 21 36) <| fun x5 =>
 fk_let (sI st 21 36 (x5 + (1 : Int32))) <| fun st6 =>
 some ((), st6)
set_option maxHeartbeats 1000000 in
set_option maxRecDepth 20000 in
theorem T1_begin_29 {g : fkG} {k : fkK} (hk : fk_ok wC g k RX1 cX1_begin 2 none 0 0) : ∀ (st : fkS), fk_J wC g fk_eU k 29 [(0, fk_r g 36)] [] st (B1_begin_29 st) := by
  intro st
  unfold B1_begin_29
  refine j_aload_n (pc := 29) hk 0 rfl ⟨_, rfl⟩ dX1_begin_29 ?_
  refine j_dup (pc := 30) hk rfl dX1_begin_30 ?_
  refine f_1_15 (pc := 31) hk (rfl) dX1_begin_31 (fun x5 => ?_)
  refine j_iconst (pc := 34) hk dX1_begin_34 (v := 1) (by decide) ?_
  refine j_iadd (pc := 35) hk dX1_begin_35 ?_
  refine p_1_15 (pc := 36) hk (rfl) dX1_begin_36 (fun st6 => ?_)
  exact j_vret (pc := 39) hk dX1_begin_39
def F1_begin (p1 : Int32) (st : fkS) : Option (Unit × fkS) :=
 fk_let (gI st 21 36) <| fun x1 =>
 if x1 < 0 then
 (B1_begin_29 st)
 else
 (fk_let (gI st 21 36) <| fun x2 =>
 if (20 : Int32) ≤ x2 then
 (B1_begin_29 st)
 else
 (fk_let (gI st 21 36) <| fun x3 =>
 fk_chk (fk_in x3 20) <| fk_let (sA st 37 x3.toNatClampNeg p1) <| fun st4 =>
 B1_begin_29 st4))
set_option maxHeartbeats 1000000 in
set_option maxRecDepth 20000 in
theorem C1_begin (p1 : Int32) (st : fkS) {g : fkG} (l : Launch) (o : Unit × fkS) (hF : F1_begin p1 st = some o) : fk_C wC yX1_begin cX1_begin 2 none 0 0 l g [fk_r g 36, .int p1] st (fk_eU o.1) o.2 := by
  refine fk_begin rfl (Nat.le_of_ble_eq_true rfl) (fun k hk => ?_) o hF
  have hk : fk_ok wC g k RX1 cX1_begin 2 none 0 0 := hk
  show fk_J wC g fk_eU k 0 [(0, fk_r g 36), (1, .int p1)] [] st (F1_begin p1 st)
  unfold F1_begin
  refine j_aload_n (pc := 0) hk 0 rfl ⟨_, rfl⟩ dX1_begin_0 ?_
  refine f_1_15 (pc := 1) hk (rfl) dX1_begin_1 (fun x1 => ?_)
  refine j_if_lt (tgt := 29) (pc := 4) hk (by decide) dX1_begin_4 (fun _ => ?_) (fun _ => ?_)
  · exact j_sub hk [0] rfl (T1_begin_29 hk st)
  · refine j_aload_n (pc := 7) hk 0 rfl ⟨_, rfl⟩ dX1_begin_7 ?_
    refine f_1_15 (pc := 8) hk (rfl) dX1_begin_8 (fun x2 => ?_)
    refine j_aload_n (pc := 11) hk 0 rfl ⟨_, rfl⟩ dX1_begin_11 ?_
    refine f_1_9 (pc := 12) hk (rfl) dX1_begin_12 ?_
    refine a_ilen (pc := 15) hk (isI_1_0 (rfl)) (v := 20) (by decide) dX1_begin_15 ?_
    refine j_icmp_ge (tgt := 29) (pc := 16) hk (by decide) dX1_begin_16 (fun _ => ?_) (fun _ => ?_)
    · exact j_sub hk [0] rfl (T1_begin_29 hk st)
    · refine j_aload_n (pc := 19) hk 0 rfl ⟨_, rfl⟩ dX1_begin_19 ?_
      refine f_1_9 (pc := 20) hk (rfl) dX1_begin_20 ?_
      refine j_aload_n (pc := 23) hk 0 rfl ⟨_, rfl⟩ dX1_begin_23 ?_
      refine f_1_15 (pc := 24) hk (rfl) dX1_begin_24 (fun x3 => ?_)
      refine j_iload_n (pc := 27) hk 1 rfl dX1_begin_27 ?_
      refine a_istore (pc := 28) hk (isI_1_0 (rfl)) dX1_begin_28 (fun st4 => ?_)
      exact j_sub hk [0] rfl (T1_begin_29 hk st4)
theorem dX1_bodyFrom_0 : decode cX1_bodyFrom 0 = .ok (.iload_n 1, 1) := by decide +kernel
theorem dX1_bodyFrom_1 : decode cX1_bodyFrom 1 = .ok (.istore_n 2, 1) := by decide +kernel
theorem dX1_bodyFrom_2 : decode cX1_bodyFrom 2 = .ok (.iconst 0, 1) := by decide +kernel
theorem dX1_bodyFrom_3 : decode cX1_bodyFrom 3 = .ok (.istore_n 3, 1) := by decide +kernel
theorem dX1_bodyFrom_4 : decode cX1_bodyFrom 4 = .ok (.iload_n 3, 1) := by decide +kernel
theorem dX1_bodyFrom_5 : decode cX1_bodyFrom 5 = .ok (.bipush 7, 2) := by decide +kernel
theorem dX1_bodyFrom_7 : decode cX1_bodyFrom 7 = .ok (.if_icmp .ge 63, 3) := by decide +kernel
theorem dX1_bodyFrom_10 : decode cX1_bodyFrom 10 = .ok (.iload_n 2, 1) := by decide +kernel
theorem dX1_bodyFrom_11 : decode cX1_bodyFrom 11 = .ok (.ifCond .lt 59, 3) := by decide +kernel
theorem dX1_bodyFrom_14 : decode cX1_bodyFrom 14 = .ok (.iload_n 2, 1) := by decide +kernel
theorem dX1_bodyFrom_15 : decode cX1_bodyFrom 15 = .ok (.bipush 7, 2) := by decide +kernel
theorem dX1_bodyFrom_17 : decode cX1_bodyFrom 17 = .ok (.if_icmp .ge 53, 3) := by decide +kernel
theorem dX1_bodyFrom_20 : decode cX1_bodyFrom 20 = .ok (.iload_n 0, 1) := by decide +kernel
theorem dX1_bodyFrom_21 : decode cX1_bodyFrom 21 = .ok (.bipush 7, 2) := by decide +kernel
theorem dX1_bodyFrom_23 : decode cX1_bodyFrom 23 = .ok (.imul, 1) := by decide +kernel
theorem dX1_bodyFrom_24 : decode cX1_bodyFrom 24 = .ok (.iload_n 2, 1) := by decide +kernel
theorem dX1_bodyFrom_25 : decode cX1_bodyFrom 25 = .ok (.iadd, 1) := by decide +kernel
theorem dX1_bodyFrom_26 : decode cX1_bodyFrom 26 = .ok (.istore 4, 2) := by decide +kernel
theorem dX1_bodyFrom_28 : decode cX1_bodyFrom 28 = .ok (.iload 4, 2) := by decide +kernel
theorem dX1_bodyFrom_30 : decode cX1_bodyFrom 30 = .ok (.ifCond .lt 28, 3) := by decide +kernel
theorem dX1_bodyFrom_33 : decode cX1_bodyFrom 33 = .ok (.iload 4, 2) := by decide +kernel
theorem dX1_bodyFrom_35 : decode cX1_bodyFrom 35 = .ok (.getstatic 46, 3) := by decide +kernel
theorem dX1_bodyFrom_38 : decode cX1_bodyFrom 38 = .ok (.arraylength, 1) := by decide +kernel
theorem dX1_bodyFrom_39 : decode cX1_bodyFrom 39 = .ok (.if_icmp .ge 19, 3) := by decide +kernel
theorem dX1_bodyFrom_42 : decode cX1_bodyFrom 42 = .ok (.getstatic 46, 3) := by decide +kernel
theorem dX1_bodyFrom_45 : decode cX1_bodyFrom 45 = .ok (.iload 4, 2) := by decide +kernel
theorem dX1_bodyFrom_47 : decode cX1_bodyFrom 47 = .ok (.iaload, 1) := by decide +kernel
theorem dX1_bodyFrom_48 : decode cX1_bodyFrom 48 = .ok (.ifCond .eq 10, 3) := by decide +kernel
theorem dX1_bodyFrom_51 : decode cX1_bodyFrom 51 = .ok (.getstatic 46, 3) := by decide +kernel
theorem dX1_bodyFrom_54 : decode cX1_bodyFrom 54 = .ok (.iload 4, 2) := by decide +kernel
theorem dX1_bodyFrom_56 : decode cX1_bodyFrom 56 = .ok (.iaload, 1) := by decide +kernel
theorem dX1_bodyFrom_57 : decode cX1_bodyFrom 57 = .ok (.ireturn, 1) := by decide +kernel
theorem dX1_bodyFrom_58 : decode cX1_bodyFrom 58 = .ok (.getstatic 49, 3) := by decide +kernel
theorem dX1_bodyFrom_61 : decode cX1_bodyFrom 61 = .ok (.iload_n 2, 1) := by decide +kernel
theorem dX1_bodyFrom_62 : decode cX1_bodyFrom 62 = .ok (.iaload, 1) := by decide +kernel
theorem dX1_bodyFrom_63 : decode cX1_bodyFrom 63 = .ok (.istore_n 2, 1) := by decide +kernel
theorem dX1_bodyFrom_64 : decode cX1_bodyFrom 64 = .ok (.iinc 3 1, 3) := by decide +kernel
theorem dX1_bodyFrom_67 : decode cX1_bodyFrom 67 = .ok (.goto (-63), 3) := by decide +kernel
theorem dX1_bodyFrom_70 : decode cX1_bodyFrom 70 = .ok (.iconst 0, 1) := by decide +kernel
theorem dX1_bodyFrom_71 : decode cX1_bodyFrom 71 = .ok (.ireturn, 1) := by decide +kernel
def B1_bodyFrom_58 (k4 : Int32 → Int32 → Int32 → fkS → Option (Int32 × fkS)) (v0 : Int32) (v2 : Int32) (v3 : Int32) (st : fkS) : Option (Int32 × fkS) :=
 fk_chk (fk_in v2 7) <| fk_let (fk_ka v2.toNatClampNeg) <| fun x3 =>
 k4 v0 x3 (v3 + (1 : Int32)) st
set_option maxHeartbeats 1000000 in
set_option maxRecDepth 20000 in
theorem T1_bodyFrom_58 {g : fkG} {k : fkK} (hk : fk_ok wC g k RX1 cX1_bodyFrom 5 (some (.int)) 0 0) (k4 : Int32 → Int32 → Int32 → fkS → Option (Int32 × fkS)) (H4 : ∀ (v0 : Int32) (v2 : Int32) (v3 : Int32) (st : fkS), fk_J wC g fk_eI k 4 [(0, .int v0), (2, .int v2), (3, .int v3)] [] st (k4 v0 v2 v3 st)) : ∀ (v0 : Int32) (v2 : Int32) (v3 : Int32) (st : fkS), fk_J wC g fk_eI k 58 [(0, .int v0), (2, .int v2), (3, .int v3)] [] st (B1_bodyFrom_58 k4 v0 v2 v3 st) := by
  intro v0 v2 v3 st
  unfold B1_bodyFrom_58
  refine a_kagetN (pc := 58) hk dX1_bodyFrom_58 ?_
  refine j_iload_n (pc := 61) hk 1 rfl dX1_bodyFrom_61 ?_
  refine a_kaload (pc := 62) hk dX1_bodyFrom_62 (fun x3 => ?_)
  refine j_istore_n (lv' := ((2, .int x3) :: [(0, .int v0), (3, .int v3)])) (pc := 63) hk rfl (by decide) rfl dX1_bodyFrom_63 ?_
  refine j_sub hk (lv' := [(0, .int v0), (2, .int x3), (3, .int v3)]) [1, 0, 2] rfl ?_
  refine j_iinc (dd := (1 : Int32)) (lv' := ((3, .int (v3 + (1 : Int32))) :: [(0, .int v0), (2, .int x3)])) (pc := 64) hk 2 rfl (by decide) (by decide) rfl dX1_bodyFrom_64 ?_
  refine j_sub hk (lv' := [(0, .int v0), (2, .int x3), (3, .int (v3 + (1 : Int32)))]) [1, 2, 0] rfl ?_
  refine j_goto (tgt := 4) (pc := 67) hk (by decide) dX1_bodyFrom_67 ?_
  exact j_sub hk [0, 1, 2] rfl (H4 v0 x3 (v3 + (1 : Int32)) st)
def B1_bodyFrom_4 (k4 : Int32 → Int32 → Int32 → fkS → Option (Int32 × fkS)) (v0 : Int32) (v2 : Int32) (v3 : Int32) (st : fkS) : Option (Int32 × fkS) :=
 if (7 : Int32) ≤ v3 then
 (some ((0 : Int32), st))
 else
 (if v2 < 0 then
 (some ((0 : Int32), st))
 else
 (if (7 : Int32) ≤ v2 then
 (some ((0 : Int32), st))
 else
 (if ((v0 * (7 : Int32)) + v2) < 0 then
 (B1_bodyFrom_58 k4 v0 v2 v3 st)
 else
 (if (21 : Int32) ≤ ((v0 * (7 : Int32)) + v2) then
 (B1_bodyFrom_58 k4 v0 v2 v3 st)
 else
 (fk_chk (fk_in ((v0 * (7 : Int32)) + v2) 21) <| fk_let (fk_bo ((v0 * (7 : Int32)) + v2).toNatClampNeg) <| fun x1 =>
 if x1 = 0 then
 (B1_bodyFrom_58 k4 v0 v2 v3 st)
 else
 (fk_chk (fk_in ((v0 * (7 : Int32)) + v2) 21) <| fk_let (fk_bo ((v0 * (7 : Int32)) + v2).toNatClampNeg) <| fun x2 =>
 some (x2, st)))))))
set_option maxHeartbeats 1000000 in
set_option maxRecDepth 20000 in
theorem T1_bodyFrom_4 {g : fkG} {k : fkK} (hk : fk_ok wC g k RX1 cX1_bodyFrom 5 (some (.int)) 0 0) (k4 : Int32 → Int32 → Int32 → fkS → Option (Int32 × fkS)) (H4 : ∀ (v0 : Int32) (v2 : Int32) (v3 : Int32) (st : fkS), fk_J wC g fk_eI k 4 [(0, .int v0), (2, .int v2), (3, .int v3)] [] st (k4 v0 v2 v3 st)) : ∀ (v0 : Int32) (v2 : Int32) (v3 : Int32) (st : fkS), fk_J wC g fk_eI k 4 [(0, .int v0), (2, .int v2), (3, .int v3)] [] st (B1_bodyFrom_4 k4 v0 v2 v3 st) := by
  intro v0 v2 v3 st
  unfold B1_bodyFrom_4
  refine j_iload_n (pc := 4) hk 2 rfl dX1_bodyFrom_4 ?_
  refine j_bipush (pc := 5) hk dX1_bodyFrom_5 (v := 7) (by decide) ?_
  refine j_icmp_ge (tgt := 70) (pc := 7) hk (by decide) dX1_bodyFrom_7 (fun _ => ?_) (fun _ => ?_)
  · refine j_iconst (pc := 70) hk dX1_bodyFrom_70 (v := 0) (by decide) ?_
    exact j_iret (pc := 71) hk dX1_bodyFrom_71
  · refine j_iload_n (pc := 10) hk 1 rfl dX1_bodyFrom_10 ?_
    refine j_if_lt (tgt := 70) (pc := 11) hk (by decide) dX1_bodyFrom_11 (fun _ => ?_) (fun _ => ?_)
    · refine j_iconst (pc := 70) hk dX1_bodyFrom_70 (v := 0) (by decide) ?_
      exact j_iret (pc := 71) hk dX1_bodyFrom_71
    · refine j_iload_n (pc := 14) hk 1 rfl dX1_bodyFrom_14 ?_
      refine j_bipush (pc := 15) hk dX1_bodyFrom_15 (v := 7) (by decide) ?_
      refine j_icmp_ge (tgt := 70) (pc := 17) hk (by decide) dX1_bodyFrom_17 (fun _ => ?_) (fun _ => ?_)
      · refine j_iconst (pc := 70) hk dX1_bodyFrom_70 (v := 0) (by decide) ?_
        exact j_iret (pc := 71) hk dX1_bodyFrom_71
      · refine j_iload_n (pc := 20) hk 0 rfl dX1_bodyFrom_20 ?_
        refine j_bipush (pc := 21) hk dX1_bodyFrom_21 (v := 7) (by decide) ?_
        refine j_imul (pc := 23) hk dX1_bodyFrom_23 ?_
        refine j_iload_n (pc := 24) hk 1 rfl dX1_bodyFrom_24 ?_
        refine j_iadd (pc := 25) hk dX1_bodyFrom_25 ?_
        refine j_istore (lv' := ((4, .int ((v0 * (7 : Int32)) + v2)) :: [(0, .int v0), (2, .int v2), (3, .int v3)])) (pc := 26) hk (by decide) rfl dX1_bodyFrom_26 ?_
        refine j_sub hk (lv' := [(0, .int v0), (2, .int v2), (3, .int v3), (4, .int ((v0 * (7 : Int32)) + v2))]) [1, 2, 3, 0] rfl ?_
        refine j_iload (pc := 28) hk 3 rfl dX1_bodyFrom_28 ?_
        refine j_if_lt (tgt := 58) (pc := 30) hk (by decide) dX1_bodyFrom_30 (fun _ => ?_) (fun _ => ?_)
        · exact j_sub hk [0, 1, 2] rfl (T1_bodyFrom_58 hk k4 H4 v0 v2 v3 st)
        · refine j_iload (pc := 33) hk 3 rfl dX1_bodyFrom_33 ?_
          refine a_boget (pc := 35) hk dX1_bodyFrom_35 ?_
          refine a_bolen (pc := 38) hk dX1_bodyFrom_38 ?_
          refine j_icmp_ge (tgt := 58) (pc := 39) hk (by decide) dX1_bodyFrom_39 (fun _ => ?_) (fun _ => ?_)
          · exact j_sub hk [0, 1, 2] rfl (T1_bodyFrom_58 hk k4 H4 v0 v2 v3 st)
          · refine a_boget (pc := 42) hk dX1_bodyFrom_42 ?_
            refine j_iload (pc := 45) hk 3 rfl dX1_bodyFrom_45 ?_
            refine a_boload (pc := 47) hk dX1_bodyFrom_47 (fun x1 => ?_)
            refine j_if_eq (tgt := 58) (pc := 48) hk (by decide) dX1_bodyFrom_48 (fun _ => ?_) (fun _ => ?_)
            · exact j_sub hk [0, 1, 2] rfl (T1_bodyFrom_58 hk k4 H4 v0 v2 v3 st)
            · refine a_boget (pc := 51) hk dX1_bodyFrom_51 ?_
              refine j_iload (pc := 54) hk 3 rfl dX1_bodyFrom_54 ?_
              refine a_boload (pc := 56) hk dX1_bodyFrom_56 (fun x2 => ?_)
              exact j_iret (pc := 57) hk dX1_bodyFrom_57
set_option maxHeartbeats 1000000 in
set_option maxRecDepth 20000 in
theorem L1_bodyFrom_4 {g : fkG} {k : fkK} (hk : fk_ok wC g k RX1 cX1_bodyFrom 5 (some (.int)) 0 0) (fu : Nat) : ∀ (v0 : Int32) (v2 : Int32) (v3 : Int32) (st : fkS), fk_J wC g fk_eI k 4 [(0, .int v0), (2, .int v2), (3, .int v3)] [] st (fk_lp3 (B1_bodyFrom_4) fu v0 v2 v3 st) := by
  induction fu with
  | zero =>
    intro v0 v2 v3 st
    exact j_none hk
  | succ fu ih =>
    exact T1_bodyFrom_4 hk _ ih
def F1_bodyFrom (p0 : Int32) (p1 : Int32) (st : fkS) : Option (Int32 × fkS) :=
 fk_lp3 (B1_bodyFrom_4) fk_fuel p0 p1 (0 : Int32) st
set_option maxHeartbeats 1000000 in
set_option maxRecDepth 20000 in
theorem C1_bodyFrom (p0 : Int32) (p1 : Int32) (st : fkS) {g : fkG} (l : Launch) (o : Int32 × fkS) (hF : F1_bodyFrom p0 p1 st = some o) : fk_C wC yX1_bodyFrom cX1_bodyFrom 5 (some (.int)) 0 0 l g [.int p0, .int p1] st (fk_eI o.1) o.2 := by
  refine fk_begin rfl (Nat.le_of_ble_eq_true rfl) (fun k hk => ?_) o hF
  have hk : fk_ok wC g k RX1 cX1_bodyFrom 5 (some (.int)) 0 0 := hk
  show fk_J wC g fk_eI k 0 [(0, .int p0), (1, .int p1)] [] st (F1_bodyFrom p0 p1 st)
  unfold F1_bodyFrom
  refine j_iload_n (pc := 0) hk 1 rfl dX1_bodyFrom_0 ?_
  refine j_istore_n (lv' := ((2, .int p1) :: [(0, .int p0), (1, .int p1)])) (pc := 1) hk rfl (by decide) rfl dX1_bodyFrom_1 ?_
  refine j_sub hk (lv' := [(0, .int p0), (1, .int p1), (2, .int p1)]) [1, 2, 0] rfl ?_
  refine j_iconst (pc := 2) hk dX1_bodyFrom_2 (v := 0) (by decide) ?_
  refine j_istore_n (lv' := ((3, .int (0 : Int32)) :: [(0, .int p0), (1, .int p1), (2, .int p1)])) (pc := 3) hk rfl (by decide) rfl dX1_bodyFrom_3 ?_
  refine j_sub hk (lv' := [(0, .int p0), (1, .int p1), (2, .int p1), (3, .int (0 : Int32))]) [1, 2, 3, 0] rfl ?_
  exact j_sub hk [0, 2, 3] rfl (L1_bodyFrom_4 hk fk_fuel p0 p1 (0 : Int32) st)
theorem dX1_run_0 : decode cX1_run 0 = .ok (.aload_n 0, 1) := by decide +kernel
theorem dX1_run_1 : decode cX1_run 1 = .ok (.ifnull 10, 3) := by decide +kernel
theorem dX1_run_4 : decode cX1_run 4 = .ok (.iload 4, 2) := by decide +kernel
theorem dX1_run_6 : decode cX1_run 6 = .ok (.bipush 8, 2) := by decide +kernel
theorem dX1_run_8 : decode cX1_run 8 = .ok (.if_icmp .le 5, 3) := by decide +kernel
theorem dX1_run_11 : decode cX1_run 11 = .ok (.iconst 0, 1) := by decide +kernel
theorem dX1_run_12 : decode cX1_run 12 = .ok (.ireturn, 1) := by decide +kernel
theorem dX1_run_13 : decode cX1_run 13 = .ok (.iload_n 1, 1) := by decide +kernel
theorem dX1_run_14 : decode cX1_run 14 = .ok (.iload_n 2, 1) := by decide +kernel
theorem dX1_run_15 : decode cX1_run 15 = .ok (.invokestatic 52, 3) := by decide +kernel
theorem dX1_run_18 : decode cX1_run 18 = .ok (.istore 5, 2) := by decide +kernel
theorem dX1_run_20 : decode cX1_run 20 = .ok (.iload 4, 2) := by decide +kernel
theorem dX1_run_22 : decode cX1_run 22 = .ok (.iconst 1, 1) := by decide +kernel
theorem dX1_run_23 : decode cX1_run 23 = .ok (.iadd, 1) := by decide +kernel
theorem dX1_run_24 : decode cX1_run 24 = .ok (.istore 6, 2) := by decide +kernel
theorem dX1_run_26 : decode cX1_run 26 = .ok (.aload_n 0, 1) := by decide +kernel
theorem dX1_run_27 : decode cX1_run 27 = .ok (.iload 5, 2) := by decide +kernel
theorem dX1_run_29 : decode cX1_run 29 = .ok (.invokevirtual 55, 3) := by decide +kernel
theorem dX1_run_32 : decode cX1_run 32 = .ok (.iload 5, 2) := by decide +kernel
theorem dX1_run_34 : decode cX1_run 34 = .ok (.lookupswitch 255 #[(10, 98), (11, 105), (12, 120), (20, 151), (30, 166), (40, 178), (50, 190), (51, 201), (60, 216), (70, 228), (71, 240)], 98) := by decide +kernel
theorem dX1_run_132 : decode cX1_run 132 = .ok (.iload_n 3, 1) := by decide +kernel
theorem dX1_run_133 : decode cX1_run 133 = .ok (.aload_n 0, 1) := by decide +kernel
theorem dX1_run_134 : decode cX1_run 134 = .ok (.getfield 22, 3) := by decide +kernel
theorem dX1_run_137 : decode cX1_run 137 = .ok (.iadd, 1) := by decide +kernel
theorem dX1_run_138 : decode cX1_run 138 = .ok (.ireturn, 1) := by decide +kernel
theorem dX1_run_139 : decode cX1_run 139 = .ok (.aload_n 0, 1) := by decide +kernel
theorem dX1_run_140 : decode cX1_run 140 = .ok (.iconst 0, 1) := by decide +kernel
theorem dX1_run_141 : decode cX1_run 141 = .ok (.aload_n 0, 1) := by decide +kernel
theorem dX1_run_142 : decode cX1_run 142 = .ok (.getfield 19, 3) := by decide +kernel
theorem dX1_run_145 : decode cX1_run 145 = .ok (.iload_n 3, 1) := by decide +kernel
theorem dX1_run_146 : decode cX1_run 146 = .ok (.iload 6, 2) := by decide +kernel
theorem dX1_run_148 : decode cX1_run 148 = .ok (.invokestatic 59, 3) := by decide +kernel
theorem dX1_run_151 : decode cX1_run 151 = .ok (.iconst 2, 1) := by decide +kernel
theorem dX1_run_152 : decode cX1_run 152 = .ok (.imul, 1) := by decide +kernel
theorem dX1_run_153 : decode cX1_run 153 = .ok (.ireturn, 1) := by decide +kernel
theorem dX1_run_154 : decode cX1_run 154 = .ok (.aload_n 0, 1) := by decide +kernel
theorem dX1_run_155 : decode cX1_run 155 = .ok (.iconst 1, 1) := by decide +kernel
theorem dX1_run_156 : decode cX1_run 156 = .ok (.aload_n 0, 1) := by decide +kernel
theorem dX1_run_157 : decode cX1_run 157 = .ok (.getfield 19, 3) := by decide +kernel
theorem dX1_run_160 : decode cX1_run 160 = .ok (.iload_n 3, 1) := by decide +kernel
theorem dX1_run_161 : decode cX1_run 161 = .ok (.iload 6, 2) := by decide +kernel
theorem dX1_run_163 : decode cX1_run 163 = .ok (.invokestatic 59, 3) := by decide +kernel
theorem dX1_run_166 : decode cX1_run 166 = .ok (.aload_n 0, 1) := by decide +kernel
theorem dX1_run_167 : decode cX1_run 167 = .ok (.iconst 0, 1) := by decide +kernel
theorem dX1_run_168 : decode cX1_run 168 = .ok (.aload_n 0, 1) := by decide +kernel
theorem dX1_run_169 : decode cX1_run 169 = .ok (.getfield 19, 3) := by decide +kernel
theorem dX1_run_172 : decode cX1_run 172 = .ok (.iload_n 3, 1) := by decide +kernel
theorem dX1_run_173 : decode cX1_run 173 = .ok (.aload_n 0, 1) := by decide +kernel
theorem dX1_run_174 : decode cX1_run 174 = .ok (.getfield 25, 3) := by decide +kernel
theorem dX1_run_177 : decode cX1_run 177 = .ok (.isub, 1) := by decide +kernel
theorem dX1_run_178 : decode cX1_run 178 = .ok (.iload 6, 2) := by decide +kernel
theorem dX1_run_180 : decode cX1_run 180 = .ok (.invokestatic 59, 3) := by decide +kernel
theorem dX1_run_183 : decode cX1_run 183 = .ok (.ixor, 1) := by decide +kernel
theorem dX1_run_184 : decode cX1_run 184 = .ok (.ireturn, 1) := by decide +kernel
theorem dX1_run_185 : decode cX1_run 185 = .ok (.aload_n 0, 1) := by decide +kernel
theorem dX1_run_186 : decode cX1_run 186 = .ok (.iconst 0, 1) := by decide +kernel
theorem dX1_run_187 : decode cX1_run 187 = .ok (.iconst 0, 1) := by decide +kernel
theorem dX1_run_188 : decode cX1_run 188 = .ok (.iload_n 3, 1) := by decide +kernel
theorem dX1_run_189 : decode cX1_run 189 = .ok (.iload 6, 2) := by decide +kernel
theorem dX1_run_191 : decode cX1_run 191 = .ok (.invokestatic 59, 3) := by decide +kernel
theorem dX1_run_194 : decode cX1_run 194 = .ok (.aload_n 0, 1) := by decide +kernel
theorem dX1_run_195 : decode cX1_run 195 = .ok (.getfield 25, 3) := by decide +kernel
theorem dX1_run_198 : decode cX1_run 198 = .ok (.iadd, 1) := by decide +kernel
theorem dX1_run_199 : decode cX1_run 199 = .ok (.ireturn, 1) := by decide +kernel
theorem dX1_run_200 : decode cX1_run 200 = .ok (.aload_n 0, 1) := by decide +kernel
theorem dX1_run_201 : decode cX1_run 201 = .ok (.iconst 1, 1) := by decide +kernel
theorem dX1_run_202 : decode cX1_run 202 = .ok (.iconst 0, 1) := by decide +kernel
theorem dX1_run_203 : decode cX1_run 203 = .ok (.iload_n 3, 1) := by decide +kernel
theorem dX1_run_204 : decode cX1_run 204 = .ok (.iload 6, 2) := by decide +kernel
theorem dX1_run_206 : decode cX1_run 206 = .ok (.invokestatic 59, 3) := by decide +kernel
theorem dX1_run_209 : decode cX1_run 209 = .ok (.iconst 3, 1) := by decide +kernel
theorem dX1_run_210 : decode cX1_run 210 = .ok (.imul, 1) := by decide +kernel
theorem dX1_run_211 : decode cX1_run 211 = .ok (.ireturn, 1) := by decide +kernel
theorem dX1_run_212 : decode cX1_run 212 = .ok (.aload_n 0, 1) := by decide +kernel
theorem dX1_run_213 : decode cX1_run 213 = .ok (.iconst 0, 1) := by decide +kernel
theorem dX1_run_214 : decode cX1_run 214 = .ok (.iconst 1, 1) := by decide +kernel
theorem dX1_run_215 : decode cX1_run 215 = .ok (.iload_n 3, 1) := by decide +kernel
theorem dX1_run_216 : decode cX1_run 216 = .ok (.iconst 1, 1) := by decide +kernel
theorem dX1_run_217 : decode cX1_run 217 = .ok (.iadd, 1) := by decide +kernel
theorem dX1_run_218 : decode cX1_run 218 = .ok (.iload 6, 2) := by decide +kernel
theorem dX1_run_220 : decode cX1_run 220 = .ok (.invokestatic 59, 3) := by decide +kernel
theorem dX1_run_223 : decode cX1_run 223 = .ok (.ireturn, 1) := by decide +kernel
theorem dX1_run_224 : decode cX1_run 224 = .ok (.aload_n 0, 1) := by decide +kernel
theorem dX1_run_225 : decode cX1_run 225 = .ok (.iconst 2, 1) := by decide +kernel
theorem dX1_run_226 : decode cX1_run 226 = .ok (.iconst 0, 1) := by decide +kernel
theorem dX1_run_227 : decode cX1_run 227 = .ok (.iload_n 3, 1) := by decide +kernel
theorem dX1_run_228 : decode cX1_run 228 = .ok (.iload 6, 2) := by decide +kernel
theorem dX1_run_230 : decode cX1_run 230 = .ok (.invokestatic 59, 3) := by decide +kernel
theorem dX1_run_233 : decode cX1_run 233 = .ok (.ineg, 1) := by decide +kernel
theorem dX1_run_234 : decode cX1_run 234 = .ok (.ireturn, 1) := by decide +kernel
theorem dX1_run_235 : decode cX1_run 235 = .ok (.aload_n 0, 1) := by decide +kernel
theorem dX1_run_236 : decode cX1_run 236 = .ok (.iconst 0, 1) := by decide +kernel
theorem dX1_run_237 : decode cX1_run 237 = .ok (.iconst 0, 1) := by decide +kernel
theorem dX1_run_238 : decode cX1_run 238 = .ok (.iload_n 3, 1) := by decide +kernel
theorem dX1_run_239 : decode cX1_run 239 = .ok (.iload 6, 2) := by decide +kernel
theorem dX1_run_241 : decode cX1_run 241 = .ok (.invokestatic 59, 3) := by decide +kernel
theorem dX1_run_244 : decode cX1_run 244 = .ok (.aload_n 0, 1) := by decide +kernel
theorem dX1_run_245 : decode cX1_run 245 = .ok (.getfield 22, 3) := by decide +kernel
theorem dX1_run_248 : decode cX1_run 248 = .ok (.isub, 1) := by decide +kernel
theorem dX1_run_249 : decode cX1_run 249 = .ok (.ireturn, 1) := by decide +kernel
theorem dX1_run_250 : decode cX1_run 250 = .ok (.aload_n 0, 1) := by decide +kernel
theorem dX1_run_251 : decode cX1_run 251 = .ok (.iconst 2, 1) := by decide +kernel
theorem dX1_run_252 : decode cX1_run 252 = .ok (.iconst 2, 1) := by decide +kernel
theorem dX1_run_253 : decode cX1_run 253 = .ok (.iload_n 3, 1) := by decide +kernel
theorem dX1_run_254 : decode cX1_run 254 = .ok (.iload 6, 2) := by decide +kernel
theorem dX1_run_256 : decode cX1_run 256 = .ok (.invokestatic 59, 3) := by decide +kernel
theorem dX1_run_259 : decode cX1_run 259 = .ok (.iconst 5, 1) := by decide +kernel
theorem dX1_run_260 : decode cX1_run 260 = .ok (.ixor, 1) := by decide +kernel
theorem dX1_run_261 : decode cX1_run 261 = .ok (.ireturn, 1) := by decide +kernel
theorem dX1_run_262 : decode cX1_run 262 = .ok (.aload_n 0, 1) := by decide +kernel
theorem dX1_run_263 : decode cX1_run 263 = .ok (.iconst 0, 1) := by decide +kernel
theorem dX1_run_264 : decode cX1_run 264 = .ok (.iconst 3, 1) := by decide +kernel
theorem dX1_run_265 : decode cX1_run 265 = .ok (.iload_n 3, 1) := by decide +kernel
theorem dX1_run_266 : decode cX1_run 266 = .ok (.iload 6, 2) := by decide +kernel
theorem dX1_run_268 : decode cX1_run 268 = .ok (.invokestatic 59, 3) := by decide +kernel
theorem dX1_run_271 : decode cX1_run 271 = .ok (.iconst 2, 1) := by decide +kernel
theorem dX1_run_272 : decode cX1_run 272 = .ok (.imul, 1) := by decide +kernel
theorem dX1_run_273 : decode cX1_run 273 = .ok (.ireturn, 1) := by decide +kernel
theorem dX1_run_274 : decode cX1_run 274 = .ok (.aload_n 0, 1) := by decide +kernel
theorem dX1_run_275 : decode cX1_run 275 = .ok (.iconst 1, 1) := by decide +kernel
theorem dX1_run_276 : decode cX1_run 276 = .ok (.iconst 3, 1) := by decide +kernel
theorem dX1_run_277 : decode cX1_run 277 = .ok (.iload_n 3, 1) := by decide +kernel
theorem dX1_run_278 : decode cX1_run 278 = .ok (.aload_n 0, 1) := by decide +kernel
theorem dX1_run_279 : decode cX1_run 279 = .ok (.getfield 25, 3) := by decide +kernel
theorem dX1_run_282 : decode cX1_run 282 = .ok (.isub, 1) := by decide +kernel
theorem dX1_run_283 : decode cX1_run 283 = .ok (.iload 6, 2) := by decide +kernel
theorem dX1_run_285 : decode cX1_run 285 = .ok (.invokestatic 59, 3) := by decide +kernel
theorem dX1_run_288 : decode cX1_run 288 = .ok (.ireturn, 1) := by decide +kernel
theorem dX1_run_289 : decode cX1_run 289 = .ok (.iconst 0, 1) := by decide +kernel
theorem dX1_run_290 : decode cX1_run 290 = .ok (.ireturn, 1) := by decide +kernel
def G1_run (rec : Int32 → Int32 → Int32 → Int32 → fkS → Option (Int32 × fkS)) (p1 : Int32) (p2 : Int32) (p3 : Int32) (p4 : Int32) (st : fkS) : Option (Int32 × fkS) :=
 if p4 ≤ (8 : Int32) then
 (fk_bind (F1_bodyFrom p1 p2 st) <| fun x1 st2 =>
 fk_bind (F1_begin x1 st2) <| fun _ st3 =>
 if x1 = (10 : Int32) then
 (fk_let (gI st3 23 36) <| fun x5 =>
 some ((p3 + x5), st3))
 else
 (if x1 = (11 : Int32) then
 (fk_let (gI st3 22 36) <| fun x7 =>
 fk_bind (rec (0 : Int32) x7 p3 (p4 + (1 : Int32)) st3) <| fun x8 st9 =>
 some ((x8 * (2 : Int32)), st9))
 else
 (if x1 = (12 : Int32) then
 (fk_let (gI st3 22 36) <| fun x11 =>
 fk_bind (rec (1 : Int32) x11 p3 (p4 + (1 : Int32)) st3) <| fun x12 st13 =>
 fk_let (gI st13 22 36) <| fun x14 =>
 fk_let (gI st13 24 36) <| fun x15 =>
 fk_bind (rec (0 : Int32) x14 (p3 - x15) (p4 + (1 : Int32)) st13) <| fun x16 st17 =>
 some ((x12 ^^^ x16), st17))
 else
 (if x1 = (20 : Int32) then
 (fk_bind (rec (0 : Int32) (0 : Int32) p3 (p4 + (1 : Int32)) st3) <| fun x19 st20 =>
 fk_let (gI st20 24 36) <| fun x21 =>
 some ((x19 + x21), st20))
 else
 (if x1 = (30 : Int32) then
 (fk_bind (rec (1 : Int32) (0 : Int32) p3 (p4 + (1 : Int32)) st3) <| fun x23 st24 =>
 some ((x23 * (3 : Int32)), st24))
 else
 (if x1 = (40 : Int32) then
 (fk_bind (rec (0 : Int32) (1 : Int32) (p3 + (1 : Int32)) (p4 + (1 : Int32)) st3) <| fun x26 st27 =>
 some (x26, st27))
 else
 (if x1 = (50 : Int32) then
 (fk_bind (rec (2 : Int32) (0 : Int32) p3 (p4 + (1 : Int32)) st3) <| fun x29 st30 =>
 some ((-x29), st30))
 else
 (if x1 = (51 : Int32) then
 (fk_bind (rec (0 : Int32) (0 : Int32) p3 (p4 + (1 : Int32)) st3) <| fun x32 st33 =>
 fk_let (gI st33 23 36) <| fun x34 =>
 some ((x32 - x34), st33))
 else
 (if x1 = (60 : Int32) then
 (fk_bind (rec (2 : Int32) (2 : Int32) p3 (p4 + (1 : Int32)) st3) <| fun x36 st37 =>
 some ((x36 ^^^ (5 : Int32)), st37))
 else
 (if x1 = (70 : Int32) then
 (fk_bind (rec (0 : Int32) (3 : Int32) p3 (p4 + (1 : Int32)) st3) <| fun x39 st40 =>
 some ((x39 * (2 : Int32)), st40))
 else
 (if x1 = (71 : Int32) then
 (fk_let (gI st3 24 36) <| fun x42 =>
 fk_bind (rec (1 : Int32) (3 : Int32) (p3 - x42) (p4 + (1 : Int32)) st3) <| fun x43 st44 =>
 some (x43, st44))
 else
 (some ((0 : Int32), st3)))))))))))))
 else
 (some ((0 : Int32), st))
set_option maxHeartbeats 1000000 in
set_option maxRecDepth 20000 in
theorem CG1_run (rec : Int32 → Int32 → Int32 → Int32 → fkS → Option (Int32 × fkS)) {g : fkG} {n : Nat} (hrec : ∀ (p1 : Int32) (p2 : Int32) (p3 : Int32) (p4 : Int32) (st : fkS) (l : Launch) (o : Int32 × fkS), rec p1 p2 p3 p4 st = some o → fk_C wC yX1_run cX1_run 7 (some .int) (n + 1) (n * 26 + 24) l g [fk_r g 36, .int p1, .int p2, .int p3, .int p4] st (fk_eI o.1) o.2) (p1 : Int32) (p2 : Int32) (p3 : Int32) (p4 : Int32) (st : fkS) (l : Launch) (o : Int32 × fkS) (hF : G1_run rec p1 p2 p3 p4 st = some o) : fk_C wC yX1_run cX1_run 7 (some (.int)) (n + 1 + 1) ((n + 1) * 26 + 24) l g [fk_r g 36, .int p1, .int p2, .int p3, .int p4] st (fk_eI o.1) o.2 := by
  refine fk_begin rfl (Nat.le_of_ble_eq_true rfl) (fun k hk => ?_) o hF
  have hk : fk_ok wC g k RX1 cX1_run 7 (some (.int)) (n + 1 + 1) ((n + 1) * 26 + 24) := hk
  show fk_J wC g fk_eI k 0 [(0, fk_r g 36), (1, .int p1), (2, .int p2), (3, .int p3), (4, .int p4)] [] st (G1_run rec p1 p2 p3 p4 st)
  unfold G1_run
  refine j_aload_n (pc := 0) hk 0 rfl ⟨_, rfl⟩ dX1_run_0 ?_
  refine j_ifnullR (pc := 1) hk ⟨_, rfl⟩ dX1_run_1 ?_
  refine j_iload (pc := 4) hk 4 rfl dX1_run_4 ?_
  refine j_bipush (pc := 6) hk dX1_run_6 (v := 8) (by decide) ?_
  refine j_icmp_le (tgt := 13) (pc := 8) hk (by decide) dX1_run_8 (fun _ => ?_) (fun _ => ?_)
  · refine j_iload_n (pc := 13) hk 1 rfl dX1_run_13 ?_
    refine j_iload_n (pc := 14) hk 2 rfl dX1_run_14 ?_
    refine j_callSi (pc := 15) hk [.int p1, .int p2] [] rfl (fun l o hq9 => C1_bodyFrom p1 p2 st l o hq9) yv_X1_bodyFrom ml_1_52 rfl (Nat.le_of_ble_eq_true rfl) (by omega) (by omega) dX1_run_15 (fun x1 st2 => ?_)
    refine j_istore (lv' := ((5, .int x1) :: [(0, fk_r g 36), (1, .int p1), (2, .int p2), (3, .int p3), (4, .int p4)])) (pc := 18) hk (by decide) rfl dX1_run_18 ?_
    refine j_sub hk (lv' := [(0, fk_r g 36), (1, .int p1), (2, .int p2), (3, .int p3), (4, .int p4), (5, .int x1)]) [1, 2, 3, 4, 5, 0] rfl ?_
    refine j_iload (pc := 20) hk 4 rfl dX1_run_20 ?_
    refine j_iconst (pc := 22) hk dX1_run_22 (v := 1) (by decide) ?_
    refine j_iadd (pc := 23) hk dX1_run_23 ?_
    refine j_istore (lv' := ((6, .int (p4 + (1 : Int32))) :: [(0, fk_r g 36), (1, .int p1), (2, .int p2), (3, .int p3), (4, .int p4), (5, .int x1)])) (pc := 24) hk (by decide) rfl dX1_run_24 ?_
    refine j_sub hk (lv' := [(0, fk_r g 36), (1, .int p1), (2, .int p2), (3, .int p3), (4, .int p4), (5, .int x1), (6, .int (p4 + (1 : Int32)))]) [1, 2, 3, 4, 5, 6, 0] rfl ?_
    refine j_aload_n (pc := 26) hk 0 rfl ⟨_, rfl⟩ dX1_run_26 ?_
    refine j_iload (pc := 27) hk 5 rfl dX1_run_27 ?_
    refine j_callVv (pc := 29) hk [.int x1] [] rfl (fun l o hq9 => C1_begin x1 st2 l o hq9) (rcv_1 (rfl)) yv_X1_begin ml_1_55 rfl (Nat.le_of_ble_eq_true rfl) (by omega) (by omega) dX1_run_29 (fun _ st3 => ?_)
    refine j_iload (pc := 32) hk 5 rfl dX1_run_32 ?_
    refine j_case (pc := 34) hk (fun n4 => ?_) (fun n4 => ?_)
    · refine j_lsw (off := 98) (tgt := 132) (pc := 34) hk (by decide) (by rw [n4]; decide) (by decide) dX1_run_34 ?_
      refine j_iload_n (pc := 132) hk 3 rfl dX1_run_132 ?_
      refine j_aload_n (pc := 133) hk 0 rfl ⟨_, rfl⟩ dX1_run_133 ?_
      refine f_1_22 (pc := 134) hk (rfl) dX1_run_134 (fun x5 => ?_)
      refine j_iadd (pc := 137) hk dX1_run_137 ?_
      exact j_iret (pc := 138) hk dX1_run_138
    · refine j_case (pc := 34) hk (fun n6 => ?_) (fun n6 => ?_)
      · refine j_lsw (off := 105) (tgt := 139) (pc := 34) hk (by decide) (by rw [n6]; decide) (by decide) dX1_run_34 ?_
        refine j_aload_n (pc := 139) hk 0 rfl ⟨_, rfl⟩ dX1_run_139 ?_
        refine j_iconst (pc := 140) hk dX1_run_140 (v := 0) (by decide) ?_
        refine j_aload_n (pc := 141) hk 0 rfl ⟨_, rfl⟩ dX1_run_141 ?_
        refine f_1_19 (pc := 142) hk (rfl) dX1_run_142 (fun x7 => ?_)
        refine j_iload_n (pc := 145) hk 3 rfl dX1_run_145 ?_
        refine j_iload (pc := 146) hk 6 rfl dX1_run_146 ?_
        refine j_callSi (pc := 148) hk [fk_r g 36, .int (0 : Int32), .int x7, .int p3, .int (p4 + (1 : Int32))] [] rfl (fun l o hq9 => hrec (0 : Int32) x7 p3 (p4 + (1 : Int32)) st3 l o hq9) yv_X1_run ml_1_59 rfl (Nat.le_of_ble_eq_true rfl) (by omega) (by omega) dX1_run_148 (fun x8 st9 => ?_)
        refine j_iconst (pc := 151) hk dX1_run_151 (v := 2) (by decide) ?_
        refine j_imul (pc := 152) hk dX1_run_152 ?_
        exact j_iret (pc := 153) hk dX1_run_153
      · refine j_case (pc := 34) hk (fun n10 => ?_) (fun n10 => ?_)
        · refine j_lsw (off := 120) (tgt := 154) (pc := 34) hk (by decide) (by rw [n10]; decide) (by decide) dX1_run_34 ?_
          refine j_aload_n (pc := 154) hk 0 rfl ⟨_, rfl⟩ dX1_run_154 ?_
          refine j_iconst (pc := 155) hk dX1_run_155 (v := 1) (by decide) ?_
          refine j_aload_n (pc := 156) hk 0 rfl ⟨_, rfl⟩ dX1_run_156 ?_
          refine f_1_19 (pc := 157) hk (rfl) dX1_run_157 (fun x11 => ?_)
          refine j_iload_n (pc := 160) hk 3 rfl dX1_run_160 ?_
          refine j_iload (pc := 161) hk 6 rfl dX1_run_161 ?_
          refine j_callSi (pc := 163) hk [fk_r g 36, .int (1 : Int32), .int x11, .int p3, .int (p4 + (1 : Int32))] [] rfl (fun l o hq9 => hrec (1 : Int32) x11 p3 (p4 + (1 : Int32)) st3 l o hq9) yv_X1_run ml_1_59 rfl (Nat.le_of_ble_eq_true rfl) (by omega) (by omega) dX1_run_163 (fun x12 st13 => ?_)
          refine j_aload_n (pc := 166) hk 0 rfl ⟨_, rfl⟩ dX1_run_166 ?_
          refine j_iconst (pc := 167) hk dX1_run_167 (v := 0) (by decide) ?_
          refine j_aload_n (pc := 168) hk 0 rfl ⟨_, rfl⟩ dX1_run_168 ?_
          refine f_1_19 (pc := 169) hk (rfl) dX1_run_169 (fun x14 => ?_)
          refine j_iload_n (pc := 172) hk 3 rfl dX1_run_172 ?_
          refine j_aload_n (pc := 173) hk 0 rfl ⟨_, rfl⟩ dX1_run_173 ?_
          refine f_1_25 (pc := 174) hk (rfl) dX1_run_174 (fun x15 => ?_)
          refine j_isub (pc := 177) hk dX1_run_177 ?_
          refine j_iload (pc := 178) hk 6 rfl dX1_run_178 ?_
          refine j_callSi (pc := 180) hk [fk_r g 36, .int (0 : Int32), .int x14, .int (p3 - x15), .int (p4 + (1 : Int32))] [.int x12] rfl (fun l o hq9 => hrec (0 : Int32) x14 (p3 - x15) (p4 + (1 : Int32)) st13 l o hq9) yv_X1_run ml_1_59 rfl (Nat.le_of_ble_eq_true rfl) (by omega) (by omega) dX1_run_180 (fun x16 st17 => ?_)
          refine j_ixor (pc := 183) hk dX1_run_183 ?_
          exact j_iret (pc := 184) hk dX1_run_184
        · refine j_case (pc := 34) hk (fun n18 => ?_) (fun n18 => ?_)
          · refine j_lsw (off := 151) (tgt := 185) (pc := 34) hk (by decide) (by rw [n18]; decide) (by decide) dX1_run_34 ?_
            refine j_aload_n (pc := 185) hk 0 rfl ⟨_, rfl⟩ dX1_run_185 ?_
            refine j_iconst (pc := 186) hk dX1_run_186 (v := 0) (by decide) ?_
            refine j_iconst (pc := 187) hk dX1_run_187 (v := 0) (by decide) ?_
            refine j_iload_n (pc := 188) hk 3 rfl dX1_run_188 ?_
            refine j_iload (pc := 189) hk 6 rfl dX1_run_189 ?_
            refine j_callSi (pc := 191) hk [fk_r g 36, .int (0 : Int32), .int (0 : Int32), .int p3, .int (p4 + (1 : Int32))] [] rfl (fun l o hq9 => hrec (0 : Int32) (0 : Int32) p3 (p4 + (1 : Int32)) st3 l o hq9) yv_X1_run ml_1_59 rfl (Nat.le_of_ble_eq_true rfl) (by omega) (by omega) dX1_run_191 (fun x19 st20 => ?_)
            refine j_aload_n (pc := 194) hk 0 rfl ⟨_, rfl⟩ dX1_run_194 ?_
            refine f_1_25 (pc := 195) hk (rfl) dX1_run_195 (fun x21 => ?_)
            refine j_iadd (pc := 198) hk dX1_run_198 ?_
            exact j_iret (pc := 199) hk dX1_run_199
          · refine j_case (pc := 34) hk (fun n22 => ?_) (fun n22 => ?_)
            · refine j_lsw (off := 166) (tgt := 200) (pc := 34) hk (by decide) (by rw [n22]; decide) (by decide) dX1_run_34 ?_
              refine j_aload_n (pc := 200) hk 0 rfl ⟨_, rfl⟩ dX1_run_200 ?_
              refine j_iconst (pc := 201) hk dX1_run_201 (v := 1) (by decide) ?_
              refine j_iconst (pc := 202) hk dX1_run_202 (v := 0) (by decide) ?_
              refine j_iload_n (pc := 203) hk 3 rfl dX1_run_203 ?_
              refine j_iload (pc := 204) hk 6 rfl dX1_run_204 ?_
              refine j_callSi (pc := 206) hk [fk_r g 36, .int (1 : Int32), .int (0 : Int32), .int p3, .int (p4 + (1 : Int32))] [] rfl (fun l o hq9 => hrec (1 : Int32) (0 : Int32) p3 (p4 + (1 : Int32)) st3 l o hq9) yv_X1_run ml_1_59 rfl (Nat.le_of_ble_eq_true rfl) (by omega) (by omega) dX1_run_206 (fun x23 st24 => ?_)
              refine j_iconst (pc := 209) hk dX1_run_209 (v := 3) (by decide) ?_
              refine j_imul (pc := 210) hk dX1_run_210 ?_
              exact j_iret (pc := 211) hk dX1_run_211
            · refine j_case (pc := 34) hk (fun n25 => ?_) (fun n25 => ?_)
              · refine j_lsw (off := 178) (tgt := 212) (pc := 34) hk (by decide) (by rw [n25]; decide) (by decide) dX1_run_34 ?_
                refine j_aload_n (pc := 212) hk 0 rfl ⟨_, rfl⟩ dX1_run_212 ?_
                refine j_iconst (pc := 213) hk dX1_run_213 (v := 0) (by decide) ?_
                refine j_iconst (pc := 214) hk dX1_run_214 (v := 1) (by decide) ?_
                refine j_iload_n (pc := 215) hk 3 rfl dX1_run_215 ?_
                refine j_iconst (pc := 216) hk dX1_run_216 (v := 1) (by decide) ?_
                refine j_iadd (pc := 217) hk dX1_run_217 ?_
                refine j_iload (pc := 218) hk 6 rfl dX1_run_218 ?_
                refine j_callSi (pc := 220) hk [fk_r g 36, .int (0 : Int32), .int (1 : Int32), .int (p3 + (1 : Int32)), .int (p4 + (1 : Int32))] [] rfl (fun l o hq9 => hrec (0 : Int32) (1 : Int32) (p3 + (1 : Int32)) (p4 + (1 : Int32)) st3 l o hq9) yv_X1_run ml_1_59 rfl (Nat.le_of_ble_eq_true rfl) (by omega) (by omega) dX1_run_220 (fun x26 st27 => ?_)
                exact j_iret (pc := 223) hk dX1_run_223
              · refine j_case (pc := 34) hk (fun n28 => ?_) (fun n28 => ?_)
                · refine j_lsw (off := 190) (tgt := 224) (pc := 34) hk (by decide) (by rw [n28]; decide) (by decide) dX1_run_34 ?_
                  refine j_aload_n (pc := 224) hk 0 rfl ⟨_, rfl⟩ dX1_run_224 ?_
                  refine j_iconst (pc := 225) hk dX1_run_225 (v := 2) (by decide) ?_
                  refine j_iconst (pc := 226) hk dX1_run_226 (v := 0) (by decide) ?_
                  refine j_iload_n (pc := 227) hk 3 rfl dX1_run_227 ?_
                  refine j_iload (pc := 228) hk 6 rfl dX1_run_228 ?_
                  refine j_callSi (pc := 230) hk [fk_r g 36, .int (2 : Int32), .int (0 : Int32), .int p3, .int (p4 + (1 : Int32))] [] rfl (fun l o hq9 => hrec (2 : Int32) (0 : Int32) p3 (p4 + (1 : Int32)) st3 l o hq9) yv_X1_run ml_1_59 rfl (Nat.le_of_ble_eq_true rfl) (by omega) (by omega) dX1_run_230 (fun x29 st30 => ?_)
                  refine j_ineg (pc := 233) hk dX1_run_233 ?_
                  exact j_iret (pc := 234) hk dX1_run_234
                · refine j_case (pc := 34) hk (fun n31 => ?_) (fun n31 => ?_)
                  · refine j_lsw (off := 201) (tgt := 235) (pc := 34) hk (by decide) (by rw [n31]; decide) (by decide) dX1_run_34 ?_
                    refine j_aload_n (pc := 235) hk 0 rfl ⟨_, rfl⟩ dX1_run_235 ?_
                    refine j_iconst (pc := 236) hk dX1_run_236 (v := 0) (by decide) ?_
                    refine j_iconst (pc := 237) hk dX1_run_237 (v := 0) (by decide) ?_
                    refine j_iload_n (pc := 238) hk 3 rfl dX1_run_238 ?_
                    refine j_iload (pc := 239) hk 6 rfl dX1_run_239 ?_
                    refine j_callSi (pc := 241) hk [fk_r g 36, .int (0 : Int32), .int (0 : Int32), .int p3, .int (p4 + (1 : Int32))] [] rfl (fun l o hq9 => hrec (0 : Int32) (0 : Int32) p3 (p4 + (1 : Int32)) st3 l o hq9) yv_X1_run ml_1_59 rfl (Nat.le_of_ble_eq_true rfl) (by omega) (by omega) dX1_run_241 (fun x32 st33 => ?_)
                    refine j_aload_n (pc := 244) hk 0 rfl ⟨_, rfl⟩ dX1_run_244 ?_
                    refine f_1_22 (pc := 245) hk (rfl) dX1_run_245 (fun x34 => ?_)
                    refine j_isub (pc := 248) hk dX1_run_248 ?_
                    exact j_iret (pc := 249) hk dX1_run_249
                  · refine j_case (pc := 34) hk (fun n35 => ?_) (fun n35 => ?_)
                    · refine j_lsw (off := 216) (tgt := 250) (pc := 34) hk (by decide) (by rw [n35]; decide) (by decide) dX1_run_34 ?_
                      refine j_aload_n (pc := 250) hk 0 rfl ⟨_, rfl⟩ dX1_run_250 ?_
                      refine j_iconst (pc := 251) hk dX1_run_251 (v := 2) (by decide) ?_
                      refine j_iconst (pc := 252) hk dX1_run_252 (v := 2) (by decide) ?_
                      refine j_iload_n (pc := 253) hk 3 rfl dX1_run_253 ?_
                      refine j_iload (pc := 254) hk 6 rfl dX1_run_254 ?_
                      refine j_callSi (pc := 256) hk [fk_r g 36, .int (2 : Int32), .int (2 : Int32), .int p3, .int (p4 + (1 : Int32))] [] rfl (fun l o hq9 => hrec (2 : Int32) (2 : Int32) p3 (p4 + (1 : Int32)) st3 l o hq9) yv_X1_run ml_1_59 rfl (Nat.le_of_ble_eq_true rfl) (by omega) (by omega) dX1_run_256 (fun x36 st37 => ?_)
                      refine j_iconst (pc := 259) hk dX1_run_259 (v := 5) (by decide) ?_
                      refine j_ixor (pc := 260) hk dX1_run_260 ?_
                      exact j_iret (pc := 261) hk dX1_run_261
                    · refine j_case (pc := 34) hk (fun n38 => ?_) (fun n38 => ?_)
                      · refine j_lsw (off := 228) (tgt := 262) (pc := 34) hk (by decide) (by rw [n38]; decide) (by decide) dX1_run_34 ?_
                        refine j_aload_n (pc := 262) hk 0 rfl ⟨_, rfl⟩ dX1_run_262 ?_
                        refine j_iconst (pc := 263) hk dX1_run_263 (v := 0) (by decide) ?_
                        refine j_iconst (pc := 264) hk dX1_run_264 (v := 3) (by decide) ?_
                        refine j_iload_n (pc := 265) hk 3 rfl dX1_run_265 ?_
                        refine j_iload (pc := 266) hk 6 rfl dX1_run_266 ?_
                        refine j_callSi (pc := 268) hk [fk_r g 36, .int (0 : Int32), .int (3 : Int32), .int p3, .int (p4 + (1 : Int32))] [] rfl (fun l o hq9 => hrec (0 : Int32) (3 : Int32) p3 (p4 + (1 : Int32)) st3 l o hq9) yv_X1_run ml_1_59 rfl (Nat.le_of_ble_eq_true rfl) (by omega) (by omega) dX1_run_268 (fun x39 st40 => ?_)
                        refine j_iconst (pc := 271) hk dX1_run_271 (v := 2) (by decide) ?_
                        refine j_imul (pc := 272) hk dX1_run_272 ?_
                        exact j_iret (pc := 273) hk dX1_run_273
                      · refine j_case (pc := 34) hk (fun n41 => ?_) (fun n41 => ?_)
                        · refine j_lsw (off := 240) (tgt := 274) (pc := 34) hk (by decide) (by rw [n41]; decide) (by decide) dX1_run_34 ?_
                          refine j_aload_n (pc := 274) hk 0 rfl ⟨_, rfl⟩ dX1_run_274 ?_
                          refine j_iconst (pc := 275) hk dX1_run_275 (v := 1) (by decide) ?_
                          refine j_iconst (pc := 276) hk dX1_run_276 (v := 3) (by decide) ?_
                          refine j_iload_n (pc := 277) hk 3 rfl dX1_run_277 ?_
                          refine j_aload_n (pc := 278) hk 0 rfl ⟨_, rfl⟩ dX1_run_278 ?_
                          refine f_1_25 (pc := 279) hk (rfl) dX1_run_279 (fun x42 => ?_)
                          refine j_isub (pc := 282) hk dX1_run_282 ?_
                          refine j_iload (pc := 283) hk 6 rfl dX1_run_283 ?_
                          refine j_callSi (pc := 285) hk [fk_r g 36, .int (1 : Int32), .int (3 : Int32), .int (p3 - x42), .int (p4 + (1 : Int32))] [] rfl (fun l o hq9 => hrec (1 : Int32) (3 : Int32) (p3 - x42) (p4 + (1 : Int32)) st3 l o hq9) yv_X1_run ml_1_59 rfl (Nat.le_of_ble_eq_true rfl) (by omega) (by omega) dX1_run_285 (fun x43 st44 => ?_)
                          exact j_iret (pc := 288) hk dX1_run_288
                        · have mn4 := lv_neT (a := 10) n4 (by decide)
                          have mn6 := lv_neT (a := 11) n6 (by decide)
                          have mn10 := lv_neT (a := 12) n10 (by decide)
                          have mn18 := lv_neT (a := 20) n18 (by decide)
                          have mn22 := lv_neT (a := 30) n22 (by decide)
                          have mn25 := lv_neT (a := 40) n25 (by decide)
                          have mn28 := lv_neT (a := 50) n28 (by decide)
                          have mn31 := lv_neT (a := 51) n31 (by decide)
                          have mn35 := lv_neT (a := 60) n35 (by decide)
                          have mn38 := lv_neT (a := 70) n38 (by decide)
                          have mn41 := lv_neT (a := 71) n41 (by decide)
                          refine j_lsw (off := 255) (tgt := 289) (pc := 34) hk (by decide) (fk_lsw (by intro q hq; simp only [List.mem_cons, List.not_mem_nil, or_false] at hq; rcases hq with rfl | rfl | rfl | rfl | rfl | rfl | rfl | rfl | rfl | rfl | rfl <;> simpa using by assumption)) (by decide) dX1_run_34 ?_
                          refine j_iconst (pc := 289) hk dX1_run_289 (v := 0) (by decide) ?_
                          exact j_iret (pc := 290) hk dX1_run_290
  · refine j_iconst (pc := 11) hk dX1_run_11 (v := 0) (by decide) ?_
    exact j_iret (pc := 12) hk dX1_run_12
def F1_run (p1 : Int32) (p2 : Int32) (p3 : Int32) (p4 : Int32) (st : fkS) : Option (Int32 × fkS) := fk_lp4 G1_run 12 p1 p2 p3 p4 st
theorem CN1_run {g : fkG} (n : Nat) : ∀ (p1 : Int32) (p2 : Int32) (p3 : Int32) (p4 : Int32) (st : fkS) (l : Launch) (o : Int32 × fkS), fk_lp4 G1_run n p1 p2 p3 p4 st = some o → fk_C wC yX1_run cX1_run 7 (some (.int)) (n + 1) (n * 26 + 24) l g [fk_r g 36, .int p1, .int p2, .int p3, .int p4] st (fk_eI o.1) o.2 := by
  induction n with
  | zero =>
    intro p1 p2 p3 p4 st l o h
    exact absurd h (by simp [fk_lp4])
  | succ n ih =>
    intro p1 p2 p3 p4 st l o h
    exact CG1_run (fk_lp4 G1_run n) ih p1 p2 p3 p4 st l o h
theorem C1_run (p1 : Int32) (p2 : Int32) (p3 : Int32) (p4 : Int32) (st : fkS) {g : fkG} (l : Launch) (o : Int32 × fkS) (h : F1_run p1 p2 p3 p4 st = some o) : fk_C wC yX1_run cX1_run 7 (some (.int)) 13 336 l g [fk_r g 36, .int p1, .int p2, .int p3, .int p4] st (fk_eI o.1) o.2 := CN1_run 12 p1 p2 p3 p4 st l o h
theorem dX5_whole_0 : decode cX5_whole 0 = .ok (.iload_n 1, 1) := by decide +kernel
theorem dX5_whole_1 : decode cX5_whole 1 = .ok (.ifCond .lt 11, 3) := by decide +kernel
theorem dX5_whole_4 : decode cX5_whole 4 = .ok (.iload_n 1, 1) := by decide +kernel
theorem dX5_whole_5 : decode cX5_whole 5 = .ok (.aload_n 0, 1) := by decide +kernel
theorem dX5_whole_6 : decode cX5_whole 6 = .ok (.getfield 21, 3) := by decide +kernel
theorem dX5_whole_9 : decode cX5_whole 9 = .ok (.if_icmp .lt 7, 3) := by decide +kernel
theorem dX5_whole_12 : decode cX5_whole 12 = .ok (.lconst 0, 1) := by decide +kernel
theorem dX5_whole_13 : decode cX5_whole 13 = .ok (.goto 9, 3) := by decide +kernel
theorem dX5_whole_16 : decode cX5_whole 16 = .ok (.aload_n 0, 1) := by decide +kernel
theorem dX5_whole_17 : decode cX5_whole 17 = .ok (.getfield 24, 3) := by decide +kernel
theorem dX5_whole_20 : decode cX5_whole 20 = .ok (.iload_n 1, 1) := by decide +kernel
theorem dX5_whole_21 : decode cX5_whole 21 = .ok (.laload, 1) := by decide +kernel
theorem dX5_whole_22 : decode cX5_whole 22 = .ok (.lreturn, 1) := by decide +kernel
def B5_whole_12 (h : Nat) (st : fkS) : Option (Int64 × fkS) :=
 some ((0 : Int64), st)
set_option maxHeartbeats 1000000 in
set_option maxRecDepth 20000 in
theorem T5_whole_12 {g : fkG} {k : fkK} (h : Nat) (hh : kdC h = 5) (hk : fk_ok wC g k RX5 cX5_whole 2 (some (.long)) 0 0) : ∀ (st : fkS), fk_J wC g fk_eL k 12 [] [] st (B5_whole_12 h st) := by
  intro st
  unfold B5_whole_12
  refine j_lconst (pc := 12) hk dX5_whole_12 (v := 0) (by decide) ?_
  refine j_goto (tgt := 22) (pc := 13) hk (by decide) dX5_whole_13 ?_
  exact j_lret (pc := 22) hk dX5_whole_22
def F5_whole (h : Nat) (p1 : Int32) (st : fkS) : Option (Int64 × fkS) :=
 if p1 < 0 then
 (B5_whole_12 h st)
 else
 (fk_let (gI st 103 h) <| fun x1 =>
 if p1 < x1 then
 (fk_chk (fk_in p1 160) <| fk_let (gL st (h + 8) p1.toNatClampNeg) <| fun x2 =>
 some (x2, st))
 else
 (B5_whole_12 h st))
set_option maxHeartbeats 1000000 in
set_option maxRecDepth 20000 in
theorem C5_whole (h : Nat) (hh : kdC h = 5) (p1 : Int32) (st : fkS) {g : fkG} (l : Launch) (o : Int64 × fkS) (hF : F5_whole h p1 st = some o) : fk_C wC yX5_whole cX5_whole 2 (some (.long)) 0 0 l g [fk_r g h, .int p1] st (fk_eL o.1) o.2 := by
  refine fk_begin rfl (Nat.le_of_ble_eq_true rfl) (fun k hk => ?_) o hF
  have hk : fk_ok wC g k RX5 cX5_whole 2 (some (.long)) 0 0 := hk
  show fk_J wC g fk_eL k 0 [(0, fk_r g h), (1, .int p1)] [] st (F5_whole h p1 st)
  unfold F5_whole
  refine j_iload_n (pc := 0) hk 1 rfl dX5_whole_0 ?_
  refine j_if_lt (tgt := 12) (pc := 1) hk (by decide) dX5_whole_1 (fun _ => ?_) (fun _ => ?_)
  · exact j_sub hk [] rfl (T5_whole_12 h hh hk st)
  · refine j_iload_n (pc := 4) hk 1 rfl dX5_whole_4 ?_
    refine j_aload_n (pc := 5) hk 0 rfl ⟨_, rfl⟩ dX5_whole_5 ?_
    refine f_5_21 (pc := 6) hk (hh) dX5_whole_6 (fun x1 => ?_)
    refine j_icmp_lt (tgt := 16) (pc := 9) hk (by decide) dX5_whole_9 (fun _ => ?_) (fun _ => ?_)
    · refine j_aload_n (pc := 16) hk 0 rfl ⟨_, rfl⟩ dX5_whole_16 ?_
      refine f_5_24 (pc := 17) hk (hh) dX5_whole_17 ?_
      refine j_iload_n (pc := 20) hk 1 rfl dX5_whole_20 ?_
      refine a_lload (pc := 21) hk (isL_5_4 (hh)) dX5_whole_21 (fun x2 => ?_)
      exact j_lret (pc := 22) hk dX5_whole_22
    · exact j_sub hk [] rfl (T5_whole_12 h hh hk st)
theorem dX5_number_0 : decode cX5_number 0 = .ok (.aload_n 0, 1) := by decide +kernel
theorem dX5_number_1 : decode cX5_number 1 = .ok (.iload_n 1, 1) := by decide +kernel
theorem dX5_number_2 : decode cX5_number 2 = .ok (.invokevirtual 37, 3) := by decide +kernel
theorem dX5_number_5 : decode cX5_number 5 = .ok (.l2i, 1) := by decide +kernel
theorem dX5_number_6 : decode cX5_number 6 = .ok (.ireturn, 1) := by decide +kernel
def F5_number (h : Nat) (p1 : Int32) (st : fkS) : Option (Int32 × fkS) :=
 fk_bind (F5_whole h p1 st) <| fun x1 st2 =>
 some (x1.toInt32, st2)
set_option maxHeartbeats 1000000 in
set_option maxRecDepth 20000 in
theorem C5_number (h : Nat) (hh : kdC h = 5) (p1 : Int32) (st : fkS) {g : fkG} (l : Launch) (o : Int32 × fkS) (hF : F5_number h p1 st = some o) : fk_C wC yX5_number cX5_number 2 (some (.int)) 1 21 l g [fk_r g h, .int p1] st (fk_eI o.1) o.2 := by
  refine fk_begin rfl (Nat.le_of_ble_eq_true rfl) (fun k hk => ?_) o hF
  have hk : fk_ok wC g k RX5 cX5_number 2 (some (.int)) 1 21 := hk
  show fk_J wC g fk_eI k 0 [(0, fk_r g h), (1, .int p1)] [] st (F5_number h p1 st)
  unfold F5_number
  refine j_aload_n (pc := 0) hk 0 rfl ⟨_, rfl⟩ dX5_number_0 ?_
  refine j_iload_n (pc := 1) hk 1 rfl dX5_number_1 ?_
  refine j_callVl (pc := 2) hk [.int p1] [] rfl (fun l o hq9 => C5_whole h (hh) p1 st l o hq9) (rcv_5 (hh)) yv_X5_whole ml_5_37 rfl (Nat.le_of_ble_eq_true rfl) (Nat.le_of_ble_eq_true rfl) (Nat.le_of_ble_eq_true rfl) dX5_number_2 (fun x1 st2 => ?_)
  refine j_l2i (pc := 5) hk dX5_number_5 ?_
  exact j_iret (pc := 6) hk dX5_number_6
theorem dX2_takeWishes_0 : decode cX2_takeWishes 0 = .ok (.aload_n 1, 1) := by decide +kernel
theorem dX2_takeWishes_1 : decode cX2_takeWishes 1 = .ok (.getfield 28, 3) := by decide +kernel
theorem dX2_takeWishes_4 : decode cX2_takeWishes 4 = .ok (.bipush 7, 2) := by decide +kernel
theorem dX2_takeWishes_6 : decode cX2_takeWishes 6 = .ok (.if_icmp .le 5, 3) := by decide +kernel
theorem dX2_takeWishes_9 : decode cX2_takeWishes 9 = .ok (.iconst 0, 1) := by decide +kernel
theorem dX2_takeWishes_10 : decode cX2_takeWishes 10 = .ok (.ireturn, 1) := by decide +kernel
theorem dX2_takeWishes_11 : decode cX2_takeWishes 11 = .ok (.aload_n 0, 1) := by decide +kernel
theorem dX2_takeWishes_12 : decode cX2_takeWishes 12 = .ok (.aload_n 1, 1) := by decide +kernel
theorem dX2_takeWishes_13 : decode cX2_takeWishes 13 = .ok (.getfield 28, 3) := by decide +kernel
theorem dX2_takeWishes_16 : decode cX2_takeWishes 16 = .ok (.putfield 9, 3) := by decide +kernel
theorem dX2_takeWishes_19 : decode cX2_takeWishes 19 = .ok (.iconst 0, 1) := by decide +kernel
theorem dX2_takeWishes_20 : decode cX2_takeWishes 20 = .ok (.istore_n 2, 1) := by decide +kernel
theorem dX2_takeWishes_21 : decode cX2_takeWishes 21 = .ok (.iload_n 2, 1) := by decide +kernel
theorem dX2_takeWishes_22 : decode cX2_takeWishes 22 = .ok (.aload_n 0, 1) := by decide +kernel
theorem dX2_takeWishes_23 : decode cX2_takeWishes 23 = .ok (.getfield 9, 3) := by decide +kernel
theorem dX2_takeWishes_26 : decode cX2_takeWishes 26 = .ok (.if_icmp .ge 43, 3) := by decide +kernel
theorem dX2_takeWishes_29 : decode cX2_takeWishes 29 = .ok (.iload_n 2, 1) := by decide +kernel
theorem dX2_takeWishes_30 : decode cX2_takeWishes 30 = .ok (.aload_n 0, 1) := by decide +kernel
theorem dX2_takeWishes_31 : decode cX2_takeWishes 31 = .ok (.getfield 18, 3) := by decide +kernel
theorem dX2_takeWishes_34 : decode cX2_takeWishes 34 = .ok (.arraylength, 1) := by decide +kernel
theorem dX2_takeWishes_35 : decode cX2_takeWishes 35 = .ok (.if_icmp .ge 34, 3) := by decide +kernel
theorem dX2_takeWishes_38 : decode cX2_takeWishes 38 = .ok (.aload_n 1, 1) := by decide +kernel
theorem dX2_takeWishes_39 : decode cX2_takeWishes 39 = .ok (.iload_n 2, 1) := by decide +kernel
theorem dX2_takeWishes_40 : decode cX2_takeWishes 40 = .ok (.invokevirtual 33, 3) := by decide +kernel
theorem dX2_takeWishes_43 : decode cX2_takeWishes 43 = .ok (.istore_n 3, 1) := by decide +kernel
theorem dX2_takeWishes_44 : decode cX2_takeWishes 44 = .ok (.iload_n 3, 1) := by decide +kernel
theorem dX2_takeWishes_45 : decode cX2_takeWishes 45 = .ok (.ifCond .lt 9, 3) := by decide +kernel
theorem dX2_takeWishes_48 : decode cX2_takeWishes 48 = .ok (.iload_n 3, 1) := by decide +kernel
theorem dX2_takeWishes_49 : decode cX2_takeWishes 49 = .ok (.bipush 8, 2) := by decide +kernel
theorem dX2_takeWishes_51 : decode cX2_takeWishes 51 = .ok (.if_icmp .lt 5, 3) := by decide +kernel
theorem dX2_takeWishes_54 : decode cX2_takeWishes 54 = .ok (.iconst 0, 1) := by decide +kernel
theorem dX2_takeWishes_55 : decode cX2_takeWishes 55 = .ok (.ireturn, 1) := by decide +kernel
theorem dX2_takeWishes_56 : decode cX2_takeWishes 56 = .ok (.aload_n 0, 1) := by decide +kernel
theorem dX2_takeWishes_57 : decode cX2_takeWishes 57 = .ok (.getfield 18, 3) := by decide +kernel
theorem dX2_takeWishes_60 : decode cX2_takeWishes 60 = .ok (.iload_n 2, 1) := by decide +kernel
theorem dX2_takeWishes_61 : decode cX2_takeWishes 61 = .ok (.iload_n 3, 1) := by decide +kernel
theorem dX2_takeWishes_62 : decode cX2_takeWishes 62 = .ok (.iastore, 1) := by decide +kernel
theorem dX2_takeWishes_63 : decode cX2_takeWishes 63 = .ok (.iinc 2 1, 3) := by decide +kernel
theorem dX2_takeWishes_66 : decode cX2_takeWishes 66 = .ok (.goto (-45), 3) := by decide +kernel
theorem dX2_takeWishes_69 : decode cX2_takeWishes 69 = .ok (.iconst 1, 1) := by decide +kernel
theorem dX2_takeWishes_70 : decode cX2_takeWishes 70 = .ok (.ireturn, 1) := by decide +kernel
def B2_takeWishes_21 (o1 : Nat) (k21 : Int32 → fkS → Option (Int32 × fkS)) (v2 : Int32) (st : fkS) : Option (Int32 × fkS) :=
 fk_let (gI st 40 44) <| fun x4 =>
 if x4 ≤ v2 then
 (some ((1 : Int32), st))
 else
 (if (7 : Int32) ≤ v2 then
 (some ((1 : Int32), st))
 else
 (fk_bind (F5_number o1 v2 st) <| fun x5 st6 =>
 if x5 < 0 then
 (some ((0 : Int32), st6))
 else
 (if x5 < (8 : Int32) then
 (fk_chk (fk_in v2 7) <| fk_let (sA st6 45 v2.toNatClampNeg x5) <| fun st7 =>
 k21 (v2 + (1 : Int32)) st7)
 else
 (some ((0 : Int32), st6)))))
set_option maxHeartbeats 1000000 in
set_option maxRecDepth 20000 in
theorem T2_takeWishes_21 {g : fkG} {k : fkK} (o1 : Nat) (ho1 : kdC o1 = 5) (hk : fk_ok wC g k RX2 cX2_takeWishes 4 (some (.boolean)) 2 42) (k21 : Int32 → fkS → Option (Int32 × fkS)) (H21 : ∀ (v2 : Int32) (st : fkS), fk_J wC g fk_eI k 21 [(0, fk_r g 44), (1, fk_r g o1), (2, .int v2)] [] st (k21 v2 st)) : ∀ (v2 : Int32) (st : fkS), fk_J wC g fk_eI k 21 [(0, fk_r g 44), (1, fk_r g o1), (2, .int v2)] [] st (B2_takeWishes_21 o1 k21 v2 st) := by
  intro v2 st
  unfold B2_takeWishes_21
  refine j_iload_n (pc := 21) hk 2 rfl dX2_takeWishes_21 ?_
  refine j_aload_n (pc := 22) hk 0 rfl ⟨_, rfl⟩ dX2_takeWishes_22 ?_
  refine f_2_9 (pc := 23) hk (rfl) dX2_takeWishes_23 (fun x4 => ?_)
  refine j_icmp_ge (tgt := 69) (pc := 26) hk (by decide) dX2_takeWishes_26 (fun _ => ?_) (fun _ => ?_)
  · refine j_iconst (pc := 69) hk dX2_takeWishes_69 (v := 1) (by decide) ?_
    exact j_zret (pc := 70) hk rfl dX2_takeWishes_70
  · refine j_iload_n (pc := 29) hk 2 rfl dX2_takeWishes_29 ?_
    refine j_aload_n (pc := 30) hk 0 rfl ⟨_, rfl⟩ dX2_takeWishes_30 ?_
    refine f_2_18 (pc := 31) hk (rfl) dX2_takeWishes_31 ?_
    refine a_ilen (pc := 34) hk (isI_2_2 (rfl)) (v := 7) (by decide) dX2_takeWishes_34 ?_
    refine j_icmp_ge (tgt := 69) (pc := 35) hk (by decide) dX2_takeWishes_35 (fun _ => ?_) (fun _ => ?_)
    · refine j_iconst (pc := 69) hk dX2_takeWishes_69 (v := 1) (by decide) ?_
      exact j_zret (pc := 70) hk rfl dX2_takeWishes_70
    · refine j_aload_n (pc := 38) hk 1 rfl ⟨_, rfl⟩ dX2_takeWishes_38 ?_
      refine j_iload_n (pc := 39) hk 2 rfl dX2_takeWishes_39 ?_
      refine j_callVNi (pc := 40) hk [.int v2] [] rfl (fun l o hq9 => C5_number o1 (ho1) v2 st l o hq9) (rcv_5 (ho1)) yv_X5_number ml_2_33 rfl (Nat.le_of_ble_eq_true rfl) (Nat.le_of_ble_eq_true rfl) (Nat.le_of_ble_eq_true rfl) dX2_takeWishes_40 (fun x5 st6 => ?_)
      refine j_istore_n (lv' := ((3, .int x5) :: [(0, fk_r g 44), (1, fk_r g o1), (2, .int v2)])) (pc := 43) hk rfl (by decide) rfl dX2_takeWishes_43 ?_
      refine j_sub hk (lv' := [(0, fk_r g 44), (1, fk_r g o1), (2, .int v2), (3, .int x5)]) [1, 2, 3, 0] rfl ?_
      refine j_iload_n (pc := 44) hk 3 rfl dX2_takeWishes_44 ?_
      refine j_if_lt (tgt := 54) (pc := 45) hk (by decide) dX2_takeWishes_45 (fun _ => ?_) (fun _ => ?_)
      · refine j_iconst (pc := 54) hk dX2_takeWishes_54 (v := 0) (by decide) ?_
        exact j_zret (pc := 55) hk rfl dX2_takeWishes_55
      · refine j_iload_n (pc := 48) hk 3 rfl dX2_takeWishes_48 ?_
        refine j_bipush (pc := 49) hk dX2_takeWishes_49 (v := 8) (by decide) ?_
        refine j_icmp_lt (tgt := 56) (pc := 51) hk (by decide) dX2_takeWishes_51 (fun _ => ?_) (fun _ => ?_)
        · refine j_aload_n (pc := 56) hk 0 rfl ⟨_, rfl⟩ dX2_takeWishes_56 ?_
          refine f_2_18 (pc := 57) hk (rfl) dX2_takeWishes_57 ?_
          refine j_iload_n (pc := 60) hk 2 rfl dX2_takeWishes_60 ?_
          refine j_iload_n (pc := 61) hk 3 rfl dX2_takeWishes_61 ?_
          refine a_istore (pc := 62) hk (isI_2_2 (rfl)) dX2_takeWishes_62 (fun st7 => ?_)
          refine j_iinc (dd := (1 : Int32)) (lv' := ((2, .int (v2 + (1 : Int32))) :: [(0, fk_r g 44), (1, fk_r g o1), (3, .int x5)])) (pc := 63) hk 2 rfl (by decide) (by decide) rfl dX2_takeWishes_63 ?_
          refine j_sub hk (lv' := [(0, fk_r g 44), (1, fk_r g o1), (2, .int (v2 + (1 : Int32))), (3, .int x5)]) [1, 2, 0, 3] rfl ?_
          refine j_goto (tgt := 21) (pc := 66) hk (by decide) dX2_takeWishes_66 ?_
          exact j_sub hk [0, 1, 2] rfl (H21 (v2 + (1 : Int32)) st7)
        · refine j_iconst (pc := 54) hk dX2_takeWishes_54 (v := 0) (by decide) ?_
          exact j_zret (pc := 55) hk rfl dX2_takeWishes_55
set_option maxHeartbeats 1000000 in
set_option maxRecDepth 20000 in
theorem L2_takeWishes_21 {g : fkG} {k : fkK} (o1 : Nat) (ho1 : kdC o1 = 5) (hk : fk_ok wC g k RX2 cX2_takeWishes 4 (some (.boolean)) 2 42) (fu : Nat) : ∀ (v2 : Int32) (st : fkS), fk_J wC g fk_eI k 21 [(0, fk_r g 44), (1, fk_r g o1), (2, .int v2)] [] st (fk_lp1 (B2_takeWishes_21 o1) fu v2 st) := by
  induction fu with
  | zero =>
    intro v2 st
    exact j_none hk
  | succ fu ih =>
    exact T2_takeWishes_21 o1 ho1 hk _ ih
def F2_takeWishes (o1 : Nat) (st : fkS) : Option (Int32 × fkS) :=
 fk_let (gI st 103 o1) <| fun x1 =>
 if x1 ≤ (7 : Int32) then
 (fk_let (gI st 103 o1) <| fun x2 =>
 fk_let (sI st 40 44 x2) <| fun st3 =>
 fk_lp1 (B2_takeWishes_21 o1) fk_fuel (0 : Int32) st3)
 else
 (some ((0 : Int32), st))
set_option maxHeartbeats 1000000 in
set_option maxRecDepth 20000 in
theorem C2_takeWishes (o1 : Nat) (ho1 : kdC o1 = 5) (st : fkS) {g : fkG} (l : Launch) (o : Int32 × fkS) (hF : F2_takeWishes o1 st = some o) : fk_C wC yX2_takeWishes cX2_takeWishes 4 (some (.boolean)) 2 42 l g [fk_r g 44, fk_r g o1] st (fk_eI o.1) o.2 := by
  refine fk_begin rfl (Nat.le_of_ble_eq_true rfl) (fun k hk => ?_) o hF
  have hk : fk_ok wC g k RX2 cX2_takeWishes 4 (some (.boolean)) 2 42 := hk
  show fk_J wC g fk_eI k 0 [(0, fk_r g 44), (1, fk_r g o1)] [] st (F2_takeWishes o1 st)
  unfold F2_takeWishes
  refine j_aload_n (pc := 0) hk 1 rfl ⟨_, rfl⟩ dX2_takeWishes_0 ?_
  refine f_2_28 (pc := 1) hk (ho1) dX2_takeWishes_1 (fun x1 => ?_)
  refine j_bipush (pc := 4) hk dX2_takeWishes_4 (v := 7) (by decide) ?_
  refine j_icmp_le (tgt := 11) (pc := 6) hk (by decide) dX2_takeWishes_6 (fun _ => ?_) (fun _ => ?_)
  · refine j_aload_n (pc := 11) hk 0 rfl ⟨_, rfl⟩ dX2_takeWishes_11 ?_
    refine j_aload_n (pc := 12) hk 1 rfl ⟨_, rfl⟩ dX2_takeWishes_12 ?_
    refine f_2_28 (pc := 13) hk (ho1) dX2_takeWishes_13 (fun x2 => ?_)
    refine p_2_9 (pc := 16) hk (rfl) dX2_takeWishes_16 (fun st3 => ?_)
    refine j_iconst (pc := 19) hk dX2_takeWishes_19 (v := 0) (by decide) ?_
    refine j_istore_n (lv' := ((2, .int (0 : Int32)) :: [(0, fk_r g 44), (1, fk_r g o1)])) (pc := 20) hk rfl (by decide) rfl dX2_takeWishes_20 ?_
    refine j_sub hk (lv' := [(0, fk_r g 44), (1, fk_r g o1), (2, .int (0 : Int32))]) [1, 2, 0] rfl ?_
    exact j_sub hk [0, 1, 2] rfl (L2_takeWishes_21 o1 ho1 hk fk_fuel (0 : Int32) st3)
  · refine j_iconst (pc := 9) hk dX2_takeWishes_9 (v := 0) (by decide) ?_
    exact j_zret (pc := 10) hk rfl dX2_takeWishes_10
theorem dX2_bringsOf_0 : decode cX2_bringsOf 0 = .ok (.iload_n 1, 1) := by decide +kernel
theorem dX2_bringsOf_1 : decode cX2_bringsOf 1 = .ok (.ifCond .lt 19, 3) := by decide +kernel
theorem dX2_bringsOf_4 : decode cX2_bringsOf 4 = .ok (.iload_n 1, 1) := by decide +kernel
theorem dX2_bringsOf_5 : decode cX2_bringsOf 5 = .ok (.aload_n 0, 1) := by decide +kernel
theorem dX2_bringsOf_6 : decode cX2_bringsOf 6 = .ok (.getfield 25, 3) := by decide +kernel
theorem dX2_bringsOf_9 : decode cX2_bringsOf 9 = .ok (.arraylength, 1) := by decide +kernel
theorem dX2_bringsOf_10 : decode cX2_bringsOf 10 = .ok (.if_icmp .ge 10, 3) := by decide +kernel
theorem dX2_bringsOf_13 : decode cX2_bringsOf 13 = .ok (.aload_n 0, 1) := by decide +kernel
theorem dX2_bringsOf_14 : decode cX2_bringsOf 14 = .ok (.getfield 25, 3) := by decide +kernel
theorem dX2_bringsOf_17 : decode cX2_bringsOf 17 = .ok (.iload_n 1, 1) := by decide +kernel
theorem dX2_bringsOf_18 : decode cX2_bringsOf 18 = .ok (.iload_n 2, 1) := by decide +kernel
theorem dX2_bringsOf_19 : decode cX2_bringsOf 19 = .ok (.iastore, 1) := by decide +kernel
theorem dX2_bringsOf_20 : decode cX2_bringsOf 20 = .ok (.return_, 1) := by decide +kernel
def F2_bringsOf (p1 : Int32) (p2 : Int32) (st : fkS) : Option (Unit × fkS) :=
 if p1 < 0 then
 (some ((), st))
 else
 (if (7 : Int32) ≤ p1 then
 (some ((), st))
 else
 (fk_chk (fk_in p1 7) <| fk_let (sA st 47 p1.toNatClampNeg p2) <| fun st1 =>
 some ((), st1)))
set_option maxHeartbeats 1000000 in
set_option maxRecDepth 20000 in
theorem C2_bringsOf (p1 : Int32) (p2 : Int32) (st : fkS) {g : fkG} (l : Launch) (o : Unit × fkS) (hF : F2_bringsOf p1 p2 st = some o) : fk_C wC yX2_bringsOf cX2_bringsOf 3 none 0 0 l g [fk_r g 44, .int p1, .int p2] st (fk_eU o.1) o.2 := by
  refine fk_begin rfl (Nat.le_of_ble_eq_true rfl) (fun k hk => ?_) o hF
  have hk : fk_ok wC g k RX2 cX2_bringsOf 3 none 0 0 := hk
  show fk_J wC g fk_eU k 0 [(0, fk_r g 44), (1, .int p1), (2, .int p2)] [] st (F2_bringsOf p1 p2 st)
  unfold F2_bringsOf
  refine j_iload_n (pc := 0) hk 1 rfl dX2_bringsOf_0 ?_
  refine j_if_lt (tgt := 20) (pc := 1) hk (by decide) dX2_bringsOf_1 (fun _ => ?_) (fun _ => ?_)
  · exact j_vret (pc := 20) hk dX2_bringsOf_20
  · refine j_iload_n (pc := 4) hk 1 rfl dX2_bringsOf_4 ?_
    refine j_aload_n (pc := 5) hk 0 rfl ⟨_, rfl⟩ dX2_bringsOf_5 ?_
    refine f_2_25 (pc := 6) hk (rfl) dX2_bringsOf_6 ?_
    refine a_ilen (pc := 9) hk (isI_2_4 (rfl)) (v := 7) (by decide) dX2_bringsOf_9 ?_
    refine j_icmp_ge (tgt := 20) (pc := 10) hk (by decide) dX2_bringsOf_10 (fun _ => ?_) (fun _ => ?_)
    · exact j_vret (pc := 20) hk dX2_bringsOf_20
    · refine j_aload_n (pc := 13) hk 0 rfl ⟨_, rfl⟩ dX2_bringsOf_13 ?_
      refine f_2_25 (pc := 14) hk (rfl) dX2_bringsOf_14 ?_
      refine j_iload_n (pc := 17) hk 1 rfl dX2_bringsOf_17 ?_
      refine j_iload_n (pc := 18) hk 2 rfl dX2_bringsOf_18 ?_
      refine a_istore (pc := 19) hk (isI_2_4 (rfl)) dX2_bringsOf_19 (fun st1 => ?_)
      exact j_vret (pc := 20) hk dX2_bringsOf_20
theorem dX2_firstLeft_0 : decode cX2_firstLeft 0 = .ok (.iconst 0, 1) := by decide +kernel
theorem dX2_firstLeft_1 : decode cX2_firstLeft 1 = .ok (.istore_n 3, 1) := by decide +kernel
theorem dX2_firstLeft_2 : decode cX2_firstLeft 2 = .ok (.iload_n 3, 1) := by decide +kernel
theorem dX2_firstLeft_3 : decode cX2_firstLeft 3 = .ok (.iload_n 2, 1) := by decide +kernel
theorem dX2_firstLeft_4 : decode cX2_firstLeft 4 = .ok (.if_icmp .ge 30, 3) := by decide +kernel
theorem dX2_firstLeft_7 : decode cX2_firstLeft 7 = .ok (.iload_n 3, 1) := by decide +kernel
theorem dX2_firstLeft_8 : decode cX2_firstLeft 8 = .ok (.aload_n 0, 1) := by decide +kernel
theorem dX2_firstLeft_9 : decode cX2_firstLeft 9 = .ok (.getfield 25, 3) := by decide +kernel
theorem dX2_firstLeft_12 : decode cX2_firstLeft 12 = .ok (.arraylength, 1) := by decide +kernel
theorem dX2_firstLeft_13 : decode cX2_firstLeft 13 = .ok (.if_icmp .ge 21, 3) := by decide +kernel
theorem dX2_firstLeft_16 : decode cX2_firstLeft 16 = .ok (.aload_n 0, 1) := by decide +kernel
theorem dX2_firstLeft_17 : decode cX2_firstLeft 17 = .ok (.getfield 25, 3) := by decide +kernel
theorem dX2_firstLeft_20 : decode cX2_firstLeft 20 = .ok (.iload_n 3, 1) := by decide +kernel
theorem dX2_firstLeft_21 : decode cX2_firstLeft 21 = .ok (.iaload, 1) := by decide +kernel
theorem dX2_firstLeft_22 : decode cX2_firstLeft 22 = .ok (.iload_n 1, 1) := by decide +kernel
theorem dX2_firstLeft_23 : decode cX2_firstLeft 23 = .ok (.if_icmp .ne 5, 3) := by decide +kernel
theorem dX2_firstLeft_26 : decode cX2_firstLeft 26 = .ok (.iload_n 3, 1) := by decide +kernel
theorem dX2_firstLeft_27 : decode cX2_firstLeft 27 = .ok (.ireturn, 1) := by decide +kernel
theorem dX2_firstLeft_28 : decode cX2_firstLeft 28 = .ok (.iinc 3 1, 3) := by decide +kernel
theorem dX2_firstLeft_31 : decode cX2_firstLeft 31 = .ok (.goto (-29), 3) := by decide +kernel
theorem dX2_firstLeft_34 : decode cX2_firstLeft 34 = .ok (.iconst (-1), 1) := by decide +kernel
theorem dX2_firstLeft_35 : decode cX2_firstLeft 35 = .ok (.ireturn, 1) := by decide +kernel
def B2_firstLeft_2 (k2 : Int32 → Int32 → Int32 → fkS → Option (Int32 × fkS)) (v1 : Int32) (v2 : Int32) (v3 : Int32) (st : fkS) : Option (Int32 × fkS) :=
 if v2 ≤ v3 then
 (some ((-1 : Int32), st))
 else
 (if (7 : Int32) ≤ v3 then
 (some ((-1 : Int32), st))
 else
 (fk_chk (fk_in v3 7) <| fk_let (gA st 47 v3.toNatClampNeg) <| fun x1 =>
 if x1 = v1 then
 (some (v3, st))
 else
 (k2 v1 v2 (v3 + (1 : Int32)) st)))
set_option maxHeartbeats 1000000 in
set_option maxRecDepth 20000 in
theorem T2_firstLeft_2 {g : fkG} {k : fkK} (hk : fk_ok wC g k RX2 cX2_firstLeft 4 (some (.int)) 0 0) (k2 : Int32 → Int32 → Int32 → fkS → Option (Int32 × fkS)) (H2 : ∀ (v1 : Int32) (v2 : Int32) (v3 : Int32) (st : fkS), fk_J wC g fk_eI k 2 [(0, fk_r g 44), (1, .int v1), (2, .int v2), (3, .int v3)] [] st (k2 v1 v2 v3 st)) : ∀ (v1 : Int32) (v2 : Int32) (v3 : Int32) (st : fkS), fk_J wC g fk_eI k 2 [(0, fk_r g 44), (1, .int v1), (2, .int v2), (3, .int v3)] [] st (B2_firstLeft_2 k2 v1 v2 v3 st) := by
  intro v1 v2 v3 st
  unfold B2_firstLeft_2
  refine j_iload_n (pc := 2) hk 3 rfl dX2_firstLeft_2 ?_
  refine j_iload_n (pc := 3) hk 2 rfl dX2_firstLeft_3 ?_
  refine j_icmp_ge (tgt := 34) (pc := 4) hk (by decide) dX2_firstLeft_4 (fun _ => ?_) (fun _ => ?_)
  · refine j_iconst (pc := 34) hk dX2_firstLeft_34 (v := -1) (by decide) ?_
    exact j_iret (pc := 35) hk dX2_firstLeft_35
  · refine j_iload_n (pc := 7) hk 3 rfl dX2_firstLeft_7 ?_
    refine j_aload_n (pc := 8) hk 0 rfl ⟨_, rfl⟩ dX2_firstLeft_8 ?_
    refine f_2_25 (pc := 9) hk (rfl) dX2_firstLeft_9 ?_
    refine a_ilen (pc := 12) hk (isI_2_4 (rfl)) (v := 7) (by decide) dX2_firstLeft_12 ?_
    refine j_icmp_ge (tgt := 34) (pc := 13) hk (by decide) dX2_firstLeft_13 (fun _ => ?_) (fun _ => ?_)
    · refine j_iconst (pc := 34) hk dX2_firstLeft_34 (v := -1) (by decide) ?_
      exact j_iret (pc := 35) hk dX2_firstLeft_35
    · refine j_aload_n (pc := 16) hk 0 rfl ⟨_, rfl⟩ dX2_firstLeft_16 ?_
      refine f_2_25 (pc := 17) hk (rfl) dX2_firstLeft_17 ?_
      refine j_iload_n (pc := 20) hk 3 rfl dX2_firstLeft_20 ?_
      refine a_iload (pc := 21) hk (isI_2_4 (rfl)) dX2_firstLeft_21 (fun x1 => ?_)
      refine j_iload_n (pc := 22) hk 1 rfl dX2_firstLeft_22 ?_
      refine j_icmp_ne (tgt := 28) (pc := 23) hk (by decide) dX2_firstLeft_23 (fun _ => ?_) (fun _ => ?_)
      · refine j_iload_n (pc := 26) hk 3 rfl dX2_firstLeft_26 ?_
        exact j_iret (pc := 27) hk dX2_firstLeft_27
      · refine j_iinc (dd := (1 : Int32)) (lv' := ((3, .int (v3 + (1 : Int32))) :: [(0, fk_r g 44), (1, .int v1), (2, .int v2)])) (pc := 28) hk 3 rfl (by decide) (by decide) rfl dX2_firstLeft_28 ?_
        refine j_sub hk (lv' := [(0, fk_r g 44), (1, .int v1), (2, .int v2), (3, .int (v3 + (1 : Int32)))]) [1, 2, 3, 0] rfl ?_
        refine j_goto (tgt := 2) (pc := 31) hk (by decide) dX2_firstLeft_31 ?_
        exact j_sub hk [0, 1, 2, 3] rfl (H2 v1 v2 (v3 + (1 : Int32)) st)
set_option maxHeartbeats 1000000 in
set_option maxRecDepth 20000 in
theorem L2_firstLeft_2 {g : fkG} {k : fkK} (hk : fk_ok wC g k RX2 cX2_firstLeft 4 (some (.int)) 0 0) (fu : Nat) : ∀ (v1 : Int32) (v2 : Int32) (v3 : Int32) (st : fkS), fk_J wC g fk_eI k 2 [(0, fk_r g 44), (1, .int v1), (2, .int v2), (3, .int v3)] [] st (fk_lp3 (B2_firstLeft_2) fu v1 v2 v3 st) := by
  induction fu with
  | zero =>
    intro v1 v2 v3 st
    exact j_none hk
  | succ fu ih =>
    exact T2_firstLeft_2 hk _ ih
def F2_firstLeft (p1 : Int32) (p2 : Int32) (st : fkS) : Option (Int32 × fkS) :=
 fk_lp3 (B2_firstLeft_2) fk_fuel p1 p2 (0 : Int32) st
set_option maxHeartbeats 1000000 in
set_option maxRecDepth 20000 in
theorem C2_firstLeft (p1 : Int32) (p2 : Int32) (st : fkS) {g : fkG} (l : Launch) (o : Int32 × fkS) (hF : F2_firstLeft p1 p2 st = some o) : fk_C wC yX2_firstLeft cX2_firstLeft 4 (some (.int)) 0 0 l g [fk_r g 44, .int p1, .int p2] st (fk_eI o.1) o.2 := by
  refine fk_begin rfl (Nat.le_of_ble_eq_true rfl) (fun k hk => ?_) o hF
  have hk : fk_ok wC g k RX2 cX2_firstLeft 4 (some (.int)) 0 0 := hk
  show fk_J wC g fk_eI k 0 [(0, fk_r g 44), (1, .int p1), (2, .int p2)] [] st (F2_firstLeft p1 p2 st)
  unfold F2_firstLeft
  refine j_iconst (pc := 0) hk dX2_firstLeft_0 (v := 0) (by decide) ?_
  refine j_istore_n (lv' := ((3, .int (0 : Int32)) :: [(0, fk_r g 44), (1, .int p1), (2, .int p2)])) (pc := 1) hk rfl (by decide) rfl dX2_firstLeft_1 ?_
  refine j_sub hk (lv' := [(0, fk_r g 44), (1, .int p1), (2, .int p2), (3, .int (0 : Int32))]) [1, 2, 3, 0] rfl ?_
  exact j_sub hk [0, 1, 2, 3] rfl (L2_firstLeft_2 hk fk_fuel p1 p2 (0 : Int32) st)
theorem dX2_part_0 : decode cX2_part 0 = .ok (.aload_n 0, 1) := by decide +kernel
theorem dX2_part_1 : decode cX2_part 1 = .ok (.iconst 0, 1) := by decide +kernel
theorem dX2_part_2 : decode cX2_part 2 = .ok (.putfield 15, 3) := by decide +kernel
theorem dX2_part_5 : decode cX2_part 5 = .ok (.iconst 0, 1) := by decide +kernel
theorem dX2_part_6 : decode cX2_part 6 = .ok (.istore_n 2, 1) := by decide +kernel
theorem dX2_part_7 : decode cX2_part 7 = .ok (.iload_n 2, 1) := by decide +kernel
theorem dX2_part_8 : decode cX2_part 8 = .ok (.aload_n 0, 1) := by decide +kernel
theorem dX2_part_9 : decode cX2_part 9 = .ok (.getfield 9, 3) := by decide +kernel
theorem dX2_part_12 : decode cX2_part 12 = .ok (.if_icmp .ge 67, 3) := by decide +kernel
theorem dX2_part_15 : decode cX2_part 15 = .ok (.iload_n 2, 1) := by decide +kernel
theorem dX2_part_16 : decode cX2_part 16 = .ok (.aload_n 0, 1) := by decide +kernel
theorem dX2_part_17 : decode cX2_part 17 = .ok (.getfield 22, 3) := by decide +kernel
theorem dX2_part_20 : decode cX2_part 20 = .ok (.arraylength, 1) := by decide +kernel
theorem dX2_part_21 : decode cX2_part 21 = .ok (.if_icmp .ge 58, 3) := by decide +kernel
theorem dX2_part_24 : decode cX2_part 24 = .ok (.aload_n 0, 1) := by decide +kernel
theorem dX2_part_25 : decode cX2_part 25 = .ok (.getfield 22, 3) := by decide +kernel
theorem dX2_part_28 : decode cX2_part 28 = .ok (.iload_n 2, 1) := by decide +kernel
theorem dX2_part_29 : decode cX2_part 29 = .ok (.aload_n 0, 1) := by decide +kernel
theorem dX2_part_30 : decode cX2_part 30 = .ok (.aload_n 0, 1) := by decide +kernel
theorem dX2_part_31 : decode cX2_part 31 = .ok (.getfield 18, 3) := by decide +kernel
theorem dX2_part_34 : decode cX2_part 34 = .ok (.iload_n 2, 1) := by decide +kernel
theorem dX2_part_35 : decode cX2_part 35 = .ok (.iaload, 1) := by decide +kernel
theorem dX2_part_36 : decode cX2_part 36 = .ok (.iload_n 1, 1) := by decide +kernel
theorem dX2_part_37 : decode cX2_part 37 = .ok (.invokevirtual 37, 3) := by decide +kernel
theorem dX2_part_40 : decode cX2_part 40 = .ok (.iastore, 1) := by decide +kernel
theorem dX2_part_41 : decode cX2_part 41 = .ok (.aload_n 0, 1) := by decide +kernel
theorem dX2_part_42 : decode cX2_part 42 = .ok (.getfield 22, 3) := by decide +kernel
theorem dX2_part_45 : decode cX2_part 45 = .ok (.iload_n 2, 1) := by decide +kernel
theorem dX2_part_46 : decode cX2_part 46 = .ok (.iaload, 1) := by decide +kernel
theorem dX2_part_47 : decode cX2_part 47 = .ok (.iconst (-1), 1) := by decide +kernel
theorem dX2_part_48 : decode cX2_part 48 = .ok (.if_icmp .eq 25, 3) := by decide +kernel
theorem dX2_part_51 : decode cX2_part 51 = .ok (.aload_n 0, 1) := by decide +kernel
theorem dX2_part_52 : decode cX2_part 52 = .ok (.dup, 1) := by decide +kernel
theorem dX2_part_53 : decode cX2_part 53 = .ok (.getfield 15, 3) := by decide +kernel
theorem dX2_part_56 : decode cX2_part 56 = .ok (.iconst 1, 1) := by decide +kernel
theorem dX2_part_57 : decode cX2_part 57 = .ok (.iadd, 1) := by decide +kernel
theorem dX2_part_58 : decode cX2_part 58 = .ok (.putfield 15, 3) := by decide +kernel
theorem dX2_part_61 : decode cX2_part 61 = .ok (.aload_n 0, 1) := by decide +kernel
theorem dX2_part_62 : decode cX2_part 62 = .ok (.getfield 25, 3) := by decide +kernel
theorem dX2_part_65 : decode cX2_part 65 = .ok (.aload_n 0, 1) := by decide +kernel
theorem dX2_part_66 : decode cX2_part 66 = .ok (.getfield 22, 3) := by decide +kernel
theorem dX2_part_69 : decode cX2_part 69 = .ok (.iload_n 2, 1) := by decide +kernel
theorem dX2_part_70 : decode cX2_part 70 = .ok (.iaload, 1) := by decide +kernel
theorem dX2_part_71 : decode cX2_part 71 = .ok (.iconst (-1), 1) := by decide +kernel
theorem dX2_part_72 : decode cX2_part 72 = .ok (.iastore, 1) := by decide +kernel
theorem dX2_part_73 : decode cX2_part 73 = .ok (.iinc 2 1, 3) := by decide +kernel
theorem dX2_part_76 : decode cX2_part 76 = .ok (.goto (-69), 3) := by decide +kernel
theorem dX2_part_79 : decode cX2_part 79 = .ok (.return_, 1) := by decide +kernel
def B2_part_73 (k7 : Int32 → Int32 → fkS → Option (Unit × fkS)) (v1 : Int32) (v2 : Int32) (st : fkS) : Option (Unit × fkS) :=
 k7 v1 (v2 + (1 : Int32)) st
set_option maxHeartbeats 1000000 in
set_option maxRecDepth 20000 in
theorem T2_part_73 {g : fkG} {k : fkK} (hk : fk_ok wC g k RX2 cX2_part 3 none 1 23) (k7 : Int32 → Int32 → fkS → Option (Unit × fkS)) (H7 : ∀ (v1 : Int32) (v2 : Int32) (st : fkS), fk_J wC g fk_eU k 7 [(0, fk_r g 44), (1, .int v1), (2, .int v2)] [] st (k7 v1 v2 st)) : ∀ (v1 : Int32) (v2 : Int32) (st : fkS), fk_J wC g fk_eU k 73 [(0, fk_r g 44), (1, .int v1), (2, .int v2)] [] st (B2_part_73 k7 v1 v2 st) := by
  intro v1 v2 st
  unfold B2_part_73
  refine j_iinc (dd := (1 : Int32)) (lv' := ((2, .int (v2 + (1 : Int32))) :: [(0, fk_r g 44), (1, .int v1)])) (pc := 73) hk 2 rfl (by decide) (by decide) rfl dX2_part_73 ?_
  refine j_sub hk (lv' := [(0, fk_r g 44), (1, .int v1), (2, .int (v2 + (1 : Int32)))]) [1, 2, 0] rfl ?_
  refine j_goto (tgt := 7) (pc := 76) hk (by decide) dX2_part_76 ?_
  exact j_sub hk [0, 1, 2] rfl (H7 v1 (v2 + (1 : Int32)) st)
def B2_part_7 (k7 : Int32 → Int32 → fkS → Option (Unit × fkS)) (v1 : Int32) (v2 : Int32) (st : fkS) : Option (Unit × fkS) :=
 fk_let (gI st 40 44) <| fun x2 =>
 if x2 ≤ v2 then
 (some ((), st))
 else
 (if (7 : Int32) ≤ v2 then
 (some ((), st))
 else
 (fk_chk (fk_in v2 7) <| fk_let (gA st 45 v2.toNatClampNeg) <| fun x3 =>
 fk_bind (F2_firstLeft x3 v1 st) <| fun x4 st5 =>
 fk_chk (fk_in v2 7) <| fk_let (sA st5 46 v2.toNatClampNeg x4) <| fun st6 =>
 fk_chk (fk_in v2 7) <| fk_let (gA st6 46 v2.toNatClampNeg) <| fun x7 =>
 if x7 = (-1 : Int32) then
 (B2_part_73 k7 v1 v2 st6)
 else
 (fk_let (gI st6 41 44) <| fun x8 =>
 fk_let (sI st6 41 44 (x8 + (1 : Int32))) <| fun st9 =>
 fk_chk (fk_in v2 7) <| fk_let (gA st9 46 v2.toNatClampNeg) <| fun x10 =>
 fk_chk (fk_in x10 7) <| fk_let (sA st9 47 x10.toNatClampNeg (-1 : Int32)) <| fun st11 =>
 B2_part_73 k7 v1 v2 st11)))
set_option maxHeartbeats 1000000 in
set_option maxRecDepth 20000 in
theorem T2_part_7 {g : fkG} {k : fkK} (hk : fk_ok wC g k RX2 cX2_part 3 none 1 23) (k7 : Int32 → Int32 → fkS → Option (Unit × fkS)) (H7 : ∀ (v1 : Int32) (v2 : Int32) (st : fkS), fk_J wC g fk_eU k 7 [(0, fk_r g 44), (1, .int v1), (2, .int v2)] [] st (k7 v1 v2 st)) : ∀ (v1 : Int32) (v2 : Int32) (st : fkS), fk_J wC g fk_eU k 7 [(0, fk_r g 44), (1, .int v1), (2, .int v2)] [] st (B2_part_7 k7 v1 v2 st) := by
  intro v1 v2 st
  unfold B2_part_7
  refine j_iload_n (pc := 7) hk 2 rfl dX2_part_7 ?_
  refine j_aload_n (pc := 8) hk 0 rfl ⟨_, rfl⟩ dX2_part_8 ?_
  refine f_2_9 (pc := 9) hk (rfl) dX2_part_9 (fun x2 => ?_)
  refine j_icmp_ge (tgt := 79) (pc := 12) hk (by decide) dX2_part_12 (fun _ => ?_) (fun _ => ?_)
  · exact j_vret (pc := 79) hk dX2_part_79
  · refine j_iload_n (pc := 15) hk 2 rfl dX2_part_15 ?_
    refine j_aload_n (pc := 16) hk 0 rfl ⟨_, rfl⟩ dX2_part_16 ?_
    refine f_2_22 (pc := 17) hk (rfl) dX2_part_17 ?_
    refine a_ilen (pc := 20) hk (isI_2_3 (rfl)) (v := 7) (by decide) dX2_part_20 ?_
    refine j_icmp_ge (tgt := 79) (pc := 21) hk (by decide) dX2_part_21 (fun _ => ?_) (fun _ => ?_)
    · exact j_vret (pc := 79) hk dX2_part_79
    · refine j_aload_n (pc := 24) hk 0 rfl ⟨_, rfl⟩ dX2_part_24 ?_
      refine f_2_22 (pc := 25) hk (rfl) dX2_part_25 ?_
      refine j_iload_n (pc := 28) hk 2 rfl dX2_part_28 ?_
      refine j_aload_n (pc := 29) hk 0 rfl ⟨_, rfl⟩ dX2_part_29 ?_
      refine j_aload_n (pc := 30) hk 0 rfl ⟨_, rfl⟩ dX2_part_30 ?_
      refine f_2_18 (pc := 31) hk (rfl) dX2_part_31 ?_
      refine j_iload_n (pc := 34) hk 2 rfl dX2_part_34 ?_
      refine a_iload (pc := 35) hk (isI_2_2 (rfl)) dX2_part_35 (fun x3 => ?_)
      refine j_iload_n (pc := 36) hk 1 rfl dX2_part_36 ?_
      refine j_callVi (pc := 37) hk [.int x3, .int v1] [.int v2, fk_r g 46] rfl (fun l o hq9 => C2_firstLeft x3 v1 st l o hq9) (rcv_2 (rfl)) yv_X2_firstLeft ml_2_37 rfl (Nat.le_of_ble_eq_true rfl) (Nat.le_of_ble_eq_true rfl) (Nat.le_of_ble_eq_true rfl) dX2_part_37 (fun x4 st5 => ?_)
      refine a_istore (pc := 40) hk (isI_2_3 (rfl)) dX2_part_40 (fun st6 => ?_)
      refine j_aload_n (pc := 41) hk 0 rfl ⟨_, rfl⟩ dX2_part_41 ?_
      refine f_2_22 (pc := 42) hk (rfl) dX2_part_42 ?_
      refine j_iload_n (pc := 45) hk 2 rfl dX2_part_45 ?_
      refine a_iload (pc := 46) hk (isI_2_3 (rfl)) dX2_part_46 (fun x7 => ?_)
      refine j_iconst (pc := 47) hk dX2_part_47 (v := -1) (by decide) ?_
      refine j_icmp_eq (tgt := 73) (pc := 48) hk (by decide) dX2_part_48 (fun _ => ?_) (fun _ => ?_)
      · exact j_sub hk [0, 1, 2] rfl (T2_part_73 hk k7 H7 v1 v2 st6)
      · refine j_aload_n (pc := 51) hk 0 rfl ⟨_, rfl⟩ dX2_part_51 ?_
        refine j_dup (pc := 52) hk rfl dX2_part_52 ?_
        refine f_2_15 (pc := 53) hk (rfl) dX2_part_53 (fun x8 => ?_)
        refine j_iconst (pc := 56) hk dX2_part_56 (v := 1) (by decide) ?_
        refine j_iadd (pc := 57) hk dX2_part_57 ?_
        refine p_2_15 (pc := 58) hk (rfl) dX2_part_58 (fun st9 => ?_)
        refine j_aload_n (pc := 61) hk 0 rfl ⟨_, rfl⟩ dX2_part_61 ?_
        refine f_2_25 (pc := 62) hk (rfl) dX2_part_62 ?_
        refine j_aload_n (pc := 65) hk 0 rfl ⟨_, rfl⟩ dX2_part_65 ?_
        refine f_2_22 (pc := 66) hk (rfl) dX2_part_66 ?_
        refine j_iload_n (pc := 69) hk 2 rfl dX2_part_69 ?_
        refine a_iload (pc := 70) hk (isI_2_3 (rfl)) dX2_part_70 (fun x10 => ?_)
        refine j_iconst (pc := 71) hk dX2_part_71 (v := -1) (by decide) ?_
        refine a_istore (pc := 72) hk (isI_2_4 (rfl)) dX2_part_72 (fun st11 => ?_)
        exact j_sub hk [0, 1, 2] rfl (T2_part_73 hk k7 H7 v1 v2 st11)
set_option maxHeartbeats 1000000 in
set_option maxRecDepth 20000 in
theorem L2_part_7 {g : fkG} {k : fkK} (hk : fk_ok wC g k RX2 cX2_part 3 none 1 23) (fu : Nat) : ∀ (v1 : Int32) (v2 : Int32) (st : fkS), fk_J wC g fk_eU k 7 [(0, fk_r g 44), (1, .int v1), (2, .int v2)] [] st (fk_lp2 (B2_part_7) fu v1 v2 st) := by
  induction fu with
  | zero =>
    intro v1 v2 st
    exact j_none hk
  | succ fu ih =>
    exact T2_part_7 hk _ ih
def F2_part (p1 : Int32) (st : fkS) : Option (Unit × fkS) :=
 fk_let (sI st 41 44 (0 : Int32)) <| fun st1 =>
 fk_lp2 (B2_part_7) fk_fuel p1 (0 : Int32) st1
set_option maxHeartbeats 1000000 in
set_option maxRecDepth 20000 in
theorem C2_part (p1 : Int32) (st : fkS) {g : fkG} (l : Launch) (o : Unit × fkS) (hF : F2_part p1 st = some o) : fk_C wC yX2_part cX2_part 3 none 1 23 l g [fk_r g 44, .int p1] st (fk_eU o.1) o.2 := by
  refine fk_begin rfl (Nat.le_of_ble_eq_true rfl) (fun k hk => ?_) o hF
  have hk : fk_ok wC g k RX2 cX2_part 3 none 1 23 := hk
  show fk_J wC g fk_eU k 0 [(0, fk_r g 44), (1, .int p1)] [] st (F2_part p1 st)
  unfold F2_part
  refine j_aload_n (pc := 0) hk 0 rfl ⟨_, rfl⟩ dX2_part_0 ?_
  refine j_iconst (pc := 1) hk dX2_part_1 (v := 0) (by decide) ?_
  refine p_2_15 (pc := 2) hk (rfl) dX2_part_2 (fun st1 => ?_)
  refine j_iconst (pc := 5) hk dX2_part_5 (v := 0) (by decide) ?_
  refine j_istore_n (lv' := ((2, .int (0 : Int32)) :: [(0, fk_r g 44), (1, .int p1)])) (pc := 6) hk rfl (by decide) rfl dX2_part_6 ?_
  refine j_sub hk (lv' := [(0, fk_r g 44), (1, .int p1), (2, .int (0 : Int32))]) [1, 2, 0] rfl ?_
  exact j_sub hk [0, 1, 2] rfl (L2_part_7 hk fk_fuel p1 (0 : Int32) st1)
theorem dX2_whomHas_0 : decode cX2_whomHas 0 = .ok (.iload_n 1, 1) := by decide +kernel
theorem dX2_whomHas_1 : decode cX2_whomHas 1 = .ok (.ifCond .lt 20, 3) := by decide +kernel
theorem dX2_whomHas_4 : decode cX2_whomHas 4 = .ok (.iload_n 1, 1) := by decide +kernel
theorem dX2_whomHas_5 : decode cX2_whomHas 5 = .ok (.aload_n 0, 1) := by decide +kernel
theorem dX2_whomHas_6 : decode cX2_whomHas 6 = .ok (.getfield 9, 3) := by decide +kernel
theorem dX2_whomHas_9 : decode cX2_whomHas 9 = .ok (.if_icmp .ge 12, 3) := by decide +kernel
theorem dX2_whomHas_12 : decode cX2_whomHas 12 = .ok (.iload_n 1, 1) := by decide +kernel
theorem dX2_whomHas_13 : decode cX2_whomHas 13 = .ok (.aload_n 0, 1) := by decide +kernel
theorem dX2_whomHas_14 : decode cX2_whomHas 14 = .ok (.getfield 22, 3) := by decide +kernel
theorem dX2_whomHas_17 : decode cX2_whomHas 17 = .ok (.arraylength, 1) := by decide +kernel
theorem dX2_whomHas_18 : decode cX2_whomHas 18 = .ok (.if_icmp .lt 7, 3) := by decide +kernel
theorem dX2_whomHas_21 : decode cX2_whomHas 21 = .ok (.iconst (-1), 1) := by decide +kernel
theorem dX2_whomHas_22 : decode cX2_whomHas 22 = .ok (.goto 9, 3) := by decide +kernel
theorem dX2_whomHas_25 : decode cX2_whomHas 25 = .ok (.aload_n 0, 1) := by decide +kernel
theorem dX2_whomHas_26 : decode cX2_whomHas 26 = .ok (.getfield 22, 3) := by decide +kernel
theorem dX2_whomHas_29 : decode cX2_whomHas 29 = .ok (.iload_n 1, 1) := by decide +kernel
theorem dX2_whomHas_30 : decode cX2_whomHas 30 = .ok (.iaload, 1) := by decide +kernel
theorem dX2_whomHas_31 : decode cX2_whomHas 31 = .ok (.ireturn, 1) := by decide +kernel
def F2_whomHas (p1 : Int32) (st : fkS) : Option (Int32 × fkS) :=
 if p1 < 0 then
 (some ((-1 : Int32), st))
 else
 (fk_let (gI st 40 44) <| fun x1 =>
 if x1 ≤ p1 then
 (some ((-1 : Int32), st))
 else
 (if p1 < (7 : Int32) then
 (fk_chk (fk_in p1 7) <| fk_let (gA st 46 p1.toNatClampNeg) <| fun x2 =>
 some (x2, st))
 else
 (some ((-1 : Int32), st))))
set_option maxHeartbeats 1000000 in
set_option maxRecDepth 20000 in
theorem C2_whomHas (p1 : Int32) (st : fkS) {g : fkG} (l : Launch) (o : Int32 × fkS) (hF : F2_whomHas p1 st = some o) : fk_C wC yX2_whomHas cX2_whomHas 2 (some (.int)) 0 0 l g [fk_r g 44, .int p1] st (fk_eI o.1) o.2 := by
  refine fk_begin rfl (Nat.le_of_ble_eq_true rfl) (fun k hk => ?_) o hF
  have hk : fk_ok wC g k RX2 cX2_whomHas 2 (some (.int)) 0 0 := hk
  show fk_J wC g fk_eI k 0 [(0, fk_r g 44), (1, .int p1)] [] st (F2_whomHas p1 st)
  unfold F2_whomHas
  refine j_iload_n (pc := 0) hk 1 rfl dX2_whomHas_0 ?_
  refine j_if_lt (tgt := 21) (pc := 1) hk (by decide) dX2_whomHas_1 (fun _ => ?_) (fun _ => ?_)
  · refine j_iconst (pc := 21) hk dX2_whomHas_21 (v := -1) (by decide) ?_
    refine j_goto (tgt := 31) (pc := 22) hk (by decide) dX2_whomHas_22 ?_
    exact j_iret (pc := 31) hk dX2_whomHas_31
  · refine j_iload_n (pc := 4) hk 1 rfl dX2_whomHas_4 ?_
    refine j_aload_n (pc := 5) hk 0 rfl ⟨_, rfl⟩ dX2_whomHas_5 ?_
    refine f_2_9 (pc := 6) hk (rfl) dX2_whomHas_6 (fun x1 => ?_)
    refine j_icmp_ge (tgt := 21) (pc := 9) hk (by decide) dX2_whomHas_9 (fun _ => ?_) (fun _ => ?_)
    · refine j_iconst (pc := 21) hk dX2_whomHas_21 (v := -1) (by decide) ?_
      refine j_goto (tgt := 31) (pc := 22) hk (by decide) dX2_whomHas_22 ?_
      exact j_iret (pc := 31) hk dX2_whomHas_31
    · refine j_iload_n (pc := 12) hk 1 rfl dX2_whomHas_12 ?_
      refine j_aload_n (pc := 13) hk 0 rfl ⟨_, rfl⟩ dX2_whomHas_13 ?_
      refine f_2_22 (pc := 14) hk (rfl) dX2_whomHas_14 ?_
      refine a_ilen (pc := 17) hk (isI_2_3 (rfl)) (v := 7) (by decide) dX2_whomHas_17 ?_
      refine j_icmp_lt (tgt := 25) (pc := 18) hk (by decide) dX2_whomHas_18 (fun _ => ?_) (fun _ => ?_)
      · refine j_aload_n (pc := 25) hk 0 rfl ⟨_, rfl⟩ dX2_whomHas_25 ?_
        refine f_2_22 (pc := 26) hk (rfl) dX2_whomHas_26 ?_
        refine j_iload_n (pc := 29) hk 1 rfl dX2_whomHas_29 ?_
        refine a_iload (pc := 30) hk (isI_2_3 (rfl)) dX2_whomHas_30 (fun x2 => ?_)
        exact j_iret (pc := 31) hk dX2_whomHas_31
      · refine j_iconst (pc := 21) hk dX2_whomHas_21 (v := -1) (by decide) ?_
        refine j_goto (tgt := 31) (pc := 22) hk (by decide) dX2_whomHas_22 ?_
        exact j_iret (pc := 31) hk dX2_whomHas_31
theorem dX3_take_0 : decode cX3_take 0 = .ok (.aload_n 1, 1) := by decide +kernel
theorem dX3_take_1 : decode cX3_take 1 = .ok (.getfield 19, 3) := by decide +kernel
theorem dX3_take_4 : decode cX3_take 4 = .ok (.bipush 8, 2) := by decide +kernel
theorem dX3_take_6 : decode cX3_take 6 = .ok (.if_icmp .le 5, 3) := by decide +kernel
theorem dX3_take_9 : decode cX3_take 9 = .ok (.iconst 0, 1) := by decide +kernel
theorem dX3_take_10 : decode cX3_take 10 = .ok (.ireturn, 1) := by decide +kernel
theorem dX3_take_11 : decode cX3_take 11 = .ok (.aload_n 0, 1) := by decide +kernel
theorem dX3_take_12 : decode cX3_take 12 = .ok (.aload_n 1, 1) := by decide +kernel
theorem dX3_take_13 : decode cX3_take 13 = .ok (.getfield 19, 3) := by decide +kernel
theorem dX3_take_16 : decode cX3_take 16 = .ok (.putfield 15, 3) := by decide +kernel
theorem dX3_take_19 : decode cX3_take 19 = .ok (.iconst 0, 1) := by decide +kernel
theorem dX3_take_20 : decode cX3_take 20 = .ok (.istore_n 3, 1) := by decide +kernel
theorem dX3_take_21 : decode cX3_take 21 = .ok (.iload_n 3, 1) := by decide +kernel
theorem dX3_take_22 : decode cX3_take 22 = .ok (.aload_n 0, 1) := by decide +kernel
theorem dX3_take_23 : decode cX3_take 23 = .ok (.getfield 15, 3) := by decide +kernel
theorem dX3_take_26 : decode cX3_take 26 = .ok (.if_icmp .ge 48, 3) := by decide +kernel
theorem dX3_take_29 : decode cX3_take 29 = .ok (.iload_n 3, 1) := by decide +kernel
theorem dX3_take_30 : decode cX3_take 30 = .ok (.aload_n 0, 1) := by decide +kernel
theorem dX3_take_31 : decode cX3_take 31 = .ok (.getfield 9, 3) := by decide +kernel
theorem dX3_take_34 : decode cX3_take 34 = .ok (.arraylength, 1) := by decide +kernel
theorem dX3_take_35 : decode cX3_take 35 = .ok (.if_icmp .ge 39, 3) := by decide +kernel
theorem dX3_take_38 : decode cX3_take 38 = .ok (.aload_n 1, 1) := by decide +kernel
theorem dX3_take_39 : decode cX3_take 39 = .ok (.iload_n 3, 1) := by decide +kernel
theorem dX3_take_40 : decode cX3_take 40 = .ok (.invokevirtual 24, 3) := by decide +kernel
theorem dX3_take_43 : decode cX3_take 43 = .ok (.istore 4, 2) := by decide +kernel
theorem dX3_take_45 : decode cX3_take 45 = .ok (.iload 4, 2) := by decide +kernel
theorem dX3_take_47 : decode cX3_take 47 = .ok (.iload_n 2, 1) := by decide +kernel
theorem dX3_take_48 : decode cX3_take 48 = .ok (.if_icmp .lt 10, 3) := by decide +kernel
theorem dX3_take_51 : decode cX3_take 51 = .ok (.iload 4, 2) := by decide +kernel
theorem dX3_take_53 : decode cX3_take 53 = .ok (.bipush 10, 2) := by decide +kernel
theorem dX3_take_55 : decode cX3_take 55 = .ok (.if_icmp .lt 5, 3) := by decide +kernel
theorem dX3_take_58 : decode cX3_take 58 = .ok (.iconst 0, 1) := by decide +kernel
theorem dX3_take_59 : decode cX3_take 59 = .ok (.ireturn, 1) := by decide +kernel
theorem dX3_take_60 : decode cX3_take 60 = .ok (.aload_n 0, 1) := by decide +kernel
theorem dX3_take_61 : decode cX3_take 61 = .ok (.getfield 9, 3) := by decide +kernel
theorem dX3_take_64 : decode cX3_take 64 = .ok (.iload_n 3, 1) := by decide +kernel
theorem dX3_take_65 : decode cX3_take 65 = .ok (.iload 4, 2) := by decide +kernel
theorem dX3_take_67 : decode cX3_take 67 = .ok (.iastore, 1) := by decide +kernel
theorem dX3_take_68 : decode cX3_take 68 = .ok (.iinc 3 1, 3) := by decide +kernel
theorem dX3_take_71 : decode cX3_take 71 = .ok (.goto (-50), 3) := by decide +kernel
theorem dX3_take_74 : decode cX3_take 74 = .ok (.iconst 1, 1) := by decide +kernel
theorem dX3_take_75 : decode cX3_take 75 = .ok (.ireturn, 1) := by decide +kernel
def B3_take_21 (o1 : Nat) (k21 : Int32 → Int32 → fkS → Option (Int32 × fkS)) (v2 : Int32) (v3 : Int32) (st : fkS) : Option (Int32 × fkS) :=
 fk_let (gI st 61 38) <| fun x4 =>
 if x4 ≤ v3 then
 (some ((1 : Int32), st))
 else
 (if (8 : Int32) ≤ v3 then
 (some ((1 : Int32), st))
 else
 (fk_bind (F5_number o1 v3 st) <| fun x5 st6 =>
 if x5 < v2 then
 (some ((0 : Int32), st6))
 else
 (if x5 < (10 : Int32) then
 (fk_chk (fk_in v3 8) <| fk_let (sA st6 39 v3.toNatClampNeg x5) <| fun st7 =>
 k21 v2 (v3 + (1 : Int32)) st7)
 else
 (some ((0 : Int32), st6)))))
set_option maxHeartbeats 1000000 in
set_option maxRecDepth 20000 in
theorem T3_take_21 {g : fkG} {k : fkK} (o1 : Nat) (ho1 : kdC o1 = 5) (hk : fk_ok wC g k RX3 cX3_take 5 (some (.boolean)) 2 42) (k21 : Int32 → Int32 → fkS → Option (Int32 × fkS)) (H21 : ∀ (v2 : Int32) (v3 : Int32) (st : fkS), fk_J wC g fk_eI k 21 [(0, fk_r g 38), (1, fk_r g o1), (2, .int v2), (3, .int v3)] [] st (k21 v2 v3 st)) : ∀ (v2 : Int32) (v3 : Int32) (st : fkS), fk_J wC g fk_eI k 21 [(0, fk_r g 38), (1, fk_r g o1), (2, .int v2), (3, .int v3)] [] st (B3_take_21 o1 k21 v2 v3 st) := by
  intro v2 v3 st
  unfold B3_take_21
  refine j_iload_n (pc := 21) hk 3 rfl dX3_take_21 ?_
  refine j_aload_n (pc := 22) hk 0 rfl ⟨_, rfl⟩ dX3_take_22 ?_
  refine f_3_15 (pc := 23) hk (rfl) dX3_take_23 (fun x4 => ?_)
  refine j_icmp_ge (tgt := 74) (pc := 26) hk (by decide) dX3_take_26 (fun _ => ?_) (fun _ => ?_)
  · refine j_iconst (pc := 74) hk dX3_take_74 (v := 1) (by decide) ?_
    exact j_zret (pc := 75) hk rfl dX3_take_75
  · refine j_iload_n (pc := 29) hk 3 rfl dX3_take_29 ?_
    refine j_aload_n (pc := 30) hk 0 rfl ⟨_, rfl⟩ dX3_take_30 ?_
    refine f_3_9 (pc := 31) hk (rfl) dX3_take_31 ?_
    refine a_ilen (pc := 34) hk (isI_3_0 (rfl)) (v := 8) (by decide) dX3_take_34 ?_
    refine j_icmp_ge (tgt := 74) (pc := 35) hk (by decide) dX3_take_35 (fun _ => ?_) (fun _ => ?_)
    · refine j_iconst (pc := 74) hk dX3_take_74 (v := 1) (by decide) ?_
      exact j_zret (pc := 75) hk rfl dX3_take_75
    · refine j_aload_n (pc := 38) hk 1 rfl ⟨_, rfl⟩ dX3_take_38 ?_
      refine j_iload_n (pc := 39) hk 3 rfl dX3_take_39 ?_
      refine j_callVNi (pc := 40) hk [.int v3] [] rfl (fun l o hq9 => C5_number o1 (ho1) v3 st l o hq9) (rcv_5 (ho1)) yv_X5_number ml_3_24 rfl (Nat.le_of_ble_eq_true rfl) (Nat.le_of_ble_eq_true rfl) (Nat.le_of_ble_eq_true rfl) dX3_take_40 (fun x5 st6 => ?_)
      refine j_istore (lv' := ((4, .int x5) :: [(0, fk_r g 38), (1, fk_r g o1), (2, .int v2), (3, .int v3)])) (pc := 43) hk (by decide) rfl dX3_take_43 ?_
      refine j_sub hk (lv' := [(0, fk_r g 38), (1, fk_r g o1), (2, .int v2), (3, .int v3), (4, .int x5)]) [1, 2, 3, 4, 0] rfl ?_
      refine j_iload (pc := 45) hk 4 rfl dX3_take_45 ?_
      refine j_iload_n (pc := 47) hk 2 rfl dX3_take_47 ?_
      refine j_icmp_lt (tgt := 58) (pc := 48) hk (by decide) dX3_take_48 (fun _ => ?_) (fun _ => ?_)
      · refine j_iconst (pc := 58) hk dX3_take_58 (v := 0) (by decide) ?_
        exact j_zret (pc := 59) hk rfl dX3_take_59
      · refine j_iload (pc := 51) hk 4 rfl dX3_take_51 ?_
        refine j_bipush (pc := 53) hk dX3_take_53 (v := 10) (by decide) ?_
        refine j_icmp_lt (tgt := 60) (pc := 55) hk (by decide) dX3_take_55 (fun _ => ?_) (fun _ => ?_)
        · refine j_aload_n (pc := 60) hk 0 rfl ⟨_, rfl⟩ dX3_take_60 ?_
          refine f_3_9 (pc := 61) hk (rfl) dX3_take_61 ?_
          refine j_iload_n (pc := 64) hk 3 rfl dX3_take_64 ?_
          refine j_iload (pc := 65) hk 4 rfl dX3_take_65 ?_
          refine a_istore (pc := 67) hk (isI_3_0 (rfl)) dX3_take_67 (fun st7 => ?_)
          refine j_iinc (dd := (1 : Int32)) (lv' := ((3, .int (v3 + (1 : Int32))) :: [(0, fk_r g 38), (1, fk_r g o1), (2, .int v2), (4, .int x5)])) (pc := 68) hk 3 rfl (by decide) (by decide) rfl dX3_take_68 ?_
          refine j_sub hk (lv' := [(0, fk_r g 38), (1, fk_r g o1), (2, .int v2), (3, .int (v3 + (1 : Int32))), (4, .int x5)]) [1, 2, 3, 0, 4] rfl ?_
          refine j_goto (tgt := 21) (pc := 71) hk (by decide) dX3_take_71 ?_
          exact j_sub hk [0, 1, 2, 3] rfl (H21 v2 (v3 + (1 : Int32)) st7)
        · refine j_iconst (pc := 58) hk dX3_take_58 (v := 0) (by decide) ?_
          exact j_zret (pc := 59) hk rfl dX3_take_59
set_option maxHeartbeats 1000000 in
set_option maxRecDepth 20000 in
theorem L3_take_21 {g : fkG} {k : fkK} (o1 : Nat) (ho1 : kdC o1 = 5) (hk : fk_ok wC g k RX3 cX3_take 5 (some (.boolean)) 2 42) (fu : Nat) : ∀ (v2 : Int32) (v3 : Int32) (st : fkS), fk_J wC g fk_eI k 21 [(0, fk_r g 38), (1, fk_r g o1), (2, .int v2), (3, .int v3)] [] st (fk_lp2 (B3_take_21 o1) fu v2 v3 st) := by
  induction fu with
  | zero =>
    intro v2 v3 st
    exact j_none hk
  | succ fu ih =>
    exact T3_take_21 o1 ho1 hk _ ih
def F3_take (o1 : Nat) (p2 : Int32) (st : fkS) : Option (Int32 × fkS) :=
 fk_let (gI st 103 o1) <| fun x1 =>
 if x1 ≤ (8 : Int32) then
 (fk_let (gI st 103 o1) <| fun x2 =>
 fk_let (sI st 61 38 x2) <| fun st3 =>
 fk_lp2 (B3_take_21 o1) fk_fuel p2 (0 : Int32) st3)
 else
 (some ((0 : Int32), st))
set_option maxHeartbeats 1000000 in
set_option maxRecDepth 20000 in
theorem C3_take (o1 : Nat) (ho1 : kdC o1 = 5) (p2 : Int32) (st : fkS) {g : fkG} (l : Launch) (o : Int32 × fkS) (hF : F3_take o1 p2 st = some o) : fk_C wC yX3_take cX3_take 5 (some (.boolean)) 2 42 l g [fk_r g 38, fk_r g o1, .int p2] st (fk_eI o.1) o.2 := by
  refine fk_begin rfl (Nat.le_of_ble_eq_true rfl) (fun k hk => ?_) o hF
  have hk : fk_ok wC g k RX3 cX3_take 5 (some (.boolean)) 2 42 := hk
  show fk_J wC g fk_eI k 0 [(0, fk_r g 38), (1, fk_r g o1), (2, .int p2)] [] st (F3_take o1 p2 st)
  unfold F3_take
  refine j_aload_n (pc := 0) hk 1 rfl ⟨_, rfl⟩ dX3_take_0 ?_
  refine f_3_19 (pc := 1) hk (ho1) dX3_take_1 (fun x1 => ?_)
  refine j_bipush (pc := 4) hk dX3_take_4 (v := 8) (by decide) ?_
  refine j_icmp_le (tgt := 11) (pc := 6) hk (by decide) dX3_take_6 (fun _ => ?_) (fun _ => ?_)
  · refine j_aload_n (pc := 11) hk 0 rfl ⟨_, rfl⟩ dX3_take_11 ?_
    refine j_aload_n (pc := 12) hk 1 rfl ⟨_, rfl⟩ dX3_take_12 ?_
    refine f_3_19 (pc := 13) hk (ho1) dX3_take_13 (fun x2 => ?_)
    refine p_3_15 (pc := 16) hk (rfl) dX3_take_16 (fun st3 => ?_)
    refine j_iconst (pc := 19) hk dX3_take_19 (v := 0) (by decide) ?_
    refine j_istore_n (lv' := ((3, .int (0 : Int32)) :: [(0, fk_r g 38), (1, fk_r g o1), (2, .int p2)])) (pc := 20) hk rfl (by decide) rfl dX3_take_20 ?_
    refine j_sub hk (lv' := [(0, fk_r g 38), (1, fk_r g o1), (2, .int p2), (3, .int (0 : Int32))]) [1, 2, 3, 0] rfl ?_
    exact j_sub hk [0, 1, 2, 3] rfl (L3_take_21 o1 ho1 hk fk_fuel p2 (0 : Int32) st3)
  · refine j_iconst (pc := 9) hk dX3_take_9 (v := 0) (by decide) ?_
    exact j_zret (pc := 10) hk rfl dX3_take_10
theorem dX3_setByNumber_0 : decode cX3_setByNumber 0 = .ok (.aload_n 0, 1) := by decide +kernel
theorem dX3_setByNumber_1 : decode cX3_setByNumber 1 = .ok (.iconst 0, 1) := by decide +kernel
theorem dX3_setByNumber_2 : decode cX3_setByNumber 2 = .ok (.iload_n 1, 1) := by decide +kernel
theorem dX3_setByNumber_3 : decode cX3_setByNumber 3 = .ok (.aload_n 0, 1) := by decide +kernel
theorem dX3_setByNumber_4 : decode cX3_setByNumber 4 = .ok (.getfield 9, 3) := by decide +kernel
theorem dX3_setByNumber_7 : decode cX3_setByNumber 7 = .ok (.arraylength, 1) := by decide +kernel
theorem dX3_setByNumber_8 : decode cX3_setByNumber 8 = .ok (.invokestatic 28, 3) := by decide +kernel
theorem dX3_setByNumber_11 : decode cX3_setByNumber 11 = .ok (.invokestatic 34, 3) := by decide +kernel
theorem dX3_setByNumber_14 : decode cX3_setByNumber 14 = .ok (.putfield 15, 3) := by decide +kernel
theorem dX3_setByNumber_17 : decode cX3_setByNumber 17 = .ok (.iload_n 2, 1) := by decide +kernel
theorem dX3_setByNumber_18 : decode cX3_setByNumber 18 = .ok (.istore_n 3, 1) := by decide +kernel
theorem dX3_setByNumber_19 : decode cX3_setByNumber 19 = .ok (.aload_n 0, 1) := by decide +kernel
theorem dX3_setByNumber_20 : decode cX3_setByNumber 20 = .ok (.getfield 15, 3) := by decide +kernel
theorem dX3_setByNumber_23 : decode cX3_setByNumber 23 = .ok (.iconst 1, 1) := by decide +kernel
theorem dX3_setByNumber_24 : decode cX3_setByNumber 24 = .ok (.isub, 1) := by decide +kernel
theorem dX3_setByNumber_25 : decode cX3_setByNumber 25 = .ok (.istore 4, 2) := by decide +kernel
theorem dX3_setByNumber_27 : decode cX3_setByNumber 27 = .ok (.iload 4, 2) := by decide +kernel
theorem dX3_setByNumber_29 : decode cX3_setByNumber 29 = .ok (.ifCond .lt 25, 3) := by decide +kernel
theorem dX3_setByNumber_32 : decode cX3_setByNumber 32 = .ok (.aload_n 0, 1) := by decide +kernel
theorem dX3_setByNumber_33 : decode cX3_setByNumber 33 = .ok (.getfield 9, 3) := by decide +kernel
theorem dX3_setByNumber_36 : decode cX3_setByNumber 36 = .ok (.iload 4, 2) := by decide +kernel
theorem dX3_setByNumber_38 : decode cX3_setByNumber 38 = .ok (.iload_n 3, 1) := by decide +kernel
theorem dX3_setByNumber_39 : decode cX3_setByNumber 39 = .ok (.bipush 10, 2) := by decide +kernel
theorem dX3_setByNumber_41 : decode cX3_setByNumber 41 = .ok (.irem, 1) := by decide +kernel
theorem dX3_setByNumber_42 : decode cX3_setByNumber 42 = .ok (.iastore, 1) := by decide +kernel
theorem dX3_setByNumber_43 : decode cX3_setByNumber 43 = .ok (.iload_n 3, 1) := by decide +kernel
theorem dX3_setByNumber_44 : decode cX3_setByNumber 44 = .ok (.bipush 10, 2) := by decide +kernel
theorem dX3_setByNumber_46 : decode cX3_setByNumber 46 = .ok (.idiv, 1) := by decide +kernel
theorem dX3_setByNumber_47 : decode cX3_setByNumber 47 = .ok (.istore_n 3, 1) := by decide +kernel
theorem dX3_setByNumber_48 : decode cX3_setByNumber 48 = .ok (.iinc 4 (-1), 3) := by decide +kernel
theorem dX3_setByNumber_51 : decode cX3_setByNumber 51 = .ok (.goto (-24), 3) := by decide +kernel
theorem dX3_setByNumber_54 : decode cX3_setByNumber 54 = .ok (.return_, 1) := by decide +kernel
def B3_setByNumber_27 (k27 : Int32 → Int32 → fkS → Option (Unit × fkS)) (v3 : Int32) (v4 : Int32) (st : fkS) : Option (Unit × fkS) :=
 if v4 < 0 then
 (some ((), st))
 else
 (fk_chk (fk_in v4 8) <| fk_let (sA st 39 v4.toNatClampNeg (fk_rem v3 (10 : Int32))) <| fun st3 =>
 k27 (v3 / (10 : Int32)) (v4 + (-1 : Int32)) st3)
set_option maxHeartbeats 1000000 in
set_option maxRecDepth 20000 in
theorem T3_setByNumber_27 {g : fkG} {k : fkK} (hk : fk_ok wC g k RX3 cX3_setByNumber 5 none 1 100) (k27 : Int32 → Int32 → fkS → Option (Unit × fkS)) (H27 : ∀ (v3 : Int32) (v4 : Int32) (st : fkS), fk_J wC g fk_eU k 27 [(0, fk_r g 38), (3, .int v3), (4, .int v4)] [] st (k27 v3 v4 st)) : ∀ (v3 : Int32) (v4 : Int32) (st : fkS), fk_J wC g fk_eU k 27 [(0, fk_r g 38), (3, .int v3), (4, .int v4)] [] st (B3_setByNumber_27 k27 v3 v4 st) := by
  intro v3 v4 st
  unfold B3_setByNumber_27
  refine j_iload (pc := 27) hk 2 rfl dX3_setByNumber_27 ?_
  refine j_if_lt (tgt := 54) (pc := 29) hk (by decide) dX3_setByNumber_29 (fun _ => ?_) (fun _ => ?_)
  · exact j_vret (pc := 54) hk dX3_setByNumber_54
  · refine j_aload_n (pc := 32) hk 0 rfl ⟨_, rfl⟩ dX3_setByNumber_32 ?_
    refine f_3_9 (pc := 33) hk (rfl) dX3_setByNumber_33 ?_
    refine j_iload (pc := 36) hk 2 rfl dX3_setByNumber_36 ?_
    refine j_iload_n (pc := 38) hk 1 rfl dX3_setByNumber_38 ?_
    refine j_bipush (pc := 39) hk dX3_setByNumber_39 (v := 10) (by decide) ?_
    refine j_irem (pc := 41) hk (show fk_nz (10 : Int32) = true from by decide) dX3_setByNumber_41 ?_
    refine a_istore (pc := 42) hk (isI_3_0 (rfl)) dX3_setByNumber_42 (fun st3 => ?_)
    refine j_iload_n (pc := 43) hk 1 rfl dX3_setByNumber_43 ?_
    refine j_bipush (pc := 44) hk dX3_setByNumber_44 (v := 10) (by decide) ?_
    refine j_idiv (pc := 46) hk (show fk_nz (10 : Int32) = true from by decide) dX3_setByNumber_46 ?_
    refine j_istore_n (lv' := ((3, .int (v3 / (10 : Int32))) :: [(0, fk_r g 38), (4, .int v4)])) (pc := 47) hk rfl (by decide) rfl dX3_setByNumber_47 ?_
    refine j_sub hk (lv' := [(0, fk_r g 38), (3, .int (v3 / (10 : Int32))), (4, .int v4)]) [1, 0, 2] rfl ?_
    refine j_iinc (dd := (-1 : Int32)) (lv' := ((4, .int (v4 + (-1 : Int32))) :: [(0, fk_r g 38), (3, .int (v3 / (10 : Int32)))])) (pc := 48) hk 2 rfl (by decide) (by decide) rfl dX3_setByNumber_48 ?_
    refine j_sub hk (lv' := [(0, fk_r g 38), (3, .int (v3 / (10 : Int32))), (4, .int (v4 + (-1 : Int32)))]) [1, 2, 0] rfl ?_
    refine j_goto (tgt := 27) (pc := 51) hk (by decide) dX3_setByNumber_51 ?_
    exact j_sub hk [0, 1, 2] rfl (H27 (v3 / (10 : Int32)) (v4 + (-1 : Int32)) st3)
set_option maxHeartbeats 1000000 in
set_option maxRecDepth 20000 in
theorem L3_setByNumber_27 {g : fkG} {k : fkK} (hk : fk_ok wC g k RX3 cX3_setByNumber 5 none 1 100) (fu : Nat) : ∀ (v3 : Int32) (v4 : Int32) (st : fkS), fk_J wC g fk_eU k 27 [(0, fk_r g 38), (3, .int v3), (4, .int v4)] [] st (fk_lp2 (B3_setByNumber_27) fu v3 v4 st) := by
  induction fu with
  | zero =>
    intro v3 v4 st
    exact j_none hk
  | succ fu ih =>
    exact T3_setByNumber_27 hk _ ih
def F3_setByNumber (p1 : Int32) (p2 : Int32) (st : fkS) : Option (Unit × fkS) :=
 fk_let (sI st 61 38 (fk_max (0 : Int32) (fk_min p1 (8 : Int32)))) <| fun st1 =>
 fk_let (gI st1 61 38) <| fun x2 =>
 fk_lp2 (B3_setByNumber_27) fk_fuel p2 (x2 - (1 : Int32)) st1
set_option maxHeartbeats 1000000 in
set_option maxRecDepth 20000 in
theorem C3_setByNumber (p1 : Int32) (p2 : Int32) (st : fkS) {g : fkG} (l : Launch) (o : Unit × fkS) (hF : F3_setByNumber p1 p2 st = some o) : fk_C wC yX3_setByNumber cX3_setByNumber 5 none 1 100 l g [fk_r g 38, .int p1, .int p2] st (fk_eU o.1) o.2 := by
  refine fk_begin rfl (Nat.le_of_ble_eq_true rfl) (fun k hk => ?_) o hF
  have hk : fk_ok wC g k RX3 cX3_setByNumber 5 none 1 100 := hk
  show fk_J wC g fk_eU k 0 [(0, fk_r g 38), (1, .int p1), (2, .int p2)] [] st (F3_setByNumber p1 p2 st)
  unfold F3_setByNumber
  refine j_aload_n (pc := 0) hk 0 rfl ⟨_, rfl⟩ dX3_setByNumber_0 ?_
  refine j_iconst (pc := 1) hk dX3_setByNumber_1 (v := 0) (by decide) ?_
  refine j_iload_n (pc := 2) hk 1 rfl dX3_setByNumber_2 ?_
  refine j_aload_n (pc := 3) hk 0 rfl ⟨_, rfl⟩ dX3_setByNumber_3 ?_
  refine f_3_9 (pc := 4) hk (rfl) dX3_setByNumber_4 ?_
  refine a_ilen (pc := 7) hk (isI_3_0 (rfl)) (v := 8) (by decide) dX3_setByNumber_7 ?_
  refine j_mmin (pc := 8) hk ml_3_28 wd_min1 wd_math wd_min2 (Nat.le_of_ble_eq_true rfl) (Nat.le_of_ble_eq_true rfl) dX3_setByNumber_8 ?_
  refine j_mmax (pc := 11) hk ml_3_34 wd_max1 wd_math wd_max2 (Nat.le_of_ble_eq_true rfl) (Nat.le_of_ble_eq_true rfl) dX3_setByNumber_11 ?_
  refine p_3_15 (pc := 14) hk (rfl) dX3_setByNumber_14 (fun st1 => ?_)
  refine j_iload_n (pc := 17) hk 2 rfl dX3_setByNumber_17 ?_
  refine j_istore_n (lv' := ((3, .int p2) :: [(0, fk_r g 38), (1, .int p1), (2, .int p2)])) (pc := 18) hk rfl (by decide) rfl dX3_setByNumber_18 ?_
  refine j_sub hk (lv' := [(0, fk_r g 38), (1, .int p1), (2, .int p2), (3, .int p2)]) [1, 2, 3, 0] rfl ?_
  refine j_aload_n (pc := 19) hk 0 rfl ⟨_, rfl⟩ dX3_setByNumber_19 ?_
  refine f_3_15 (pc := 20) hk (rfl) dX3_setByNumber_20 (fun x2 => ?_)
  refine j_iconst (pc := 23) hk dX3_setByNumber_23 (v := 1) (by decide) ?_
  refine j_isub (pc := 24) hk dX3_setByNumber_24 ?_
  refine j_istore (lv' := ((4, .int (x2 - (1 : Int32))) :: [(0, fk_r g 38), (1, .int p1), (2, .int p2), (3, .int p2)])) (pc := 25) hk (by decide) rfl dX3_setByNumber_25 ?_
  refine j_sub hk (lv' := [(0, fk_r g 38), (1, .int p1), (2, .int p2), (3, .int p2), (4, .int (x2 - (1 : Int32)))]) [1, 2, 3, 4, 0] rfl ?_
  exact j_sub hk [0, 3, 4] rfl (L3_setByNumber_27 hk fk_fuel p2 (x2 - (1 : Int32)) st1)
