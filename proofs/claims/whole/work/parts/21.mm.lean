theorem dX8_minutes_0 : decode cX8_minutes 0 = .ok (.aload_n 0, 1) := by decide +kernel
theorem dX8_minutes_1 : decode cX8_minutes 1 = .ok (.iload_n 1, 1) := by decide +kernel
theorem dX8_minutes_2 : decode cX8_minutes 2 = .ok (.iload_n 2, 1) := by decide +kernel
theorem dX8_minutes_3 : decode cX8_minutes 3 = .ok (.invokevirtual 218, 3) := by decide +kernel
theorem dX8_minutes_6 : decode cX8_minutes 6 = .ok (.istore_n 3, 1) := by decide +kernel
theorem dX8_minutes_7 : decode cX8_minutes 7 = .ok (.iload_n 3, 1) := by decide +kernel
theorem dX8_minutes_8 : decode cX8_minutes 8 = .ok (.ifCond .ge 9, 3) := by decide +kernel
theorem dX8_minutes_11 : decode cX8_minutes 11 = .ok (.aload_n 0, 1) := by decide +kernel
theorem dX8_minutes_12 : decode cX8_minutes 12 = .ok (.iload_n 3, 1) := by decide +kernel
theorem dX8_minutes_13 : decode cX8_minutes 13 = .ok (.invokevirtual 105, 3) := by decide +kernel
theorem dX8_minutes_16 : decode cX8_minutes 16 = .ok (.ireturn, 1) := by decide +kernel
theorem dX8_minutes_17 : decode cX8_minutes 17 = .ok (.aload_n 0, 1) := by decide +kernel
theorem dX8_minutes_18 : decode cX8_minutes 18 = .ok (.iload_n 1, 1) := by decide +kernel
theorem dX8_minutes_19 : decode cX8_minutes 19 = .ok (.iconst 0, 1) := by decide +kernel
theorem dX8_minutes_20 : decode cX8_minutes 20 = .ok (.invokevirtual 221, 3) := by decide +kernel
theorem dX8_minutes_23 : decode cX8_minutes 23 = .ok (.ifCond .ne 10, 3) := by decide +kernel
theorem dX8_minutes_26 : decode cX8_minutes 26 = .ok (.aload_n 0, 1) := by decide +kernel
theorem dX8_minutes_27 : decode cX8_minutes 27 = .ok (.bipush (-6), 2) := by decide +kernel
theorem dX8_minutes_29 : decode cX8_minutes 29 = .ok (.invokevirtual 105, 3) := by decide +kernel
theorem dX8_minutes_32 : decode cX8_minutes 32 = .ok (.ireturn, 1) := by decide +kernel
theorem dX8_minutes_33 : decode cX8_minutes 33 = .ok (.aload_n 0, 1) := by decide +kernel
theorem dX8_minutes_34 : decode cX8_minutes 34 = .ok (.getfield 19, 3) := by decide +kernel
theorem dX8_minutes_37 : decode cX8_minutes 37 = .ok (.iconst 0, 1) := by decide +kernel
theorem dX8_minutes_38 : decode cX8_minutes 38 = .ok (.iaload, 1) := by decide +kernel
theorem dX8_minutes_39 : decode cX8_minutes 39 = .ok (.istore 4, 2) := by decide +kernel
theorem dX8_minutes_41 : decode cX8_minutes 41 = .ok (.iconst (-1), 1) := by decide +kernel
theorem dX8_minutes_42 : decode cX8_minutes 42 = .ok (.istore 5, 2) := by decide +kernel
theorem dX8_minutes_44 : decode cX8_minutes 44 = .ok (.iload 4, 2) := by decide +kernel
theorem dX8_minutes_46 : decode cX8_minutes 46 = .ok (.istore 6, 2) := by decide +kernel
theorem dX8_minutes_48 : decode cX8_minutes 48 = .ok (.iload 6, 2) := by decide +kernel
theorem dX8_minutes_50 : decode cX8_minutes 50 = .ok (.ifCond .lt 42, 3) := by decide +kernel
theorem dX8_minutes_53 : decode cX8_minutes 53 = .ok (.aload_n 0, 1) := by decide +kernel
theorem dX8_minutes_54 : decode cX8_minutes 54 = .ok (.getfield 19, 3) := by decide +kernel
theorem dX8_minutes_57 : decode cX8_minutes 57 = .ok (.iconst 0, 1) := by decide +kernel
theorem dX8_minutes_58 : decode cX8_minutes 58 = .ok (.iload 4, 2) := by decide +kernel
theorem dX8_minutes_60 : decode cX8_minutes 60 = .ok (.iload 6, 2) := by decide +kernel
theorem dX8_minutes_62 : decode cX8_minutes 62 = .ok (.isub, 1) := by decide +kernel
theorem dX8_minutes_63 : decode cX8_minutes 63 = .ok (.iastore, 1) := by decide +kernel
theorem dX8_minutes_64 : decode cX8_minutes 64 = .ok (.aload_n 0, 1) := by decide +kernel
theorem dX8_minutes_65 : decode cX8_minutes 65 = .ok (.iload_n 2, 1) := by decide +kernel
theorem dX8_minutes_66 : decode cX8_minutes 66 = .ok (.aload_n 0, 1) := by decide +kernel
theorem dX8_minutes_67 : decode cX8_minutes 67 = .ok (.getfield 19, 3) := by decide +kernel
theorem dX8_minutes_70 : decode cX8_minutes 70 = .ok (.iconst 1, 1) := by decide +kernel
theorem dX8_minutes_71 : decode cX8_minutes 71 = .ok (.iaload, 1) := by decide +kernel
theorem dX8_minutes_72 : decode cX8_minutes 72 = .ok (.invokevirtual 224, 3) := by decide +kernel
theorem dX8_minutes_75 : decode cX8_minutes 75 = .ok (.aload_n 0, 1) := by decide +kernel
theorem dX8_minutes_76 : decode cX8_minutes 76 = .ok (.getfield 212, 3) := by decide +kernel
theorem dX8_minutes_79 : decode cX8_minutes 79 = .ok (.ifCond .ne 7, 3) := by decide +kernel
theorem dX8_minutes_82 : decode cX8_minutes 82 = .ok (.iload 6, 2) := by decide +kernel
theorem dX8_minutes_84 : decode cX8_minutes 84 = .ok (.istore 5, 2) := by decide +kernel
theorem dX8_minutes_86 : decode cX8_minutes 86 = .ok (.iinc 6 (-1), 3) := by decide +kernel
theorem dX8_minutes_89 : decode cX8_minutes 89 = .ok (.goto (-41), 3) := by decide +kernel
theorem dX8_minutes_92 : decode cX8_minutes 92 = .ok (.aload_n 0, 1) := by decide +kernel
theorem dX8_minutes_93 : decode cX8_minutes 93 = .ok (.getfield 19, 3) := by decide +kernel
theorem dX8_minutes_96 : decode cX8_minutes 96 = .ok (.iconst 0, 1) := by decide +kernel
theorem dX8_minutes_97 : decode cX8_minutes 97 = .ok (.iload 4, 2) := by decide +kernel
theorem dX8_minutes_99 : decode cX8_minutes 99 = .ok (.iastore, 1) := by decide +kernel
theorem dX8_minutes_100 : decode cX8_minutes 100 = .ok (.iload 5, 2) := by decide +kernel
theorem dX8_minutes_102 : decode cX8_minutes 102 = .ok (.ireturn, 1) := by decide +kernel
def B8_minutes_86 (k48 : Int32 → Int32 → Int32 → Int32 → fkS → Option (Int32 × fkS)) (v2 : Int32) (v4 : Int32) (v5 : Int32) (v6 : Int32) (st : fkS) : Option (Int32 × fkS) :=
 k48 v2 v4 v5 (v6 + (-1 : Int32)) st
set_option maxHeartbeats 1000000 in
set_option maxRecDepth 20000 in
theorem T8_minutes_86 {g : fkG} {k : fkK} (hk : fk_ok wM g k RX8 cX8_minutes 7 (some (.int)) 5 146) (k48 : Int32 → Int32 → Int32 → Int32 → fkS → Option (Int32 × fkS)) (H48 : ∀ (v2 : Int32) (v4 : Int32) (v5 : Int32) (v6 : Int32) (st : fkS), fk_J wM g fk_eI k 48 [(0, fk_r g 0), (2, .int v2), (4, .int v4), (5, .int v5), (6, .int v6)] [] st (k48 v2 v4 v5 v6 st)) : ∀ (v2 : Int32) (v4 : Int32) (v5 : Int32) (v6 : Int32) (st : fkS), fk_J wM g fk_eI k 86 [(0, fk_r g 0), (2, .int v2), (4, .int v4), (5, .int v5), (6, .int v6)] [] st (B8_minutes_86 k48 v2 v4 v5 v6 st) := by
  intro v2 v4 v5 v6 st
  unfold B8_minutes_86
  refine j_iinc (dd := (-1 : Int32)) (lv' := ((6, .int (v6 + (-1 : Int32))) :: [(0, fk_r g 0), (2, .int v2), (4, .int v4), (5, .int v5)])) (pc := 86) hk 4 rfl (by decide) (by decide) rfl dX8_minutes_86 ?_
  refine j_sub hk (lv' := [(0, fk_r g 0), (2, .int v2), (4, .int v4), (5, .int v5), (6, .int (v6 + (-1 : Int32)))]) [1, 2, 3, 4, 0] rfl ?_
  refine j_goto (tgt := 48) (pc := 89) hk (by decide) dX8_minutes_89 ?_
  exact j_sub hk [0, 1, 2, 3, 4] rfl (H48 v2 v4 v5 (v6 + (-1 : Int32)) st)
def B8_minutes_48 (k48 : Int32 → Int32 → Int32 → Int32 → fkS → Option (Int32 × fkS)) (v2 : Int32) (v4 : Int32) (v5 : Int32) (v6 : Int32) (st : fkS) : Option (Int32 × fkS) :=
 if v6 < 0 then
 (fk_chk (fk_in (0 : Int32) 3) <| fk_let (sA st 4 (0 : Int32).toNatClampNeg v4) <| fun st10 =>
 some (v5, st10))
 else
 (fk_chk (fk_in (0 : Int32) 3) <| fk_let (sA st 4 (0 : Int32).toNatClampNeg (v4 - v6)) <| fun st11 =>
 fk_chk (fk_in (1 : Int32) 3) <| fk_let (gA st11 4 (1 : Int32).toNatClampNeg) <| fun x12 =>
 fk_bind (F8_goes v2 x12 st11) <| fun _ st13 =>
 fk_let (gI st13 27 0) <| fun x14 =>
 if x14 = 0 then
 (B8_minutes_86 k48 v2 v4 v6 v6 st13)
 else
 (B8_minutes_86 k48 v2 v4 v5 v6 st13))
set_option maxHeartbeats 1000000 in
set_option maxRecDepth 20000 in
theorem T8_minutes_48 {g : fkG} {k : fkK} (hk : fk_ok wM g k RX8 cX8_minutes 7 (some (.int)) 5 146) (k48 : Int32 → Int32 → Int32 → Int32 → fkS → Option (Int32 × fkS)) (H48 : ∀ (v2 : Int32) (v4 : Int32) (v5 : Int32) (v6 : Int32) (st : fkS), fk_J wM g fk_eI k 48 [(0, fk_r g 0), (2, .int v2), (4, .int v4), (5, .int v5), (6, .int v6)] [] st (k48 v2 v4 v5 v6 st)) : ∀ (v2 : Int32) (v4 : Int32) (v5 : Int32) (v6 : Int32) (st : fkS), fk_J wM g fk_eI k 48 [(0, fk_r g 0), (2, .int v2), (4, .int v4), (5, .int v5), (6, .int v6)] [] st (B8_minutes_48 k48 v2 v4 v5 v6 st) := by
  intro v2 v4 v5 v6 st
  unfold B8_minutes_48
  refine j_iload (pc := 48) hk 4 rfl dX8_minutes_48 ?_
  refine j_if_lt (tgt := 92) (pc := 50) hk (by decide) dX8_minutes_50 (fun _ => ?_) (fun _ => ?_)
  · refine j_aload_n (pc := 92) hk 0 rfl ⟨_, rfl⟩ dX8_minutes_92 ?_
    refine f_8_19 (pc := 93) hk (rfl) dX8_minutes_93 ?_
    refine j_iconst (pc := 96) hk dX8_minutes_96 (v := 0) (by decide) ?_
    refine j_iload (pc := 97) hk 2 rfl dX8_minutes_97 ?_
    refine a_istore (pc := 99) hk (isI_8_4) dX8_minutes_99 (fun st10 => ?_)
    refine j_iload (pc := 100) hk 3 rfl dX8_minutes_100 ?_
    exact j_iret (pc := 102) hk dX8_minutes_102
  · refine j_aload_n (pc := 53) hk 0 rfl ⟨_, rfl⟩ dX8_minutes_53 ?_
    refine f_8_19 (pc := 54) hk (rfl) dX8_minutes_54 ?_
    refine j_iconst (pc := 57) hk dX8_minutes_57 (v := 0) (by decide) ?_
    refine j_iload (pc := 58) hk 2 rfl dX8_minutes_58 ?_
    refine j_iload (pc := 60) hk 4 rfl dX8_minutes_60 ?_
    refine j_isub (pc := 62) hk dX8_minutes_62 ?_
    refine a_istore (pc := 63) hk (isI_8_4) dX8_minutes_63 (fun st11 => ?_)
    refine j_aload_n (pc := 64) hk 0 rfl ⟨_, rfl⟩ dX8_minutes_64 ?_
    refine j_iload_n (pc := 65) hk 1 rfl dX8_minutes_65 ?_
    refine j_aload_n (pc := 66) hk 0 rfl ⟨_, rfl⟩ dX8_minutes_66 ?_
    refine f_8_19 (pc := 67) hk (rfl) dX8_minutes_67 ?_
    refine j_iconst (pc := 70) hk dX8_minutes_70 (v := 1) (by decide) ?_
    refine a_iload (pc := 71) hk (isI_8_4) dX8_minutes_71 (fun x12 => ?_)
    refine j_callVv (pc := 72) hk [.int v2, .int x12] [] rfl (fun l o hq9 => C8_goes v2 x12 st11 l o hq9) (rcv_8 (rfl)) yv_X8_goes ml_8_224 rfl (Nat.le_of_ble_eq_true rfl) (Nat.le_of_ble_eq_true rfl) (Nat.le_of_ble_eq_true rfl) dX8_minutes_72 (fun _ st13 => ?_)
    refine j_aload_n (pc := 75) hk 0 rfl ⟨_, rfl⟩ dX8_minutes_75 ?_
    refine f_8_212 (pc := 76) hk (rfl) dX8_minutes_76 (fun x14 => ?_)
    refine j_if_ne (tgt := 86) (pc := 79) hk (by decide) dX8_minutes_79 (fun _ => ?_) (fun _ => ?_)
    · refine j_iload (pc := 82) hk 4 rfl dX8_minutes_82 ?_
      refine j_istore (lv' := ((5, .int v6) :: [(0, fk_r g 0), (2, .int v2), (4, .int v4), (6, .int v6)])) (pc := 84) hk (by decide) rfl dX8_minutes_84 ?_
      refine j_sub hk (lv' := [(0, fk_r g 0), (2, .int v2), (4, .int v4), (5, .int v6), (6, .int v6)]) [1, 2, 3, 0, 4] rfl ?_
      exact j_sub hk [0, 1, 2, 3, 4] rfl (T8_minutes_86 hk k48 H48 v2 v4 v6 v6 st13)
    · exact j_sub hk [0, 1, 2, 3, 4] rfl (T8_minutes_86 hk k48 H48 v2 v4 v5 v6 st13)
set_option maxHeartbeats 1000000 in
set_option maxRecDepth 20000 in
theorem L8_minutes_48 {g : fkG} {k : fkK} (hk : fk_ok wM g k RX8 cX8_minutes 7 (some (.int)) 5 146) (fu : Nat) : ∀ (v2 : Int32) (v4 : Int32) (v5 : Int32) (v6 : Int32) (st : fkS), fk_J wM g fk_eI k 48 [(0, fk_r g 0), (2, .int v2), (4, .int v4), (5, .int v5), (6, .int v6)] [] st (fk_lp4 (B8_minutes_48) fu v2 v4 v5 v6 st) := by
  induction fu with
  | zero =>
    intro v2 v4 v5 v6 st
    exact j_none hk
  | succ fu ih =>
    exact T8_minutes_48 hk _ ih
def F8_minutes (p1 : Int32) (p2 : Int32) (st : fkS) : Option (Int32 × fkS) :=
 fk_bind (F8_noPie p1 p2 st) <| fun x1 st2 =>
 if 0 ≤ x1 then
 (fk_bind (F8_isPie p1 (0 : Int32) st2) <| fun x3 st4 =>
 if x3 = 0 then
 (fk_bind (F8_no10 (-6 : Int32) st4) <| fun x5 st6 =>
 some (x5, st6))
 else
 (fk_chk (fk_in (0 : Int32) 3) <| fk_let (gA st4 4 (0 : Int32).toNatClampNeg) <| fun x7 =>
 fk_lp4 (B8_minutes_48) fk_fuel p2 x7 (-1 : Int32) x7 st4))
 else
 (fk_bind (F8_no10 x1 st2) <| fun x8 st9 =>
 some (x8, st9))
set_option maxHeartbeats 1000000 in
set_option maxRecDepth 20000 in
theorem C8_minutes (p1 : Int32) (p2 : Int32) (st : fkS) {g : fkG} (l : Launch) (o : Int32 × fkS) (hF : F8_minutes p1 p2 st = some o) : fk_C wM yX8_minutes cX8_minutes 7 (some (.int)) 5 146 l g [fk_r g 0, .int p1, .int p2] st (fk_eI o.1) o.2 := by
  refine fk_begin rfl (Nat.le_of_ble_eq_true rfl) (fun k hk => ?_) o hF
  have hk : fk_ok wM g k RX8 cX8_minutes 7 (some (.int)) 5 146 := hk
  show fk_J wM g fk_eI k 0 [(0, fk_r g 0), (1, .int p1), (2, .int p2)] [] st (F8_minutes p1 p2 st)
  unfold F8_minutes
  refine j_aload_n (pc := 0) hk 0 rfl ⟨_, rfl⟩ dX8_minutes_0 ?_
  refine j_iload_n (pc := 1) hk 1 rfl dX8_minutes_1 ?_
  refine j_iload_n (pc := 2) hk 2 rfl dX8_minutes_2 ?_
  refine j_callVi (pc := 3) hk [.int p1, .int p2] [] rfl (fun l o hq9 => C8_noPie p1 p2 st l o hq9) (rcv_8 (rfl)) yv_X8_noPie ml_8_218 rfl (Nat.le_of_ble_eq_true rfl) (Nat.le_of_ble_eq_true rfl) (Nat.le_of_ble_eq_true rfl) dX8_minutes_3 (fun x1 st2 => ?_)
  refine j_istore_n (lv' := ((3, .int x1) :: [(0, fk_r g 0), (1, .int p1), (2, .int p2)])) (pc := 6) hk rfl (by decide) rfl dX8_minutes_6 ?_
  refine j_sub hk (lv' := [(0, fk_r g 0), (1, .int p1), (2, .int p2), (3, .int x1)]) [1, 2, 3, 0] rfl ?_
  refine j_iload_n (pc := 7) hk 3 rfl dX8_minutes_7 ?_
  refine j_if_ge (tgt := 17) (pc := 8) hk (by decide) dX8_minutes_8 (fun _ => ?_) (fun _ => ?_)
  · refine j_aload_n (pc := 17) hk 0 rfl ⟨_, rfl⟩ dX8_minutes_17 ?_
    refine j_iload_n (pc := 18) hk 1 rfl dX8_minutes_18 ?_
    refine j_iconst (pc := 19) hk dX8_minutes_19 (v := 0) (by decide) ?_
    refine j_callVi (pc := 20) hk [.int p1, .int (0 : Int32)] [] rfl (fun l o hq9 => C8_isPie p1 (0 : Int32) st2 l o hq9) (rcv_8 (rfl)) yv_X8_isPie ml_8_221 rfl (Nat.le_of_ble_eq_true rfl) (Nat.le_of_ble_eq_true rfl) (Nat.le_of_ble_eq_true rfl) dX8_minutes_20 (fun x3 st4 => ?_)
    refine j_if_ne (tgt := 33) (pc := 23) hk (by decide) dX8_minutes_23 (fun _ => ?_) (fun _ => ?_)
    · refine j_aload_n (pc := 26) hk 0 rfl ⟨_, rfl⟩ dX8_minutes_26 ?_
      refine j_bipush (pc := 27) hk dX8_minutes_27 (v := -6) (by decide) ?_
      refine j_callVi (pc := 29) hk [.int (-6 : Int32)] [] rfl (fun l o hq9 => C8_no10 (-6 : Int32) st4 l o hq9) (rcv_8 (rfl)) yv_X8_no10 ml_8_105 rfl (Nat.le_of_ble_eq_true rfl) (Nat.le_of_ble_eq_true rfl) (Nat.le_of_ble_eq_true rfl) dX8_minutes_29 (fun x5 st6 => ?_)
      exact j_iret (pc := 32) hk dX8_minutes_32
    · refine j_aload_n (pc := 33) hk 0 rfl ⟨_, rfl⟩ dX8_minutes_33 ?_
      refine f_8_19 (pc := 34) hk (rfl) dX8_minutes_34 ?_
      refine j_iconst (pc := 37) hk dX8_minutes_37 (v := 0) (by decide) ?_
      refine a_iload (pc := 38) hk (isI_8_4) dX8_minutes_38 (fun x7 => ?_)
      refine j_istore (lv' := ((4, .int x7) :: [(0, fk_r g 0), (1, .int p1), (2, .int p2), (3, .int x1)])) (pc := 39) hk (by decide) rfl dX8_minutes_39 ?_
      refine j_sub hk (lv' := [(0, fk_r g 0), (1, .int p1), (2, .int p2), (3, .int x1), (4, .int x7)]) [1, 2, 3, 4, 0] rfl ?_
      refine j_iconst (pc := 41) hk dX8_minutes_41 (v := -1) (by decide) ?_
      refine j_istore (lv' := ((5, .int (-1 : Int32)) :: [(0, fk_r g 0), (1, .int p1), (2, .int p2), (3, .int x1), (4, .int x7)])) (pc := 42) hk (by decide) rfl dX8_minutes_42 ?_
      refine j_sub hk (lv' := [(0, fk_r g 0), (1, .int p1), (2, .int p2), (3, .int x1), (4, .int x7), (5, .int (-1 : Int32))]) [1, 2, 3, 4, 5, 0] rfl ?_
      refine j_iload (pc := 44) hk 4 rfl dX8_minutes_44 ?_
      refine j_istore (lv' := ((6, .int x7) :: [(0, fk_r g 0), (1, .int p1), (2, .int p2), (3, .int x1), (4, .int x7), (5, .int (-1 : Int32))])) (pc := 46) hk (by decide) rfl dX8_minutes_46 ?_
      refine j_sub hk (lv' := [(0, fk_r g 0), (1, .int p1), (2, .int p2), (3, .int x1), (4, .int x7), (5, .int (-1 : Int32)), (6, .int x7)]) [1, 2, 3, 4, 5, 6, 0] rfl ?_
      exact j_sub hk [0, 2, 4, 5, 6] rfl (L8_minutes_48 hk fk_fuel p2 x7 (-1 : Int32) x7 st4)
  · refine j_aload_n (pc := 11) hk 0 rfl ⟨_, rfl⟩ dX8_minutes_11 ?_
    refine j_iload_n (pc := 12) hk 3 rfl dX8_minutes_12 ?_
    refine j_callVi (pc := 13) hk [.int x1] [] rfl (fun l o hq9 => C8_no10 x1 st2 l o hq9) (rcv_8 (rfl)) yv_X8_no10 ml_8_105 rfl (Nat.le_of_ble_eq_true rfl) (Nat.le_of_ble_eq_true rfl) (Nat.le_of_ble_eq_true rfl) dX8_minutes_13 (fun x8 st9 => ?_)
    exact j_iret (pc := 16) hk dX8_minutes_16
theorem dX8_after_0 : decode cX8_after 0 = .ok (.aload_n 0, 1) := by decide +kernel
theorem dX8_after_1 : decode cX8_after 1 = .ok (.iload_n 1, 1) := by decide +kernel
theorem dX8_after_2 : decode cX8_after 2 = .ok (.iload_n 2, 1) := by decide +kernel
theorem dX8_after_3 : decode cX8_after 3 = .ok (.invokevirtual 218, 3) := by decide +kernel
theorem dX8_after_6 : decode cX8_after 6 = .ok (.istore 4, 2) := by decide +kernel
theorem dX8_after_8 : decode cX8_after 8 = .ok (.iload 4, 2) := by decide +kernel
theorem dX8_after_10 : decode cX8_after 10 = .ok (.ifCond .ge 10, 3) := by decide +kernel
theorem dX8_after_13 : decode cX8_after 13 = .ok (.aload_n 0, 1) := by decide +kernel
theorem dX8_after_14 : decode cX8_after 14 = .ok (.iload 4, 2) := by decide +kernel
theorem dX8_after_16 : decode cX8_after 16 = .ok (.invokevirtual 81, 3) := by decide +kernel
theorem dX8_after_19 : decode cX8_after 19 = .ok (.ireturn, 1) := by decide +kernel
theorem dX8_after_20 : decode cX8_after 20 = .ok (.aload_n 0, 1) := by decide +kernel
theorem dX8_after_21 : decode cX8_after 21 = .ok (.iload_n 1, 1) := by decide +kernel
theorem dX8_after_22 : decode cX8_after 22 = .ok (.iconst 0, 1) := by decide +kernel
theorem dX8_after_23 : decode cX8_after 23 = .ok (.invokevirtual 221, 3) := by decide +kernel
theorem dX8_after_26 : decode cX8_after 26 = .ok (.ifCond .eq 13, 3) := by decide +kernel
theorem dX8_after_29 : decode cX8_after 29 = .ok (.iload_n 3, 1) := by decide +kernel
theorem dX8_after_30 : decode cX8_after 30 = .ok (.iconst 0, 1) := by decide +kernel
theorem dX8_after_31 : decode cX8_after 31 = .ok (.bipush 40, 2) := by decide +kernel
theorem dX8_after_33 : decode cX8_after 33 = .ok (.invokestatic 88, 3) := by decide +kernel
theorem dX8_after_36 : decode cX8_after 36 = .ok (.ifCond .ne 10, 3) := by decide +kernel
theorem dX8_after_39 : decode cX8_after 39 = .ok (.aload_n 0, 1) := by decide +kernel
theorem dX8_after_40 : decode cX8_after 40 = .ok (.bipush (-6), 2) := by decide +kernel
theorem dX8_after_42 : decode cX8_after 42 = .ok (.invokevirtual 81, 3) := by decide +kernel
theorem dX8_after_45 : decode cX8_after 45 = .ok (.ireturn, 1) := by decide +kernel
theorem dX8_after_46 : decode cX8_after 46 = .ok (.aload_n 0, 1) := by decide +kernel
theorem dX8_after_47 : decode cX8_after 47 = .ok (.aload_n 0, 1) := by decide +kernel
theorem dX8_after_48 : decode cX8_after 48 = .ok (.getfield 19, 3) := by decide +kernel
theorem dX8_after_51 : decode cX8_after 51 = .ok (.iconst 1, 1) := by decide +kernel
theorem dX8_after_52 : decode cX8_after 52 = .ok (.iaload, 1) := by decide +kernel
theorem dX8_after_53 : decode cX8_after 53 = .ok (.putfield 209, 3) := by decide +kernel
theorem dX8_after_56 : decode cX8_after 56 = .ok (.iconst 0, 1) := by decide +kernel
theorem dX8_after_57 : decode cX8_after 57 = .ok (.istore 5, 2) := by decide +kernel
theorem dX8_after_59 : decode cX8_after 59 = .ok (.iload 5, 2) := by decide +kernel
theorem dX8_after_61 : decode cX8_after 61 = .ok (.iload_n 3, 1) := by decide +kernel
theorem dX8_after_62 : decode cX8_after 62 = .ok (.if_icmp .ge 18, 3) := by decide +kernel
theorem dX8_after_65 : decode cX8_after 65 = .ok (.aload_n 0, 1) := by decide +kernel
theorem dX8_after_66 : decode cX8_after 66 = .ok (.iload_n 2, 1) := by decide +kernel
theorem dX8_after_67 : decode cX8_after 67 = .ok (.aload_n 0, 1) := by decide +kernel
theorem dX8_after_68 : decode cX8_after 68 = .ok (.getfield 209, 3) := by decide +kernel
theorem dX8_after_71 : decode cX8_after 71 = .ok (.invokevirtual 224, 3) := by decide +kernel
theorem dX8_after_74 : decode cX8_after 74 = .ok (.iinc 5 1, 3) := by decide +kernel
theorem dX8_after_77 : decode cX8_after 77 = .ok (.goto (-18), 3) := by decide +kernel
theorem dX8_after_80 : decode cX8_after 80 = .ok (.aload_n 0, 1) := by decide +kernel
theorem dX8_after_81 : decode cX8_after 81 = .ok (.getfield 209, 3) := by decide +kernel
theorem dX8_after_84 : decode cX8_after 84 = .ok (.ireturn, 1) := by decide +kernel
def B8_after_39 (st : fkS) : Option (Int32 × fkS) :=
 fk_bind (F8_no (-6 : Int32) st) <| fun x11 st12 =>
 some (x11, st12)
set_option maxHeartbeats 1000000 in
set_option maxRecDepth 20000 in
theorem T8_after_39 {g : fkG} {k : fkK} (hk : fk_ok wM g k RX8 cX8_after 6 (some (.int)) 5 146) : ∀ (st : fkS), fk_J wM g fk_eI k 39 [(0, fk_r g 0)] [] st (B8_after_39 st) := by
  intro st
  unfold B8_after_39
  refine j_aload_n (pc := 39) hk 0 rfl ⟨_, rfl⟩ dX8_after_39 ?_
  refine j_bipush (pc := 40) hk dX8_after_40 (v := -6) (by decide) ?_
  refine j_callVi (pc := 42) hk [.int (-6 : Int32)] [] rfl (fun l o hq9 => C8_no (-6 : Int32) st l o hq9) (rcv_8 (rfl)) yv_X8_no ml_8_81 rfl (Nat.le_of_ble_eq_true rfl) (Nat.le_of_ble_eq_true rfl) (Nat.le_of_ble_eq_true rfl) dX8_after_42 (fun x11 st12 => ?_)
  exact j_iret (pc := 45) hk dX8_after_45
def B8_after_59 (k59 : Int32 → Int32 → Int32 → fkS → Option (Int32 × fkS)) (v2 : Int32) (v3 : Int32) (v5 : Int32) (st : fkS) : Option (Int32 × fkS) :=
 if v3 ≤ v5 then
 (fk_let (gI st 26 0) <| fun x13 =>
 some (x13, st))
 else
 (fk_let (gI st 26 0) <| fun x14 =>
 fk_bind (F8_goes v2 x14 st) <| fun _ st15 =>
 k59 v2 v3 (v5 + (1 : Int32)) st15)
set_option maxHeartbeats 1000000 in
set_option maxRecDepth 20000 in
theorem T8_after_59 {g : fkG} {k : fkK} (hk : fk_ok wM g k RX8 cX8_after 6 (some (.int)) 5 146) (k59 : Int32 → Int32 → Int32 → fkS → Option (Int32 × fkS)) (H59 : ∀ (v2 : Int32) (v3 : Int32) (v5 : Int32) (st : fkS), fk_J wM g fk_eI k 59 [(0, fk_r g 0), (2, .int v2), (3, .int v3), (5, .int v5)] [] st (k59 v2 v3 v5 st)) : ∀ (v2 : Int32) (v3 : Int32) (v5 : Int32) (st : fkS), fk_J wM g fk_eI k 59 [(0, fk_r g 0), (2, .int v2), (3, .int v3), (5, .int v5)] [] st (B8_after_59 k59 v2 v3 v5 st) := by
  intro v2 v3 v5 st
  unfold B8_after_59
  refine j_iload (pc := 59) hk 3 rfl dX8_after_59 ?_
  refine j_iload_n (pc := 61) hk 2 rfl dX8_after_61 ?_
  refine j_icmp_ge (tgt := 80) (pc := 62) hk (by decide) dX8_after_62 (fun _ => ?_) (fun _ => ?_)
  · refine j_aload_n (pc := 80) hk 0 rfl ⟨_, rfl⟩ dX8_after_80 ?_
    refine f_8_209 (pc := 81) hk (rfl) dX8_after_81 (fun x13 => ?_)
    exact j_iret (pc := 84) hk dX8_after_84
  · refine j_aload_n (pc := 65) hk 0 rfl ⟨_, rfl⟩ dX8_after_65 ?_
    refine j_iload_n (pc := 66) hk 1 rfl dX8_after_66 ?_
    refine j_aload_n (pc := 67) hk 0 rfl ⟨_, rfl⟩ dX8_after_67 ?_
    refine f_8_209 (pc := 68) hk (rfl) dX8_after_68 (fun x14 => ?_)
    refine j_callVv (pc := 71) hk [.int v2, .int x14] [] rfl (fun l o hq9 => C8_goes v2 x14 st l o hq9) (rcv_8 (rfl)) yv_X8_goes ml_8_224 rfl (Nat.le_of_ble_eq_true rfl) (Nat.le_of_ble_eq_true rfl) (Nat.le_of_ble_eq_true rfl) dX8_after_71 (fun _ st15 => ?_)
    refine j_iinc (dd := (1 : Int32)) (lv' := ((5, .int (v5 + (1 : Int32))) :: [(0, fk_r g 0), (2, .int v2), (3, .int v3)])) (pc := 74) hk 3 rfl (by decide) (by decide) rfl dX8_after_74 ?_
    refine j_sub hk (lv' := [(0, fk_r g 0), (2, .int v2), (3, .int v3), (5, .int (v5 + (1 : Int32)))]) [1, 2, 3, 0] rfl ?_
    refine j_goto (tgt := 59) (pc := 77) hk (by decide) dX8_after_77 ?_
    exact j_sub hk [0, 1, 2, 3] rfl (H59 v2 v3 (v5 + (1 : Int32)) st15)
set_option maxHeartbeats 1000000 in
set_option maxRecDepth 20000 in
theorem L8_after_59 {g : fkG} {k : fkK} (hk : fk_ok wM g k RX8 cX8_after 6 (some (.int)) 5 146) (fu : Nat) : ∀ (v2 : Int32) (v3 : Int32) (v5 : Int32) (st : fkS), fk_J wM g fk_eI k 59 [(0, fk_r g 0), (2, .int v2), (3, .int v3), (5, .int v5)] [] st (fk_lp3 (B8_after_59) fu v2 v3 v5 st) := by
  induction fu with
  | zero =>
    intro v2 v3 v5 st
    exact j_none hk
  | succ fu ih =>
    exact T8_after_59 hk _ ih
def F8_after (p1 : Int32) (p2 : Int32) (p3 : Int32) (st : fkS) : Option (Int32 × fkS) :=
 fk_bind (F8_noPie p1 p2 st) <| fun x1 st2 =>
 if 0 ≤ x1 then
 (fk_bind (F8_isPie p1 (0 : Int32) st2) <| fun x3 st4 =>
 if x3 = 0 then
 (B8_after_39 st4)
 else
 (fk_bind (F8_within p3 (0 : Int32) (40 : Int32) st4) <| fun x5 st6 =>
 if x5 = 0 then
 (B8_after_39 st6)
 else
 (fk_chk (fk_in (1 : Int32) 3) <| fk_let (gA st6 4 (1 : Int32).toNatClampNeg) <| fun x7 =>
 fk_let (sI st6 26 0 x7) <| fun st8 =>
 fk_lp3 (B8_after_59) fk_fuel p2 p3 (0 : Int32) st8)))
 else
 (fk_bind (F8_no x1 st2) <| fun x9 st10 =>
 some (x9, st10))
set_option maxHeartbeats 1000000 in
set_option maxRecDepth 20000 in
theorem C8_after (p1 : Int32) (p2 : Int32) (p3 : Int32) (st : fkS) {g : fkG} (l : Launch) (o : Int32 × fkS) (hF : F8_after p1 p2 p3 st = some o) : fk_C wM yX8_after cX8_after 6 (some (.int)) 5 146 l g [fk_r g 0, .int p1, .int p2, .int p3] st (fk_eI o.1) o.2 := by
  refine fk_begin rfl (Nat.le_of_ble_eq_true rfl) (fun k hk => ?_) o hF
  have hk : fk_ok wM g k RX8 cX8_after 6 (some (.int)) 5 146 := hk
  show fk_J wM g fk_eI k 0 [(0, fk_r g 0), (1, .int p1), (2, .int p2), (3, .int p3)] [] st (F8_after p1 p2 p3 st)
  unfold F8_after
  refine j_aload_n (pc := 0) hk 0 rfl ⟨_, rfl⟩ dX8_after_0 ?_
  refine j_iload_n (pc := 1) hk 1 rfl dX8_after_1 ?_
  refine j_iload_n (pc := 2) hk 2 rfl dX8_after_2 ?_
  refine j_callVi (pc := 3) hk [.int p1, .int p2] [] rfl (fun l o hq9 => C8_noPie p1 p2 st l o hq9) (rcv_8 (rfl)) yv_X8_noPie ml_8_218 rfl (Nat.le_of_ble_eq_true rfl) (Nat.le_of_ble_eq_true rfl) (Nat.le_of_ble_eq_true rfl) dX8_after_3 (fun x1 st2 => ?_)
  refine j_istore (lv' := ((4, .int x1) :: [(0, fk_r g 0), (1, .int p1), (2, .int p2), (3, .int p3)])) (pc := 6) hk (by decide) rfl dX8_after_6 ?_
  refine j_sub hk (lv' := [(0, fk_r g 0), (1, .int p1), (2, .int p2), (3, .int p3), (4, .int x1)]) [1, 2, 3, 4, 0] rfl ?_
  refine j_iload (pc := 8) hk 4 rfl dX8_after_8 ?_
  refine j_if_ge (tgt := 20) (pc := 10) hk (by decide) dX8_after_10 (fun _ => ?_) (fun _ => ?_)
  · refine j_aload_n (pc := 20) hk 0 rfl ⟨_, rfl⟩ dX8_after_20 ?_
    refine j_iload_n (pc := 21) hk 1 rfl dX8_after_21 ?_
    refine j_iconst (pc := 22) hk dX8_after_22 (v := 0) (by decide) ?_
    refine j_callVi (pc := 23) hk [.int p1, .int (0 : Int32)] [] rfl (fun l o hq9 => C8_isPie p1 (0 : Int32) st2 l o hq9) (rcv_8 (rfl)) yv_X8_isPie ml_8_221 rfl (Nat.le_of_ble_eq_true rfl) (Nat.le_of_ble_eq_true rfl) (Nat.le_of_ble_eq_true rfl) dX8_after_23 (fun x3 st4 => ?_)
    refine j_if_eq (tgt := 39) (pc := 26) hk (by decide) dX8_after_26 (fun _ => ?_) (fun _ => ?_)
    · exact j_sub hk [0] rfl (T8_after_39 hk st4)
    · refine j_iload_n (pc := 29) hk 3 rfl dX8_after_29 ?_
      refine j_iconst (pc := 30) hk dX8_after_30 (v := 0) (by decide) ?_
      refine j_bipush (pc := 31) hk dX8_after_31 (v := 40) (by decide) ?_
      refine j_callSi (pc := 33) hk [.int p3, .int (0 : Int32), .int (40 : Int32)] [] rfl (fun l o hq9 => C8_within p3 (0 : Int32) (40 : Int32) st4 l o hq9) yv_X8_within ml_8_88 rfl (Nat.le_of_ble_eq_true rfl) (Nat.le_of_ble_eq_true rfl) (Nat.le_of_ble_eq_true rfl) dX8_after_33 (fun x5 st6 => ?_)
      refine j_if_ne (tgt := 46) (pc := 36) hk (by decide) dX8_after_36 (fun _ => ?_) (fun _ => ?_)
      · exact j_sub hk [0] rfl (T8_after_39 hk st6)
      · refine j_aload_n (pc := 46) hk 0 rfl ⟨_, rfl⟩ dX8_after_46 ?_
        refine j_aload_n (pc := 47) hk 0 rfl ⟨_, rfl⟩ dX8_after_47 ?_
        refine f_8_19 (pc := 48) hk (rfl) dX8_after_48 ?_
        refine j_iconst (pc := 51) hk dX8_after_51 (v := 1) (by decide) ?_
        refine a_iload (pc := 52) hk (isI_8_4) dX8_after_52 (fun x7 => ?_)
        refine p_8_209 (pc := 53) hk (rfl) dX8_after_53 (fun st8 => ?_)
        refine j_iconst (pc := 56) hk dX8_after_56 (v := 0) (by decide) ?_
        refine j_istore (lv' := ((5, .int (0 : Int32)) :: [(0, fk_r g 0), (1, .int p1), (2, .int p2), (3, .int p3), (4, .int x1)])) (pc := 57) hk (by decide) rfl dX8_after_57 ?_
        refine j_sub hk (lv' := [(0, fk_r g 0), (1, .int p1), (2, .int p2), (3, .int p3), (4, .int x1), (5, .int (0 : Int32))]) [1, 2, 3, 4, 5, 0] rfl ?_
        exact j_sub hk [0, 2, 3, 5] rfl (L8_after_59 hk fk_fuel p2 p3 (0 : Int32) st8)
  · refine j_aload_n (pc := 13) hk 0 rfl ⟨_, rfl⟩ dX8_after_13 ?_
    refine j_iload (pc := 14) hk 4 rfl dX8_after_14 ?_
    refine j_callVi (pc := 16) hk [.int x1] [] rfl (fun l o hq9 => C8_no x1 st2 l o hq9) (rcv_8 (rfl)) yv_X8_no ml_8_81 rfl (Nat.le_of_ble_eq_true rfl) (Nat.le_of_ble_eq_true rfl) (Nat.le_of_ble_eq_true rfl) dX8_after_16 (fun x9 st10 => ?_)
    exact j_iret (pc := 19) hk dX8_after_19
theorem dX8_fewestIlls_0 : decode cX8_fewestIlls 0 = .ok (.bipush 99, 2) := by decide +kernel
theorem dX8_fewestIlls_2 : decode cX8_fewestIlls 2 = .ok (.istore_n 2, 1) := by decide +kernel
theorem dX8_fewestIlls_3 : decode cX8_fewestIlls 3 = .ok (.iconst 0, 1) := by decide +kernel
theorem dX8_fewestIlls_4 : decode cX8_fewestIlls 4 = .ok (.istore_n 3, 1) := by decide +kernel
theorem dX8_fewestIlls_5 : decode cX8_fewestIlls 5 = .ok (.iload_n 3, 1) := by decide +kernel
theorem dX8_fewestIlls_6 : decode cX8_fewestIlls 6 = .ok (.bipush 10, 2) := by decide +kernel
theorem dX8_fewestIlls_8 : decode cX8_fewestIlls 8 = .ok (.if_icmp .ge 41, 3) := by decide +kernel
theorem dX8_fewestIlls_11 : decode cX8_fewestIlls 11 = .ok (.aload_n 0, 1) := by decide +kernel
theorem dX8_fewestIlls_12 : decode cX8_fewestIlls 12 = .ok (.getfield 50, 3) := by decide +kernel
theorem dX8_fewestIlls_15 : decode cX8_fewestIlls 15 = .ok (.aload_n 0, 1) := by decide +kernel
theorem dX8_fewestIlls_16 : decode cX8_fewestIlls 16 = .ok (.getfield 112, 3) := by decide +kernel
theorem dX8_fewestIlls_19 : decode cX8_fewestIlls 19 = .ok (.iconst 1, 1) := by decide +kernel
theorem dX8_fewestIlls_20 : decode cX8_fewestIlls 20 = .ok (.isub, 1) := by decide +kernel
theorem dX8_fewestIlls_21 : decode cX8_fewestIlls 21 = .ok (.iload_n 3, 1) := by decide +kernel
theorem dX8_fewestIlls_22 : decode cX8_fewestIlls 22 = .ok (.iastore, 1) := by decide +kernel
theorem dX8_fewestIlls_23 : decode cX8_fewestIlls 23 = .ok (.aload_n 0, 1) := by decide +kernel
theorem dX8_fewestIlls_24 : decode cX8_fewestIlls 24 = .ok (.iload_n 1, 1) := by decide +kernel
theorem dX8_fewestIlls_25 : decode cX8_fewestIlls 25 = .ok (.aload_n 0, 1) := by decide +kernel
theorem dX8_fewestIlls_26 : decode cX8_fewestIlls 26 = .ok (.getfield 19, 3) := by decide +kernel
theorem dX8_fewestIlls_29 : decode cX8_fewestIlls 29 = .ok (.iconst 1, 1) := by decide +kernel
theorem dX8_fewestIlls_30 : decode cX8_fewestIlls 30 = .ok (.iaload, 1) := by decide +kernel
theorem dX8_fewestIlls_31 : decode cX8_fewestIlls 31 = .ok (.invokevirtual 224, 3) := by decide +kernel
theorem dX8_fewestIlls_34 : decode cX8_fewestIlls 34 = .ok (.iload_n 2, 1) := by decide +kernel
theorem dX8_fewestIlls_35 : decode cX8_fewestIlls 35 = .ok (.aload_n 0, 1) := by decide +kernel
theorem dX8_fewestIlls_36 : decode cX8_fewestIlls 36 = .ok (.getfield 212, 3) := by decide +kernel
theorem dX8_fewestIlls_39 : decode cX8_fewestIlls 39 = .ok (.invokestatic 198, 3) := by decide +kernel
theorem dX8_fewestIlls_42 : decode cX8_fewestIlls 42 = .ok (.istore_n 2, 1) := by decide +kernel
theorem dX8_fewestIlls_43 : decode cX8_fewestIlls 43 = .ok (.iinc 3 1, 3) := by decide +kernel
theorem dX8_fewestIlls_46 : decode cX8_fewestIlls 46 = .ok (.goto (-41), 3) := by decide +kernel
theorem dX8_fewestIlls_49 : decode cX8_fewestIlls 49 = .ok (.iload_n 2, 1) := by decide +kernel
theorem dX8_fewestIlls_50 : decode cX8_fewestIlls 50 = .ok (.ireturn, 1) := by decide +kernel
def B8_fewestIlls_5 (k5 : Int32 → Int32 → Int32 → fkS → Option (Int32 × fkS)) (v1 : Int32) (v2 : Int32) (v3 : Int32) (st : fkS) : Option (Int32 × fkS) :=
 if (10 : Int32) ≤ v3 then
 (some (v2, st))
 else
 (fk_let (gI st 22 0) <| fun x1 =>
 fk_chk (fk_in (x1 - (1 : Int32)) 8) <| fk_let (sA st 14 (x1 - (1 : Int32)).toNatClampNeg v3) <| fun st2 =>
 fk_chk (fk_in (1 : Int32) 3) <| fk_let (gA st2 4 (1 : Int32).toNatClampNeg) <| fun x3 =>
 fk_bind (F8_goes v1 x3 st2) <| fun _ st4 =>
 fk_let (gI st4 27 0) <| fun x5 =>
 k5 v1 (fk_min v2 x5) (v3 + (1 : Int32)) st4)
set_option maxHeartbeats 1000000 in
set_option maxRecDepth 20000 in
theorem T8_fewestIlls_5 {g : fkG} {k : fkK} (hk : fk_ok wM g k RX8 cX8_fewestIlls 4 (some (.int)) 5 146) (k5 : Int32 → Int32 → Int32 → fkS → Option (Int32 × fkS)) (H5 : ∀ (v1 : Int32) (v2 : Int32) (v3 : Int32) (st : fkS), fk_J wM g fk_eI k 5 [(0, fk_r g 0), (1, .int v1), (2, .int v2), (3, .int v3)] [] st (k5 v1 v2 v3 st)) : ∀ (v1 : Int32) (v2 : Int32) (v3 : Int32) (st : fkS), fk_J wM g fk_eI k 5 [(0, fk_r g 0), (1, .int v1), (2, .int v2), (3, .int v3)] [] st (B8_fewestIlls_5 k5 v1 v2 v3 st) := by
  intro v1 v2 v3 st
  unfold B8_fewestIlls_5
  refine j_iload_n (pc := 5) hk 3 rfl dX8_fewestIlls_5 ?_
  refine j_bipush (pc := 6) hk dX8_fewestIlls_6 (v := 10) (by decide) ?_
  refine j_icmp_ge (tgt := 49) (pc := 8) hk (by decide) dX8_fewestIlls_8 (fun _ => ?_) (fun _ => ?_)
  · refine j_iload_n (pc := 49) hk 2 rfl dX8_fewestIlls_49 ?_
    exact j_iret (pc := 50) hk dX8_fewestIlls_50
  · refine j_aload_n (pc := 11) hk 0 rfl ⟨_, rfl⟩ dX8_fewestIlls_11 ?_
    refine f_8_50 (pc := 12) hk (rfl) dX8_fewestIlls_12 ?_
    refine j_aload_n (pc := 15) hk 0 rfl ⟨_, rfl⟩ dX8_fewestIlls_15 ?_
    refine f_8_112 (pc := 16) hk (rfl) dX8_fewestIlls_16 (fun x1 => ?_)
    refine j_iconst (pc := 19) hk dX8_fewestIlls_19 (v := 1) (by decide) ?_
    refine j_isub (pc := 20) hk dX8_fewestIlls_20 ?_
    refine j_iload_n (pc := 21) hk 3 rfl dX8_fewestIlls_21 ?_
    refine a_istore (pc := 22) hk (isI_8_23) dX8_fewestIlls_22 (fun st2 => ?_)
    refine j_aload_n (pc := 23) hk 0 rfl ⟨_, rfl⟩ dX8_fewestIlls_23 ?_
    refine j_iload_n (pc := 24) hk 1 rfl dX8_fewestIlls_24 ?_
    refine j_aload_n (pc := 25) hk 0 rfl ⟨_, rfl⟩ dX8_fewestIlls_25 ?_
    refine f_8_19 (pc := 26) hk (rfl) dX8_fewestIlls_26 ?_
    refine j_iconst (pc := 29) hk dX8_fewestIlls_29 (v := 1) (by decide) ?_
    refine a_iload (pc := 30) hk (isI_8_4) dX8_fewestIlls_30 (fun x3 => ?_)
    refine j_callVv (pc := 31) hk [.int v1, .int x3] [] rfl (fun l o hq9 => C8_goes v1 x3 st2 l o hq9) (rcv_8 (rfl)) yv_X8_goes ml_8_224 rfl (Nat.le_of_ble_eq_true rfl) (Nat.le_of_ble_eq_true rfl) (Nat.le_of_ble_eq_true rfl) dX8_fewestIlls_31 (fun _ st4 => ?_)
    refine j_iload_n (pc := 34) hk 2 rfl dX8_fewestIlls_34 ?_
    refine j_aload_n (pc := 35) hk 0 rfl ⟨_, rfl⟩ dX8_fewestIlls_35 ?_
    refine f_8_212 (pc := 36) hk (rfl) dX8_fewestIlls_36 (fun x5 => ?_)
    refine j_mmin (pc := 39) hk ml_8_198 wd_min1 wd_math wd_min2 (Nat.le_of_ble_eq_true rfl) (Nat.le_of_ble_eq_true rfl) dX8_fewestIlls_39 ?_
    refine j_istore_n (lv' := ((2, .int (fk_min v2 x5)) :: [(0, fk_r g 0), (1, .int v1), (3, .int v3)])) (pc := 42) hk rfl (by decide) rfl dX8_fewestIlls_42 ?_
    refine j_sub hk (lv' := [(0, fk_r g 0), (1, .int v1), (2, .int (fk_min v2 x5)), (3, .int v3)]) [1, 2, 0, 3] rfl ?_
    refine j_iinc (dd := (1 : Int32)) (lv' := ((3, .int (v3 + (1 : Int32))) :: [(0, fk_r g 0), (1, .int v1), (2, .int (fk_min v2 x5))])) (pc := 43) hk 3 rfl (by decide) (by decide) rfl dX8_fewestIlls_43 ?_
    refine j_sub hk (lv' := [(0, fk_r g 0), (1, .int v1), (2, .int (fk_min v2 x5)), (3, .int (v3 + (1 : Int32)))]) [1, 2, 3, 0] rfl ?_
    refine j_goto (tgt := 5) (pc := 46) hk (by decide) dX8_fewestIlls_46 ?_
    exact j_sub hk [0, 1, 2, 3] rfl (H5 v1 (fk_min v2 x5) (v3 + (1 : Int32)) st4)
set_option maxHeartbeats 1000000 in
set_option maxRecDepth 20000 in
theorem L8_fewestIlls_5 {g : fkG} {k : fkK} (hk : fk_ok wM g k RX8 cX8_fewestIlls 4 (some (.int)) 5 146) (fu : Nat) : ∀ (v1 : Int32) (v2 : Int32) (v3 : Int32) (st : fkS), fk_J wM g fk_eI k 5 [(0, fk_r g 0), (1, .int v1), (2, .int v2), (3, .int v3)] [] st (fk_lp3 (B8_fewestIlls_5) fu v1 v2 v3 st) := by
  induction fu with
  | zero =>
    intro v1 v2 v3 st
    exact j_none hk
  | succ fu ih =>
    exact T8_fewestIlls_5 hk _ ih
def F8_fewestIlls (p1 : Int32) (st : fkS) : Option (Int32 × fkS) :=
 fk_lp3 (B8_fewestIlls_5) fk_fuel p1 (99 : Int32) (0 : Int32) st
set_option maxHeartbeats 1000000 in
set_option maxRecDepth 20000 in
theorem C8_fewestIlls (p1 : Int32) (st : fkS) {g : fkG} (l : Launch) (o : Int32 × fkS) (hF : F8_fewestIlls p1 st = some o) : fk_C wM yX8_fewestIlls cX8_fewestIlls 4 (some (.int)) 5 146 l g [fk_r g 0, .int p1] st (fk_eI o.1) o.2 := by
  refine fk_begin rfl (Nat.le_of_ble_eq_true rfl) (fun k hk => ?_) o hF
  have hk : fk_ok wM g k RX8 cX8_fewestIlls 4 (some (.int)) 5 146 := hk
  show fk_J wM g fk_eI k 0 [(0, fk_r g 0), (1, .int p1)] [] st (F8_fewestIlls p1 st)
  unfold F8_fewestIlls
  refine j_bipush (pc := 0) hk dX8_fewestIlls_0 (v := 99) (by decide) ?_
  refine j_istore_n (lv' := ((2, .int (99 : Int32)) :: [(0, fk_r g 0), (1, .int p1)])) (pc := 2) hk rfl (by decide) rfl dX8_fewestIlls_2 ?_
  refine j_sub hk (lv' := [(0, fk_r g 0), (1, .int p1), (2, .int (99 : Int32))]) [1, 2, 0] rfl ?_
  refine j_iconst (pc := 3) hk dX8_fewestIlls_3 (v := 0) (by decide) ?_
  refine j_istore_n (lv' := ((3, .int (0 : Int32)) :: [(0, fk_r g 0), (1, .int p1), (2, .int (99 : Int32))])) (pc := 4) hk rfl (by decide) rfl dX8_fewestIlls_4 ?_
  refine j_sub hk (lv' := [(0, fk_r g 0), (1, .int p1), (2, .int (99 : Int32)), (3, .int (0 : Int32))]) [1, 2, 3, 0] rfl ?_
  exact j_sub hk [0, 1, 2, 3] rfl (L8_fewestIlls_5 hk fk_fuel p1 (99 : Int32) (0 : Int32) st)
theorem dX8_kings_0 : decode cX8_kings 0 = .ok (.aload_n 0, 1) := by decide +kernel
theorem dX8_kings_1 : decode cX8_kings 1 = .ok (.iload_n 1, 1) := by decide +kernel
theorem dX8_kings_2 : decode cX8_kings 2 = .ok (.iload_n 2, 1) := by decide +kernel
theorem dX8_kings_3 : decode cX8_kings 3 = .ok (.invokevirtual 218, 3) := by decide +kernel
theorem dX8_kings_6 : decode cX8_kings 6 = .ok (.istore 4, 2) := by decide +kernel
theorem dX8_kings_8 : decode cX8_kings 8 = .ok (.iload 4, 2) := by decide +kernel
theorem dX8_kings_10 : decode cX8_kings 10 = .ok (.ifCond .ge 10, 3) := by decide +kernel
theorem dX8_kings_13 : decode cX8_kings 13 = .ok (.aload_n 0, 1) := by decide +kernel
theorem dX8_kings_14 : decode cX8_kings 14 = .ok (.iload 4, 2) := by decide +kernel
theorem dX8_kings_16 : decode cX8_kings 16 = .ok (.invokevirtual 81, 3) := by decide +kernel
theorem dX8_kings_19 : decode cX8_kings 19 = .ok (.ireturn, 1) := by decide +kernel
theorem dX8_kings_20 : decode cX8_kings 20 = .ok (.iload_n 3, 1) := by decide +kernel
theorem dX8_kings_21 : decode cX8_kings 21 = .ok (.iconst 0, 1) := by decide +kernel
theorem dX8_kings_22 : decode cX8_kings 22 = .ok (.iconst 1, 1) := by decide +kernel
theorem dX8_kings_23 : decode cX8_kings 23 = .ok (.invokestatic 88, 3) := by decide +kernel
theorem dX8_kings_26 : decode cX8_kings 26 = .ok (.ifCond .ne 10, 3) := by decide +kernel
theorem dX8_kings_29 : decode cX8_kings 29 = .ok (.aload_n 0, 1) := by decide +kernel
theorem dX8_kings_30 : decode cX8_kings 30 = .ok (.bipush (-5), 2) := by decide +kernel
theorem dX8_kings_32 : decode cX8_kings 32 = .ok (.invokevirtual 81, 3) := by decide +kernel
theorem dX8_kings_35 : decode cX8_kings 35 = .ok (.ireturn, 1) := by decide +kernel
theorem dX8_kings_36 : decode cX8_kings 36 = .ok (.aload_n 0, 1) := by decide +kernel
theorem dX8_kings_37 : decode cX8_kings 37 = .ok (.iload_n 1, 1) := by decide +kernel
theorem dX8_kings_38 : decode cX8_kings 38 = .ok (.iconst 0, 1) := by decide +kernel
theorem dX8_kings_39 : decode cX8_kings 39 = .ok (.invokevirtual 221, 3) := by decide +kernel
theorem dX8_kings_42 : decode cX8_kings 42 = .ok (.ifCond .eq 10, 3) := by decide +kernel
theorem dX8_kings_45 : decode cX8_kings 45 = .ok (.aload_n 0, 1) := by decide +kernel
theorem dX8_kings_46 : decode cX8_kings 46 = .ok (.getfield 112, 3) := by decide +kernel
theorem dX8_kings_49 : decode cX8_kings 49 = .ok (.ifCond .ne 10, 3) := by decide +kernel
theorem dX8_kings_52 : decode cX8_kings 52 = .ok (.aload_n 0, 1) := by decide +kernel
theorem dX8_kings_53 : decode cX8_kings 53 = .ok (.bipush (-6), 2) := by decide +kernel
theorem dX8_kings_55 : decode cX8_kings 55 = .ok (.invokevirtual 81, 3) := by decide +kernel
theorem dX8_kings_58 : decode cX8_kings 58 = .ok (.ireturn, 1) := by decide +kernel
theorem dX8_kings_59 : decode cX8_kings 59 = .ok (.aload_n 0, 1) := by decide +kernel
theorem dX8_kings_60 : decode cX8_kings 60 = .ok (.getfield 19, 3) := by decide +kernel
theorem dX8_kings_63 : decode cX8_kings 63 = .ok (.iconst 0, 1) := by decide +kernel
theorem dX8_kings_64 : decode cX8_kings 64 = .ok (.iaload, 1) := by decide +kernel
theorem dX8_kings_65 : decode cX8_kings 65 = .ok (.istore 5, 2) := by decide +kernel
theorem dX8_kings_67 : decode cX8_kings 67 = .ok (.iconst (-1), 1) := by decide +kernel
theorem dX8_kings_68 : decode cX8_kings 68 = .ok (.istore 6, 2) := by decide +kernel
theorem dX8_kings_70 : decode cX8_kings 70 = .ok (.iconst 0, 1) := by decide +kernel
theorem dX8_kings_71 : decode cX8_kings 71 = .ok (.istore 7, 2) := by decide +kernel
theorem dX8_kings_73 : decode cX8_kings 73 = .ok (.iconst 0, 1) := by decide +kernel
theorem dX8_kings_74 : decode cX8_kings 74 = .ok (.istore 8, 2) := by decide +kernel
theorem dX8_kings_76 : decode cX8_kings 76 = .ok (.iload 8, 2) := by decide +kernel
theorem dX8_kings_78 : decode cX8_kings 78 = .ok (.bipush 10, 2) := by decide +kernel
theorem dX8_kings_80 : decode cX8_kings 80 = .ok (.if_icmp .ge 42, 3) := by decide +kernel
theorem dX8_kings_83 : decode cX8_kings 83 = .ok (.aload_n 0, 1) := by decide +kernel
theorem dX8_kings_84 : decode cX8_kings 84 = .ok (.getfield 19, 3) := by decide +kernel
theorem dX8_kings_87 : decode cX8_kings 87 = .ok (.iconst 0, 1) := by decide +kernel
theorem dX8_kings_88 : decode cX8_kings 88 = .ok (.iload 8, 2) := by decide +kernel
theorem dX8_kings_90 : decode cX8_kings 90 = .ok (.iastore, 1) := by decide +kernel
theorem dX8_kings_91 : decode cX8_kings 91 = .ok (.aload_n 0, 1) := by decide +kernel
theorem dX8_kings_92 : decode cX8_kings 92 = .ok (.iload_n 2, 1) := by decide +kernel
theorem dX8_kings_93 : decode cX8_kings 93 = .ok (.invokevirtual 259, 3) := by decide +kernel
theorem dX8_kings_96 : decode cX8_kings 96 = .ok (.istore 9, 2) := by decide +kernel
theorem dX8_kings_98 : decode cX8_kings 98 = .ok (.iload 9, 2) := by decide +kernel
theorem dX8_kings_100 : decode cX8_kings 100 = .ok (.iload 6, 2) := by decide +kernel
theorem dX8_kings_102 : decode cX8_kings 102 = .ok (.if_icmp .gt 6, 3) := by decide +kernel
theorem dX8_kings_105 : decode cX8_kings 105 = .ok (.goto 11, 3) := by decide +kernel
theorem dX8_kings_108 : decode cX8_kings 108 = .ok (.iload 9, 2) := by decide +kernel
theorem dX8_kings_110 : decode cX8_kings 110 = .ok (.istore 6, 2) := by decide +kernel
theorem dX8_kings_112 : decode cX8_kings 112 = .ok (.iload 8, 2) := by decide +kernel
theorem dX8_kings_114 : decode cX8_kings 114 = .ok (.istore 7, 2) := by decide +kernel
theorem dX8_kings_116 : decode cX8_kings 116 = .ok (.iinc 8 1, 3) := by decide +kernel
theorem dX8_kings_119 : decode cX8_kings 119 = .ok (.goto (-43), 3) := by decide +kernel
theorem dX8_kings_122 : decode cX8_kings 122 = .ok (.aload_n 0, 1) := by decide +kernel
theorem dX8_kings_123 : decode cX8_kings 123 = .ok (.getfield 19, 3) := by decide +kernel
theorem dX8_kings_126 : decode cX8_kings 126 = .ok (.iconst 0, 1) := by decide +kernel
theorem dX8_kings_127 : decode cX8_kings 127 = .ok (.iload 5, 2) := by decide +kernel
theorem dX8_kings_129 : decode cX8_kings 129 = .ok (.iastore, 1) := by decide +kernel
theorem dX8_kings_130 : decode cX8_kings 130 = .ok (.iload_n 3, 1) := by decide +kernel
theorem dX8_kings_131 : decode cX8_kings 131 = .ok (.ifCond .ne 8, 3) := by decide +kernel
theorem dX8_kings_134 : decode cX8_kings 134 = .ok (.iload 6, 2) := by decide +kernel
theorem dX8_kings_136 : decode cX8_kings 136 = .ok (.goto 5, 3) := by decide +kernel
theorem dX8_kings_139 : decode cX8_kings 139 = .ok (.iload 7, 2) := by decide +kernel
theorem dX8_kings_141 : decode cX8_kings 141 = .ok (.ireturn, 1) := by decide +kernel
def B8_kings_52 (st : fkS) : Option (Int32 × fkS) :=
 fk_bind (F8_no (-6 : Int32) st) <| fun x13 st14 =>
 some (x13, st14)
set_option maxHeartbeats 1000000 in
set_option maxRecDepth 20000 in
theorem T8_kings_52 {g : fkG} {k : fkK} (hk : fk_ok wM g k RX8 cX8_kings 10 (some (.int)) 6 169) : ∀ (st : fkS), fk_J wM g fk_eI k 52 [(0, fk_r g 0)] [] st (B8_kings_52 st) := by
  intro st
  unfold B8_kings_52
  refine j_aload_n (pc := 52) hk 0 rfl ⟨_, rfl⟩ dX8_kings_52 ?_
  refine j_bipush (pc := 53) hk dX8_kings_53 (v := -6) (by decide) ?_
  refine j_callVi (pc := 55) hk [.int (-6 : Int32)] [] rfl (fun l o hq9 => C8_no (-6 : Int32) st l o hq9) (rcv_8 (rfl)) yv_X8_no ml_8_81 rfl (Nat.le_of_ble_eq_true rfl) (Nat.le_of_ble_eq_true rfl) (Nat.le_of_ble_eq_true rfl) dX8_kings_55 (fun x13 st14 => ?_)
  exact j_iret (pc := 58) hk dX8_kings_58
def B8_kings_116 (k76 : Int32 → Int32 → Int32 → Int32 → Int32 → Int32 → fkS → Option (Int32 × fkS)) (v2 : Int32) (v3 : Int32) (v5 : Int32) (v6 : Int32) (v7 : Int32) (v8 : Int32) (st : fkS) : Option (Int32 × fkS) :=
 k76 v2 v3 v5 v6 v7 (v8 + (1 : Int32)) st
set_option maxHeartbeats 1000000 in
set_option maxRecDepth 20000 in
theorem T8_kings_116 {g : fkG} {k : fkK} (hk : fk_ok wM g k RX8 cX8_kings 10 (some (.int)) 6 169) (k76 : Int32 → Int32 → Int32 → Int32 → Int32 → Int32 → fkS → Option (Int32 × fkS)) (H76 : ∀ (v2 : Int32) (v3 : Int32) (v5 : Int32) (v6 : Int32) (v7 : Int32) (v8 : Int32) (st : fkS), fk_J wM g fk_eI k 76 [(0, fk_r g 0), (2, .int v2), (3, .int v3), (5, .int v5), (6, .int v6), (7, .int v7), (8, .int v8)] [] st (k76 v2 v3 v5 v6 v7 v8 st)) : ∀ (v2 : Int32) (v3 : Int32) (v5 : Int32) (v6 : Int32) (v7 : Int32) (v8 : Int32) (st : fkS), fk_J wM g fk_eI k 116 [(0, fk_r g 0), (2, .int v2), (3, .int v3), (5, .int v5), (6, .int v6), (7, .int v7), (8, .int v8)] [] st (B8_kings_116 k76 v2 v3 v5 v6 v7 v8 st) := by
  intro v2 v3 v5 v6 v7 v8 st
  unfold B8_kings_116
  refine j_iinc (dd := (1 : Int32)) (lv' := ((8, .int (v8 + (1 : Int32))) :: [(0, fk_r g 0), (2, .int v2), (3, .int v3), (5, .int v5), (6, .int v6), (7, .int v7)])) (pc := 116) hk 6 rfl (by decide) (by decide) rfl dX8_kings_116 ?_
  refine j_sub hk (lv' := [(0, fk_r g 0), (2, .int v2), (3, .int v3), (5, .int v5), (6, .int v6), (7, .int v7), (8, .int (v8 + (1 : Int32)))]) [1, 2, 3, 4, 5, 6, 0] rfl ?_
  refine j_goto (tgt := 76) (pc := 119) hk (by decide) dX8_kings_119 ?_
  exact j_sub hk [0, 1, 2, 3, 4, 5, 6] rfl (H76 v2 v3 v5 v6 v7 (v8 + (1 : Int32)) st)
def B8_kings_76 (k76 : Int32 → Int32 → Int32 → Int32 → Int32 → Int32 → fkS → Option (Int32 × fkS)) (v2 : Int32) (v3 : Int32) (v5 : Int32) (v6 : Int32) (v7 : Int32) (v8 : Int32) (st : fkS) : Option (Int32 × fkS) :=
 if (10 : Int32) ≤ v8 then
 (fk_chk (fk_in (0 : Int32) 3) <| fk_let (sA st 4 (0 : Int32).toNatClampNeg v5) <| fun st15 =>
 if v3 = 0 then
 (some (v6, st15))
 else
 (some (v7, st15)))
 else
 (fk_chk (fk_in (0 : Int32) 3) <| fk_let (sA st 4 (0 : Int32).toNatClampNeg v8) <| fun st16 =>
 fk_bind (F8_fewestIlls v2 st16) <| fun x17 st18 =>
 if v6 < x17 then
 (B8_kings_116 k76 v2 v3 v5 x17 v8 v8 st18)
 else
 (B8_kings_116 k76 v2 v3 v5 v6 v7 v8 st18))
set_option maxHeartbeats 1000000 in
set_option maxRecDepth 20000 in
theorem T8_kings_76 {g : fkG} {k : fkK} (hk : fk_ok wM g k RX8 cX8_kings 10 (some (.int)) 6 169) (k76 : Int32 → Int32 → Int32 → Int32 → Int32 → Int32 → fkS → Option (Int32 × fkS)) (H76 : ∀ (v2 : Int32) (v3 : Int32) (v5 : Int32) (v6 : Int32) (v7 : Int32) (v8 : Int32) (st : fkS), fk_J wM g fk_eI k 76 [(0, fk_r g 0), (2, .int v2), (3, .int v3), (5, .int v5), (6, .int v6), (7, .int v7), (8, .int v8)] [] st (k76 v2 v3 v5 v6 v7 v8 st)) : ∀ (v2 : Int32) (v3 : Int32) (v5 : Int32) (v6 : Int32) (v7 : Int32) (v8 : Int32) (st : fkS), fk_J wM g fk_eI k 76 [(0, fk_r g 0), (2, .int v2), (3, .int v3), (5, .int v5), (6, .int v6), (7, .int v7), (8, .int v8)] [] st (B8_kings_76 k76 v2 v3 v5 v6 v7 v8 st) := by
  intro v2 v3 v5 v6 v7 v8 st
  unfold B8_kings_76
  refine j_iload (pc := 76) hk 6 rfl dX8_kings_76 ?_
  refine j_bipush (pc := 78) hk dX8_kings_78 (v := 10) (by decide) ?_
  refine j_icmp_ge (tgt := 122) (pc := 80) hk (by decide) dX8_kings_80 (fun _ => ?_) (fun _ => ?_)
  · refine j_aload_n (pc := 122) hk 0 rfl ⟨_, rfl⟩ dX8_kings_122 ?_
    refine f_8_19 (pc := 123) hk (rfl) dX8_kings_123 ?_
    refine j_iconst (pc := 126) hk dX8_kings_126 (v := 0) (by decide) ?_
    refine j_iload (pc := 127) hk 3 rfl dX8_kings_127 ?_
    refine a_istore (pc := 129) hk (isI_8_4) dX8_kings_129 (fun st15 => ?_)
    refine j_iload_n (pc := 130) hk 2 rfl dX8_kings_130 ?_
    refine j_if_ne (tgt := 139) (pc := 131) hk (by decide) dX8_kings_131 (fun _ => ?_) (fun _ => ?_)
    · refine j_iload (pc := 134) hk 4 rfl dX8_kings_134 ?_
      refine j_goto (tgt := 141) (pc := 136) hk (by decide) dX8_kings_136 ?_
      exact j_iret (pc := 141) hk dX8_kings_141
    · refine j_iload (pc := 139) hk 5 rfl dX8_kings_139 ?_
      exact j_iret (pc := 141) hk dX8_kings_141
  · refine j_aload_n (pc := 83) hk 0 rfl ⟨_, rfl⟩ dX8_kings_83 ?_
    refine f_8_19 (pc := 84) hk (rfl) dX8_kings_84 ?_
    refine j_iconst (pc := 87) hk dX8_kings_87 (v := 0) (by decide) ?_
    refine j_iload (pc := 88) hk 6 rfl dX8_kings_88 ?_
    refine a_istore (pc := 90) hk (isI_8_4) dX8_kings_90 (fun st16 => ?_)
    refine j_aload_n (pc := 91) hk 0 rfl ⟨_, rfl⟩ dX8_kings_91 ?_
    refine j_iload_n (pc := 92) hk 1 rfl dX8_kings_92 ?_
    refine j_callVi (pc := 93) hk [.int v2] [] rfl (fun l o hq9 => C8_fewestIlls v2 st16 l o hq9) (rcv_8 (rfl)) yv_X8_fewestIlls ml_8_259 rfl (Nat.le_of_ble_eq_true rfl) (Nat.le_of_ble_eq_true rfl) (Nat.le_of_ble_eq_true rfl) dX8_kings_93 (fun x17 st18 => ?_)
    refine j_istore (lv' := ((9, .int x17) :: [(0, fk_r g 0), (2, .int v2), (3, .int v3), (5, .int v5), (6, .int v6), (7, .int v7), (8, .int v8)])) (pc := 96) hk (by decide) rfl dX8_kings_96 ?_
    refine j_sub hk (lv' := [(0, fk_r g 0), (2, .int v2), (3, .int v3), (5, .int v5), (6, .int v6), (7, .int v7), (8, .int v8), (9, .int x17)]) [1, 2, 3, 4, 5, 6, 7, 0] rfl ?_
    refine j_iload (pc := 98) hk 7 rfl dX8_kings_98 ?_
    refine j_iload (pc := 100) hk 4 rfl dX8_kings_100 ?_
    refine j_icmp_gt (tgt := 108) (pc := 102) hk (by decide) dX8_kings_102 (fun _ => ?_) (fun _ => ?_)
    · refine j_iload (pc := 108) hk 7 rfl dX8_kings_108 ?_
      refine j_istore (lv' := ((6, .int x17) :: [(0, fk_r g 0), (2, .int v2), (3, .int v3), (5, .int v5), (7, .int v7), (8, .int v8), (9, .int x17)])) (pc := 110) hk (by decide) rfl dX8_kings_110 ?_
      refine j_sub hk (lv' := [(0, fk_r g 0), (2, .int v2), (3, .int v3), (5, .int v5), (6, .int x17), (7, .int v7), (8, .int v8), (9, .int x17)]) [1, 2, 3, 4, 0, 5, 6, 7] rfl ?_
      refine j_iload (pc := 112) hk 6 rfl dX8_kings_112 ?_
      refine j_istore (lv' := ((7, .int v8) :: [(0, fk_r g 0), (2, .int v2), (3, .int v3), (5, .int v5), (6, .int x17), (8, .int v8), (9, .int x17)])) (pc := 114) hk (by decide) rfl dX8_kings_114 ?_
      refine j_sub hk (lv' := [(0, fk_r g 0), (2, .int v2), (3, .int v3), (5, .int v5), (6, .int x17), (7, .int v8), (8, .int v8), (9, .int x17)]) [1, 2, 3, 4, 5, 0, 6, 7] rfl ?_
      exact j_sub hk [0, 1, 2, 3, 4, 5, 6] rfl (T8_kings_116 hk k76 H76 v2 v3 v5 x17 v8 v8 st18)
    · refine j_goto (tgt := 116) (pc := 105) hk (by decide) dX8_kings_105 ?_
      exact j_sub hk [0, 1, 2, 3, 4, 5, 6] rfl (T8_kings_116 hk k76 H76 v2 v3 v5 v6 v7 v8 st18)
set_option maxHeartbeats 1000000 in
set_option maxRecDepth 20000 in
theorem L8_kings_76 {g : fkG} {k : fkK} (hk : fk_ok wM g k RX8 cX8_kings 10 (some (.int)) 6 169) (fu : Nat) : ∀ (v2 : Int32) (v3 : Int32) (v5 : Int32) (v6 : Int32) (v7 : Int32) (v8 : Int32) (st : fkS), fk_J wM g fk_eI k 76 [(0, fk_r g 0), (2, .int v2), (3, .int v3), (5, .int v5), (6, .int v6), (7, .int v7), (8, .int v8)] [] st (fk_lp6 (B8_kings_76) fu v2 v3 v5 v6 v7 v8 st) := by
  induction fu with
  | zero =>
    intro v2 v3 v5 v6 v7 v8 st
    exact j_none hk
  | succ fu ih =>
    exact T8_kings_76 hk _ ih
def F8_kings (p1 : Int32) (p2 : Int32) (p3 : Int32) (st : fkS) : Option (Int32 × fkS) :=
 fk_bind (F8_noPie p1 p2 st) <| fun x1 st2 =>
 if 0 ≤ x1 then
 (fk_bind (F8_within p3 (0 : Int32) (1 : Int32) st2) <| fun x3 st4 =>
 if x3 = 0 then
 (fk_bind (F8_no (-5 : Int32) st4) <| fun x5 st6 =>
 some (x5, st6))
 else
 (fk_bind (F8_isPie p1 (0 : Int32) st4) <| fun x7 st8 =>
 if x7 = 0 then
 (B8_kings_52 st8)
 else
 (fk_let (gI st8 22 0) <| fun x9 =>
 if x9 = 0 then
 (B8_kings_52 st8)
 else
 (fk_chk (fk_in (0 : Int32) 3) <| fk_let (gA st8 4 (0 : Int32).toNatClampNeg) <| fun x10 =>
 fk_lp6 (B8_kings_76) fk_fuel p2 p3 x10 (-1 : Int32) (0 : Int32) (0 : Int32) st8))))
 else
 (fk_bind (F8_no x1 st2) <| fun x11 st12 =>
 some (x11, st12))
set_option maxHeartbeats 1000000 in
set_option maxRecDepth 20000 in
theorem C8_kings (p1 : Int32) (p2 : Int32) (p3 : Int32) (st : fkS) {g : fkG} (l : Launch) (o : Int32 × fkS) (hF : F8_kings p1 p2 p3 st = some o) : fk_C wM yX8_kings cX8_kings 10 (some (.int)) 6 169 l g [fk_r g 0, .int p1, .int p2, .int p3] st (fk_eI o.1) o.2 := by
  refine fk_begin rfl (Nat.le_of_ble_eq_true rfl) (fun k hk => ?_) o hF
  have hk : fk_ok wM g k RX8 cX8_kings 10 (some (.int)) 6 169 := hk
  show fk_J wM g fk_eI k 0 [(0, fk_r g 0), (1, .int p1), (2, .int p2), (3, .int p3)] [] st (F8_kings p1 p2 p3 st)
  unfold F8_kings
  refine j_aload_n (pc := 0) hk 0 rfl ⟨_, rfl⟩ dX8_kings_0 ?_
  refine j_iload_n (pc := 1) hk 1 rfl dX8_kings_1 ?_
  refine j_iload_n (pc := 2) hk 2 rfl dX8_kings_2 ?_
  refine j_callVi (pc := 3) hk [.int p1, .int p2] [] rfl (fun l o hq9 => C8_noPie p1 p2 st l o hq9) (rcv_8 (rfl)) yv_X8_noPie ml_8_218 rfl (Nat.le_of_ble_eq_true rfl) (Nat.le_of_ble_eq_true rfl) (Nat.le_of_ble_eq_true rfl) dX8_kings_3 (fun x1 st2 => ?_)
  refine j_istore (lv' := ((4, .int x1) :: [(0, fk_r g 0), (1, .int p1), (2, .int p2), (3, .int p3)])) (pc := 6) hk (by decide) rfl dX8_kings_6 ?_
  refine j_sub hk (lv' := [(0, fk_r g 0), (1, .int p1), (2, .int p2), (3, .int p3), (4, .int x1)]) [1, 2, 3, 4, 0] rfl ?_
  refine j_iload (pc := 8) hk 4 rfl dX8_kings_8 ?_
  refine j_if_ge (tgt := 20) (pc := 10) hk (by decide) dX8_kings_10 (fun _ => ?_) (fun _ => ?_)
  · refine j_iload_n (pc := 20) hk 3 rfl dX8_kings_20 ?_
    refine j_iconst (pc := 21) hk dX8_kings_21 (v := 0) (by decide) ?_
    refine j_iconst (pc := 22) hk dX8_kings_22 (v := 1) (by decide) ?_
    refine j_callSi (pc := 23) hk [.int p3, .int (0 : Int32), .int (1 : Int32)] [] rfl (fun l o hq9 => C8_within p3 (0 : Int32) (1 : Int32) st2 l o hq9) yv_X8_within ml_8_88 rfl (Nat.le_of_ble_eq_true rfl) (Nat.le_of_ble_eq_true rfl) (Nat.le_of_ble_eq_true rfl) dX8_kings_23 (fun x3 st4 => ?_)
    refine j_if_ne (tgt := 36) (pc := 26) hk (by decide) dX8_kings_26 (fun _ => ?_) (fun _ => ?_)
    · refine j_aload_n (pc := 29) hk 0 rfl ⟨_, rfl⟩ dX8_kings_29 ?_
      refine j_bipush (pc := 30) hk dX8_kings_30 (v := -5) (by decide) ?_
      refine j_callVi (pc := 32) hk [.int (-5 : Int32)] [] rfl (fun l o hq9 => C8_no (-5 : Int32) st4 l o hq9) (rcv_8 (rfl)) yv_X8_no ml_8_81 rfl (Nat.le_of_ble_eq_true rfl) (Nat.le_of_ble_eq_true rfl) (Nat.le_of_ble_eq_true rfl) dX8_kings_32 (fun x5 st6 => ?_)
      exact j_iret (pc := 35) hk dX8_kings_35
    · refine j_aload_n (pc := 36) hk 0 rfl ⟨_, rfl⟩ dX8_kings_36 ?_
      refine j_iload_n (pc := 37) hk 1 rfl dX8_kings_37 ?_
      refine j_iconst (pc := 38) hk dX8_kings_38 (v := 0) (by decide) ?_
      refine j_callVi (pc := 39) hk [.int p1, .int (0 : Int32)] [] rfl (fun l o hq9 => C8_isPie p1 (0 : Int32) st4 l o hq9) (rcv_8 (rfl)) yv_X8_isPie ml_8_221 rfl (Nat.le_of_ble_eq_true rfl) (Nat.le_of_ble_eq_true rfl) (Nat.le_of_ble_eq_true rfl) dX8_kings_39 (fun x7 st8 => ?_)
      refine j_if_eq (tgt := 52) (pc := 42) hk (by decide) dX8_kings_42 (fun _ => ?_) (fun _ => ?_)
      · exact j_sub hk [0] rfl (T8_kings_52 hk st8)
      · refine j_aload_n (pc := 45) hk 0 rfl ⟨_, rfl⟩ dX8_kings_45 ?_
        refine f_8_112 (pc := 46) hk (rfl) dX8_kings_46 (fun x9 => ?_)
        refine j_if_ne (tgt := 59) (pc := 49) hk (by decide) dX8_kings_49 (fun _ => ?_) (fun _ => ?_)
        · exact j_sub hk [0] rfl (T8_kings_52 hk st8)
        · refine j_aload_n (pc := 59) hk 0 rfl ⟨_, rfl⟩ dX8_kings_59 ?_
          refine f_8_19 (pc := 60) hk (rfl) dX8_kings_60 ?_
          refine j_iconst (pc := 63) hk dX8_kings_63 (v := 0) (by decide) ?_
          refine a_iload (pc := 64) hk (isI_8_4) dX8_kings_64 (fun x10 => ?_)
          refine j_istore (lv' := ((5, .int x10) :: [(0, fk_r g 0), (1, .int p1), (2, .int p2), (3, .int p3), (4, .int x1)])) (pc := 65) hk (by decide) rfl dX8_kings_65 ?_
          refine j_sub hk (lv' := [(0, fk_r g 0), (1, .int p1), (2, .int p2), (3, .int p3), (4, .int x1), (5, .int x10)]) [1, 2, 3, 4, 5, 0] rfl ?_
          refine j_iconst (pc := 67) hk dX8_kings_67 (v := -1) (by decide) ?_
          refine j_istore (lv' := ((6, .int (-1 : Int32)) :: [(0, fk_r g 0), (1, .int p1), (2, .int p2), (3, .int p3), (4, .int x1), (5, .int x10)])) (pc := 68) hk (by decide) rfl dX8_kings_68 ?_
          refine j_sub hk (lv' := [(0, fk_r g 0), (1, .int p1), (2, .int p2), (3, .int p3), (4, .int x1), (5, .int x10), (6, .int (-1 : Int32))]) [1, 2, 3, 4, 5, 6, 0] rfl ?_
          refine j_iconst (pc := 70) hk dX8_kings_70 (v := 0) (by decide) ?_
          refine j_istore (lv' := ((7, .int (0 : Int32)) :: [(0, fk_r g 0), (1, .int p1), (2, .int p2), (3, .int p3), (4, .int x1), (5, .int x10), (6, .int (-1 : Int32))])) (pc := 71) hk (by decide) rfl dX8_kings_71 ?_
          refine j_sub hk (lv' := [(0, fk_r g 0), (1, .int p1), (2, .int p2), (3, .int p3), (4, .int x1), (5, .int x10), (6, .int (-1 : Int32)), (7, .int (0 : Int32))]) [1, 2, 3, 4, 5, 6, 7, 0] rfl ?_
          refine j_iconst (pc := 73) hk dX8_kings_73 (v := 0) (by decide) ?_
          refine j_istore (lv' := ((8, .int (0 : Int32)) :: [(0, fk_r g 0), (1, .int p1), (2, .int p2), (3, .int p3), (4, .int x1), (5, .int x10), (6, .int (-1 : Int32)), (7, .int (0 : Int32))])) (pc := 74) hk (by decide) rfl dX8_kings_74 ?_
          refine j_sub hk (lv' := [(0, fk_r g 0), (1, .int p1), (2, .int p2), (3, .int p3), (4, .int x1), (5, .int x10), (6, .int (-1 : Int32)), (7, .int (0 : Int32)), (8, .int (0 : Int32))]) [1, 2, 3, 4, 5, 6, 7, 8, 0] rfl ?_
          exact j_sub hk [0, 2, 3, 5, 6, 7, 8] rfl (L8_kings_76 hk fk_fuel p2 p3 x10 (-1 : Int32) (0 : Int32) (0 : Int32) st8)
  · refine j_aload_n (pc := 13) hk 0 rfl ⟨_, rfl⟩ dX8_kings_13 ?_
    refine j_iload (pc := 14) hk 4 rfl dX8_kings_14 ?_
    refine j_callVi (pc := 16) hk [.int x1] [] rfl (fun l o hq9 => C8_no x1 st2 l o hq9) (rcv_8 (rfl)) yv_X8_no ml_8_81 rfl (Nat.le_of_ble_eq_true rfl) (Nat.le_of_ble_eq_true rfl) (Nat.le_of_ble_eq_true rfl) dX8_kings_16 (fun x11 st12 => ?_)
    exact j_iret (pc := 19) hk dX8_kings_19
theorem dX8_parts_0 : decode cX8_parts 0 = .ok (.iload_n 1, 1) := by decide +kernel
theorem dX8_parts_1 : decode cX8_parts 1 = .ok (.aload_n 0, 1) := by decide +kernel
theorem dX8_parts_2 : decode cX8_parts 2 = .ok (.getfield 262, 3) := by decide +kernel
theorem dX8_parts_5 : decode cX8_parts 5 = .ok (.if_icmp .ne 48, 3) := by decide +kernel
theorem dX8_parts_8 : decode cX8_parts 8 = .ok (.iload_n 3, 1) := by decide +kernel
theorem dX8_parts_9 : decode cX8_parts 9 = .ok (.aload_n 0, 1) := by decide +kernel
theorem dX8_parts_10 : decode cX8_parts 10 = .ok (.getfield 265, 3) := by decide +kernel
theorem dX8_parts_13 : decode cX8_parts 13 = .ok (.if_icmp .gt 4, 3) := by decide +kernel
theorem dX8_parts_16 : decode cX8_parts 16 = .ok (.return_, 1) := by decide +kernel
theorem dX8_parts_17 : decode cX8_parts 17 = .ok (.aload_n 0, 1) := by decide +kernel
theorem dX8_parts_18 : decode cX8_parts 18 = .ok (.iload_n 3, 1) := by decide +kernel
theorem dX8_parts_19 : decode cX8_parts 19 = .ok (.putfield 265, 3) := by decide +kernel
theorem dX8_parts_22 : decode cX8_parts 22 = .ok (.iconst 0, 1) := by decide +kernel
theorem dX8_parts_23 : decode cX8_parts 23 = .ok (.istore 4, 2) := by decide +kernel
theorem dX8_parts_25 : decode cX8_parts 25 = .ok (.iload 4, 2) := by decide +kernel
theorem dX8_parts_27 : decode cX8_parts 27 = .ok (.bipush 7, 2) := by decide +kernel
theorem dX8_parts_29 : decode cX8_parts 29 = .ok (.if_icmp .ge 23, 3) := by decide +kernel
theorem dX8_parts_32 : decode cX8_parts 32 = .ok (.aload_n 0, 1) := by decide +kernel
theorem dX8_parts_33 : decode cX8_parts 33 = .ok (.getfield 71, 3) := by decide +kernel
theorem dX8_parts_36 : decode cX8_parts 36 = .ok (.iload 4, 2) := by decide +kernel
theorem dX8_parts_38 : decode cX8_parts 38 = .ok (.aload_n 0, 1) := by decide +kernel
theorem dX8_parts_39 : decode cX8_parts 39 = .ok (.getfield 68, 3) := by decide +kernel
theorem dX8_parts_42 : decode cX8_parts 42 = .ok (.iload 4, 2) := by decide +kernel
theorem dX8_parts_44 : decode cX8_parts 44 = .ok (.iaload, 1) := by decide +kernel
theorem dX8_parts_45 : decode cX8_parts 45 = .ok (.iastore, 1) := by decide +kernel
theorem dX8_parts_46 : decode cX8_parts 46 = .ok (.iinc 4 1, 3) := by decide +kernel
theorem dX8_parts_49 : decode cX8_parts 49 = .ok (.goto (-24), 3) := by decide +kernel
theorem dX8_parts_52 : decode cX8_parts 52 = .ok (.return_, 1) := by decide +kernel
theorem dX8_parts_53 : decode cX8_parts 53 = .ok (.iconst 0, 1) := by decide +kernel
theorem dX8_parts_54 : decode cX8_parts 54 = .ok (.istore 4, 2) := by decide +kernel
theorem dX8_parts_56 : decode cX8_parts 56 = .ok (.iload 4, 2) := by decide +kernel
theorem dX8_parts_58 : decode cX8_parts 58 = .ok (.aload_n 0, 1) := by decide +kernel
theorem dX8_parts_59 : decode cX8_parts 59 = .ok (.getfield 85, 3) := by decide +kernel
theorem dX8_parts_62 : decode cX8_parts 62 = .ok (.if_icmp .ge 61, 3) := by decide +kernel
theorem dX8_parts_65 : decode cX8_parts 65 = .ok (.iload_n 2, 1) := by decide +kernel
theorem dX8_parts_66 : decode cX8_parts 66 = .ok (.iload 4, 2) := by decide +kernel
theorem dX8_parts_68 : decode cX8_parts 68 = .ok (.invokestatic 215, 3) := by decide +kernel
theorem dX8_parts_71 : decode cX8_parts 71 = .ok (.ifCond .ne 46, 3) := by decide +kernel
theorem dX8_parts_74 : decode cX8_parts 74 = .ok (.aload_n 0, 1) := by decide +kernel
theorem dX8_parts_75 : decode cX8_parts 75 = .ok (.getfield 65, 3) := by decide +kernel
theorem dX8_parts_78 : decode cX8_parts 78 = .ok (.iload 4, 2) := by decide +kernel
theorem dX8_parts_80 : decode cX8_parts 80 = .ok (.iaload, 1) := by decide +kernel
theorem dX8_parts_81 : decode cX8_parts 81 = .ok (.aload_n 0, 1) := by decide +kernel
theorem dX8_parts_82 : decode cX8_parts 82 = .ok (.getfield 62, 3) := by decide +kernel
theorem dX8_parts_85 : decode cX8_parts 85 = .ok (.iload_n 1, 1) := by decide +kernel
theorem dX8_parts_86 : decode cX8_parts 86 = .ok (.iaload, 1) := by decide +kernel
theorem dX8_parts_87 : decode cX8_parts 87 = .ok (.if_icmp .eq 6, 3) := by decide +kernel
theorem dX8_parts_90 : decode cX8_parts 90 = .ok (.goto 27, 3) := by decide +kernel
theorem dX8_parts_93 : decode cX8_parts 93 = .ok (.aload_n 0, 1) := by decide +kernel
theorem dX8_parts_94 : decode cX8_parts 94 = .ok (.getfield 68, 3) := by decide +kernel
theorem dX8_parts_97 : decode cX8_parts 97 = .ok (.iload_n 1, 1) := by decide +kernel
theorem dX8_parts_98 : decode cX8_parts 98 = .ok (.iload 4, 2) := by decide +kernel
theorem dX8_parts_100 : decode cX8_parts 100 = .ok (.iastore, 1) := by decide +kernel
theorem dX8_parts_101 : decode cX8_parts 101 = .ok (.aload_n 0, 1) := by decide +kernel
theorem dX8_parts_102 : decode cX8_parts 102 = .ok (.iload_n 1, 1) := by decide +kernel
theorem dX8_parts_103 : decode cX8_parts 103 = .ok (.iconst 1, 1) := by decide +kernel
theorem dX8_parts_104 : decode cX8_parts 104 = .ok (.iadd, 1) := by decide +kernel
theorem dX8_parts_105 : decode cX8_parts 105 = .ok (.iload_n 2, 1) := by decide +kernel
theorem dX8_parts_106 : decode cX8_parts 106 = .ok (.iconst 1, 1) := by decide +kernel
theorem dX8_parts_107 : decode cX8_parts 107 = .ok (.iload 4, 2) := by decide +kernel
theorem dX8_parts_109 : decode cX8_parts 109 = .ok (.ishl, 1) := by decide +kernel
theorem dX8_parts_110 : decode cX8_parts 110 = .ok (.ior, 1) := by decide +kernel
theorem dX8_parts_111 : decode cX8_parts 111 = .ok (.iload_n 3, 1) := by decide +kernel
theorem dX8_parts_112 : decode cX8_parts 112 = .ok (.iconst 1, 1) := by decide +kernel
theorem dX8_parts_113 : decode cX8_parts 113 = .ok (.iadd, 1) := by decide +kernel
theorem dX8_parts_114 : decode cX8_parts 114 = .ok (.invokevirtual 268, 3) := by decide +kernel
theorem dX8_parts_117 : decode cX8_parts 117 = .ok (.iinc 4 1, 3) := by decide +kernel
theorem dX8_parts_120 : decode cX8_parts 120 = .ok (.goto (-64), 3) := by decide +kernel
theorem dX8_parts_123 : decode cX8_parts 123 = .ok (.aload_n 0, 1) := by decide +kernel
theorem dX8_parts_124 : decode cX8_parts 124 = .ok (.getfield 68, 3) := by decide +kernel
theorem dX8_parts_127 : decode cX8_parts 127 = .ok (.iload_n 1, 1) := by decide +kernel
theorem dX8_parts_128 : decode cX8_parts 128 = .ok (.iconst (-1), 1) := by decide +kernel
theorem dX8_parts_129 : decode cX8_parts 129 = .ok (.iastore, 1) := by decide +kernel
theorem dX8_parts_130 : decode cX8_parts 130 = .ok (.aload_n 0, 1) := by decide +kernel
theorem dX8_parts_131 : decode cX8_parts 131 = .ok (.iload_n 1, 1) := by decide +kernel
theorem dX8_parts_132 : decode cX8_parts 132 = .ok (.iconst 1, 1) := by decide +kernel
theorem dX8_parts_133 : decode cX8_parts 133 = .ok (.iadd, 1) := by decide +kernel
theorem dX8_parts_134 : decode cX8_parts 134 = .ok (.iload_n 2, 1) := by decide +kernel
theorem dX8_parts_135 : decode cX8_parts 135 = .ok (.iload_n 3, 1) := by decide +kernel
theorem dX8_parts_136 : decode cX8_parts 136 = .ok (.invokevirtual 268, 3) := by decide +kernel
theorem dX8_parts_139 : decode cX8_parts 139 = .ok (.return_, 1) := by decide +kernel
def B8_parts_25 (rec : Int32 → Int32 → Int32 → fkS → Option (Unit × fkS)) (k25 : Int32 → fkS → Option (Unit × fkS)) (v4 : Int32) (st : fkS) : Option (Unit × fkS) :=
 if (7 : Int32) ≤ v4 then
 (some ((), st))
 else
 (fk_chk (fk_in v4 7) <| fk_let (gA st 20 v4.toNatClampNeg) <| fun x4 =>
 fk_chk (fk_in v4 7) <| fk_let (sA st 21 v4.toNatClampNeg x4) <| fun st5 =>
 k25 (v4 + (1 : Int32)) st5)
set_option maxHeartbeats 1000000 in
set_option maxRecDepth 20000 in
theorem T8_parts_25 {g : fkG} {k : fkK} (rec : Int32 → Int32 → Int32 → fkS → Option (Unit × fkS)) {n : Nat} (hrec : ∀ (p1 : Int32) (p2 : Int32) (p3 : Int32) (st : fkS) (l : Launch) (o : Unit × fkS), rec p1 p2 p3 st = some o → fk_C wM yX8_parts cX8_parts 5 none (n + 1) (n * 24 + 21) l g [fk_r g 0, .int p1, .int p2, .int p3] st (fk_eU o.1) o.2) (hk : fk_ok wM g k RX8 cX8_parts 5 none (n + 1 + 1) ((n + 1) * 24 + 21)) (k25 : Int32 → fkS → Option (Unit × fkS)) (H25 : ∀ (v4 : Int32) (st : fkS), fk_J wM g fk_eU k 25 [(0, fk_r g 0), (4, .int v4)] [] st (k25 v4 st)) : ∀ (v4 : Int32) (st : fkS), fk_J wM g fk_eU k 25 [(0, fk_r g 0), (4, .int v4)] [] st (B8_parts_25 rec k25 v4 st) := by
  intro v4 st
  unfold B8_parts_25
  refine j_iload (pc := 25) hk 1 rfl dX8_parts_25 ?_
  refine j_bipush (pc := 27) hk dX8_parts_27 (v := 7) (by decide) ?_
  refine j_icmp_ge (tgt := 52) (pc := 29) hk (by decide) dX8_parts_29 (fun _ => ?_) (fun _ => ?_)
  · exact j_vret (pc := 52) hk dX8_parts_52
  · refine j_aload_n (pc := 32) hk 0 rfl ⟨_, rfl⟩ dX8_parts_32 ?_
    refine f_8_71 (pc := 33) hk (rfl) dX8_parts_33 ?_
    refine j_iload (pc := 36) hk 1 rfl dX8_parts_36 ?_
    refine j_aload_n (pc := 38) hk 0 rfl ⟨_, rfl⟩ dX8_parts_38 ?_
    refine f_8_68 (pc := 39) hk (rfl) dX8_parts_39 ?_
    refine j_iload (pc := 42) hk 1 rfl dX8_parts_42 ?_
    refine a_iload (pc := 44) hk (isI_8_33) dX8_parts_44 (fun x4 => ?_)
    refine a_istore (pc := 45) hk (isI_8_34) dX8_parts_45 (fun st5 => ?_)
    refine j_iinc (dd := (1 : Int32)) (lv' := ((4, .int (v4 + (1 : Int32))) :: [(0, fk_r g 0)])) (pc := 46) hk 1 rfl (by decide) (by decide) rfl dX8_parts_46 ?_
    refine j_sub hk (lv' := [(0, fk_r g 0), (4, .int (v4 + (1 : Int32)))]) [1, 0] rfl ?_
    refine j_goto (tgt := 25) (pc := 49) hk (by decide) dX8_parts_49 ?_
    exact j_sub hk [0, 1] rfl (H25 (v4 + (1 : Int32)) st5)
set_option maxHeartbeats 1000000 in
set_option maxRecDepth 20000 in
theorem L8_parts_25 {g : fkG} {k : fkK} (rec : Int32 → Int32 → Int32 → fkS → Option (Unit × fkS)) {n : Nat} (hrec : ∀ (p1 : Int32) (p2 : Int32) (p3 : Int32) (st : fkS) (l : Launch) (o : Unit × fkS), rec p1 p2 p3 st = some o → fk_C wM yX8_parts cX8_parts 5 none (n + 1) (n * 24 + 21) l g [fk_r g 0, .int p1, .int p2, .int p3] st (fk_eU o.1) o.2) (hk : fk_ok wM g k RX8 cX8_parts 5 none (n + 1 + 1) ((n + 1) * 24 + 21)) (fu : Nat) : ∀ (v4 : Int32) (st : fkS), fk_J wM g fk_eU k 25 [(0, fk_r g 0), (4, .int v4)] [] st (fk_lp1 (B8_parts_25 rec) fu v4 st) := by
  induction fu with
  | zero =>
    intro v4 st
    exact j_none hk
  | succ fu ih =>
    exact T8_parts_25 rec hrec hk _ ih
def B8_parts_117 (rec : Int32 → Int32 → Int32 → fkS → Option (Unit × fkS)) (k56 : Int32 → Int32 → Int32 → Int32 → fkS → Option (Unit × fkS)) (v1 : Int32) (v2 : Int32) (v3 : Int32) (v4 : Int32) (st : fkS) : Option (Unit × fkS) :=
 k56 v1 v2 v3 (v4 + (1 : Int32)) st
set_option maxHeartbeats 1000000 in
set_option maxRecDepth 20000 in
theorem T8_parts_117 {g : fkG} {k : fkK} (rec : Int32 → Int32 → Int32 → fkS → Option (Unit × fkS)) {n : Nat} (hrec : ∀ (p1 : Int32) (p2 : Int32) (p3 : Int32) (st : fkS) (l : Launch) (o : Unit × fkS), rec p1 p2 p3 st = some o → fk_C wM yX8_parts cX8_parts 5 none (n + 1) (n * 24 + 21) l g [fk_r g 0, .int p1, .int p2, .int p3] st (fk_eU o.1) o.2) (hk : fk_ok wM g k RX8 cX8_parts 5 none (n + 1 + 1) ((n + 1) * 24 + 21)) (k56 : Int32 → Int32 → Int32 → Int32 → fkS → Option (Unit × fkS)) (H56 : ∀ (v1 : Int32) (v2 : Int32) (v3 : Int32) (v4 : Int32) (st : fkS), fk_J wM g fk_eU k 56 [(0, fk_r g 0), (1, .int v1), (2, .int v2), (3, .int v3), (4, .int v4)] [] st (k56 v1 v2 v3 v4 st)) : ∀ (v1 : Int32) (v2 : Int32) (v3 : Int32) (v4 : Int32) (st : fkS), fk_J wM g fk_eU k 117 [(0, fk_r g 0), (1, .int v1), (2, .int v2), (3, .int v3), (4, .int v4)] [] st (B8_parts_117 rec k56 v1 v2 v3 v4 st) := by
  intro v1 v2 v3 v4 st
  unfold B8_parts_117
  refine j_iinc (dd := (1 : Int32)) (lv' := ((4, .int (v4 + (1 : Int32))) :: [(0, fk_r g 0), (1, .int v1), (2, .int v2), (3, .int v3)])) (pc := 117) hk 4 rfl (by decide) (by decide) rfl dX8_parts_117 ?_
  refine j_sub hk (lv' := [(0, fk_r g 0), (1, .int v1), (2, .int v2), (3, .int v3), (4, .int (v4 + (1 : Int32)))]) [1, 2, 3, 4, 0] rfl ?_
  refine j_goto (tgt := 56) (pc := 120) hk (by decide) dX8_parts_120 ?_
  exact j_sub hk [0, 1, 2, 3, 4] rfl (H56 v1 v2 v3 (v4 + (1 : Int32)) st)
def B8_parts_56 (rec : Int32 → Int32 → Int32 → fkS → Option (Unit × fkS)) (k56 : Int32 → Int32 → Int32 → Int32 → fkS → Option (Unit × fkS)) (v1 : Int32) (v2 : Int32) (v3 : Int32) (v4 : Int32) (st : fkS) : Option (Unit × fkS) :=
 fk_let (gI st 0 0) <| fun x6 =>
 if x6 ≤ v4 then
 (fk_chk (fk_in v1 7) <| fk_let (sA st 20 v1.toNatClampNeg (-1 : Int32)) <| fun st7 =>
 fk_bind (rec (v1 + (1 : Int32)) v2 v3 st7) <| fun _ st8 =>
 some ((), st8))
 else
 (fk_bind (F8_has v2 v4 st) <| fun x9 st10 =>
 if x9 = 0 then
 (fk_chk (fk_in v4 7) <| fk_let (gA st10 19 v4.toNatClampNeg) <| fun x11 =>
 fk_chk (fk_in v1 7) <| fk_let (gA st10 18 v1.toNatClampNeg) <| fun x12 =>
 if x11 = x12 then
 (fk_chk (fk_in v1 7) <| fk_let (sA st10 20 v1.toNatClampNeg v4) <| fun st13 =>
 fk_bind (rec (v1 + (1 : Int32)) (v2 ||| ((1 : Int32) <<< (v4 &&& 31))) (v3 + (1 : Int32)) st13) <| fun _ st14 =>
 B8_parts_117 rec k56 v1 v2 v3 v4 st14)
 else
 (B8_parts_117 rec k56 v1 v2 v3 v4 st10))
 else
 (B8_parts_117 rec k56 v1 v2 v3 v4 st10))
set_option maxHeartbeats 1000000 in
set_option maxRecDepth 20000 in
theorem T8_parts_56 {g : fkG} {k : fkK} (rec : Int32 → Int32 → Int32 → fkS → Option (Unit × fkS)) {n : Nat} (hrec : ∀ (p1 : Int32) (p2 : Int32) (p3 : Int32) (st : fkS) (l : Launch) (o : Unit × fkS), rec p1 p2 p3 st = some o → fk_C wM yX8_parts cX8_parts 5 none (n + 1) (n * 24 + 21) l g [fk_r g 0, .int p1, .int p2, .int p3] st (fk_eU o.1) o.2) (hk : fk_ok wM g k RX8 cX8_parts 5 none (n + 1 + 1) ((n + 1) * 24 + 21)) (k56 : Int32 → Int32 → Int32 → Int32 → fkS → Option (Unit × fkS)) (H56 : ∀ (v1 : Int32) (v2 : Int32) (v3 : Int32) (v4 : Int32) (st : fkS), fk_J wM g fk_eU k 56 [(0, fk_r g 0), (1, .int v1), (2, .int v2), (3, .int v3), (4, .int v4)] [] st (k56 v1 v2 v3 v4 st)) : ∀ (v1 : Int32) (v2 : Int32) (v3 : Int32) (v4 : Int32) (st : fkS), fk_J wM g fk_eU k 56 [(0, fk_r g 0), (1, .int v1), (2, .int v2), (3, .int v3), (4, .int v4)] [] st (B8_parts_56 rec k56 v1 v2 v3 v4 st) := by
  intro v1 v2 v3 v4 st
  unfold B8_parts_56
  refine j_iload (pc := 56) hk 4 rfl dX8_parts_56 ?_
  refine j_aload_n (pc := 58) hk 0 rfl ⟨_, rfl⟩ dX8_parts_58 ?_
  refine f_8_85 (pc := 59) hk (rfl) dX8_parts_59 (fun x6 => ?_)
  refine j_icmp_ge (tgt := 123) (pc := 62) hk (by decide) dX8_parts_62 (fun _ => ?_) (fun _ => ?_)
  · refine j_aload_n (pc := 123) hk 0 rfl ⟨_, rfl⟩ dX8_parts_123 ?_
    refine f_8_68 (pc := 124) hk (rfl) dX8_parts_124 ?_
    refine j_iload_n (pc := 127) hk 1 rfl dX8_parts_127 ?_
    refine j_iconst (pc := 128) hk dX8_parts_128 (v := -1) (by decide) ?_
    refine a_istore (pc := 129) hk (isI_8_33) dX8_parts_129 (fun st7 => ?_)
    refine j_aload_n (pc := 130) hk 0 rfl ⟨_, rfl⟩ dX8_parts_130 ?_
    refine j_iload_n (pc := 131) hk 1 rfl dX8_parts_131 ?_
    refine j_iconst (pc := 132) hk dX8_parts_132 (v := 1) (by decide) ?_
    refine j_iadd (pc := 133) hk dX8_parts_133 ?_
    refine j_iload_n (pc := 134) hk 2 rfl dX8_parts_134 ?_
    refine j_iload_n (pc := 135) hk 3 rfl dX8_parts_135 ?_
    refine j_callVv (pc := 136) hk [.int (v1 + (1 : Int32)), .int v2, .int v3] [] rfl (fun l o hq9 => hrec (v1 + (1 : Int32)) v2 v3 st7 l o hq9) (rcv_8 (rfl)) yv_X8_parts ml_8_268 rfl (Nat.le_of_ble_eq_true rfl) (by omega) (by omega) dX8_parts_136 (fun _ st8 => ?_)
    exact j_vret (pc := 139) hk dX8_parts_139
  · refine j_iload_n (pc := 65) hk 2 rfl dX8_parts_65 ?_
    refine j_iload (pc := 66) hk 4 rfl dX8_parts_66 ?_
    refine j_callSi (pc := 68) hk [.int v2, .int v4] [] rfl (fun l o hq9 => C8_has v2 v4 st l o hq9) yv_X8_has ml_8_215 rfl (Nat.le_of_ble_eq_true rfl) (by omega) (by omega) dX8_parts_68 (fun x9 st10 => ?_)
    refine j_if_ne (tgt := 117) (pc := 71) hk (by decide) dX8_parts_71 (fun _ => ?_) (fun _ => ?_)
    · refine j_aload_n (pc := 74) hk 0 rfl ⟨_, rfl⟩ dX8_parts_74 ?_
      refine f_8_65 (pc := 75) hk (rfl) dX8_parts_75 ?_
      refine j_iload (pc := 78) hk 4 rfl dX8_parts_78 ?_
      refine a_iload (pc := 80) hk (isI_8_32) dX8_parts_80 (fun x11 => ?_)
      refine j_aload_n (pc := 81) hk 0 rfl ⟨_, rfl⟩ dX8_parts_81 ?_
      refine f_8_62 (pc := 82) hk (rfl) dX8_parts_82 ?_
      refine j_iload_n (pc := 85) hk 1 rfl dX8_parts_85 ?_
      refine a_iload (pc := 86) hk (isI_8_30) dX8_parts_86 (fun x12 => ?_)
      refine j_icmp_eq (tgt := 93) (pc := 87) hk (by decide) dX8_parts_87 (fun _ => ?_) (fun _ => ?_)
      · refine j_aload_n (pc := 93) hk 0 rfl ⟨_, rfl⟩ dX8_parts_93 ?_
        refine f_8_68 (pc := 94) hk (rfl) dX8_parts_94 ?_
        refine j_iload_n (pc := 97) hk 1 rfl dX8_parts_97 ?_
        refine j_iload (pc := 98) hk 4 rfl dX8_parts_98 ?_
        refine a_istore (pc := 100) hk (isI_8_33) dX8_parts_100 (fun st13 => ?_)
        refine j_aload_n (pc := 101) hk 0 rfl ⟨_, rfl⟩ dX8_parts_101 ?_
        refine j_iload_n (pc := 102) hk 1 rfl dX8_parts_102 ?_
        refine j_iconst (pc := 103) hk dX8_parts_103 (v := 1) (by decide) ?_
        refine j_iadd (pc := 104) hk dX8_parts_104 ?_
        refine j_iload_n (pc := 105) hk 2 rfl dX8_parts_105 ?_
        refine j_iconst (pc := 106) hk dX8_parts_106 (v := 1) (by decide) ?_
        refine j_iload (pc := 107) hk 4 rfl dX8_parts_107 ?_
        refine j_ishl (pc := 109) hk dX8_parts_109 ?_
        refine j_ior (pc := 110) hk dX8_parts_110 ?_
        refine j_iload_n (pc := 111) hk 3 rfl dX8_parts_111 ?_
        refine j_iconst (pc := 112) hk dX8_parts_112 (v := 1) (by decide) ?_
        refine j_iadd (pc := 113) hk dX8_parts_113 ?_
        refine j_callVv (pc := 114) hk [.int (v1 + (1 : Int32)), .int (v2 ||| ((1 : Int32) <<< (v4 &&& 31))), .int (v3 + (1 : Int32))] [] rfl (fun l o hq9 => hrec (v1 + (1 : Int32)) (v2 ||| ((1 : Int32) <<< (v4 &&& 31))) (v3 + (1 : Int32)) st13 l o hq9) (rcv_8 (rfl)) yv_X8_parts ml_8_268 rfl (Nat.le_of_ble_eq_true rfl) (by omega) (by omega) dX8_parts_114 (fun _ st14 => ?_)
        exact j_sub hk [0, 1, 2, 3, 4] rfl (T8_parts_117 rec hrec hk k56 H56 v1 v2 v3 v4 st14)
      · refine j_goto (tgt := 117) (pc := 90) hk (by decide) dX8_parts_90 ?_
        exact j_sub hk [0, 1, 2, 3, 4] rfl (T8_parts_117 rec hrec hk k56 H56 v1 v2 v3 v4 st10)
    · exact j_sub hk [0, 1, 2, 3, 4] rfl (T8_parts_117 rec hrec hk k56 H56 v1 v2 v3 v4 st10)
set_option maxHeartbeats 1000000 in
set_option maxRecDepth 20000 in
theorem L8_parts_56 {g : fkG} {k : fkK} (rec : Int32 → Int32 → Int32 → fkS → Option (Unit × fkS)) {n : Nat} (hrec : ∀ (p1 : Int32) (p2 : Int32) (p3 : Int32) (st : fkS) (l : Launch) (o : Unit × fkS), rec p1 p2 p3 st = some o → fk_C wM yX8_parts cX8_parts 5 none (n + 1) (n * 24 + 21) l g [fk_r g 0, .int p1, .int p2, .int p3] st (fk_eU o.1) o.2) (hk : fk_ok wM g k RX8 cX8_parts 5 none (n + 1 + 1) ((n + 1) * 24 + 21)) (fu : Nat) : ∀ (v1 : Int32) (v2 : Int32) (v3 : Int32) (v4 : Int32) (st : fkS), fk_J wM g fk_eU k 56 [(0, fk_r g 0), (1, .int v1), (2, .int v2), (3, .int v3), (4, .int v4)] [] st (fk_lp4 (B8_parts_56 rec) fu v1 v2 v3 v4 st) := by
  induction fu with
  | zero =>
    intro v1 v2 v3 v4 st
    exact j_none hk
  | succ fu ih =>
    exact T8_parts_56 rec hrec hk _ ih
def G8_parts (rec : Int32 → Int32 → Int32 → fkS → Option (Unit × fkS)) (p1 : Int32) (p2 : Int32) (p3 : Int32) (st : fkS) : Option (Unit × fkS) :=
 fk_let (gI st 31 0) <| fun x1 =>
 if p1 = x1 then
 (fk_let (gI st 35 0) <| fun x2 =>
 if x2 < p3 then
 (fk_let (sI st 35 0 p3) <| fun st3 =>
 fk_lp1 (B8_parts_25 rec) fk_fuel (0 : Int32) st3)
 else
 (some ((), st)))
 else
 (fk_lp4 (B8_parts_56 rec) fk_fuel p1 p2 p3 (0 : Int32) st)
set_option maxHeartbeats 1000000 in
set_option maxRecDepth 20000 in
theorem CG8_parts (rec : Int32 → Int32 → Int32 → fkS → Option (Unit × fkS)) {g : fkG} {n : Nat} (hrec : ∀ (p1 : Int32) (p2 : Int32) (p3 : Int32) (st : fkS) (l : Launch) (o : Unit × fkS), rec p1 p2 p3 st = some o → fk_C wM yX8_parts cX8_parts 5 none (n + 1) (n * 24 + 21) l g [fk_r g 0, .int p1, .int p2, .int p3] st (fk_eU o.1) o.2) (p1 : Int32) (p2 : Int32) (p3 : Int32) (st : fkS) (l : Launch) (o : Unit × fkS) (hF : G8_parts rec p1 p2 p3 st = some o) : fk_C wM yX8_parts cX8_parts 5 none (n + 1 + 1) ((n + 1) * 24 + 21) l g [fk_r g 0, .int p1, .int p2, .int p3] st (fk_eU o.1) o.2 := by
  refine fk_begin rfl (Nat.le_of_ble_eq_true rfl) (fun k hk => ?_) o hF
  have hk : fk_ok wM g k RX8 cX8_parts 5 none (n + 1 + 1) ((n + 1) * 24 + 21) := hk
  show fk_J wM g fk_eU k 0 [(0, fk_r g 0), (1, .int p1), (2, .int p2), (3, .int p3)] [] st (G8_parts rec p1 p2 p3 st)
  unfold G8_parts
  refine j_iload_n (pc := 0) hk 1 rfl dX8_parts_0 ?_
  refine j_aload_n (pc := 1) hk 0 rfl ⟨_, rfl⟩ dX8_parts_1 ?_
  refine f_8_262 (pc := 2) hk (rfl) dX8_parts_2 (fun x1 => ?_)
  refine j_icmp_ne (tgt := 53) (pc := 5) hk (by decide) dX8_parts_5 (fun _ => ?_) (fun _ => ?_)
  · refine j_iload_n (pc := 8) hk 3 rfl dX8_parts_8 ?_
    refine j_aload_n (pc := 9) hk 0 rfl ⟨_, rfl⟩ dX8_parts_9 ?_
    refine f_8_265 (pc := 10) hk (rfl) dX8_parts_10 (fun x2 => ?_)
    refine j_icmp_gt (tgt := 17) (pc := 13) hk (by decide) dX8_parts_13 (fun _ => ?_) (fun _ => ?_)
    · refine j_aload_n (pc := 17) hk 0 rfl ⟨_, rfl⟩ dX8_parts_17 ?_
      refine j_iload_n (pc := 18) hk 3 rfl dX8_parts_18 ?_
      refine p_8_265 (pc := 19) hk (rfl) dX8_parts_19 (fun st3 => ?_)
      refine j_iconst (pc := 22) hk dX8_parts_22 (v := 0) (by decide) ?_
      refine j_istore (lv' := ((4, .int (0 : Int32)) :: [(0, fk_r g 0), (1, .int p1), (2, .int p2), (3, .int p3)])) (pc := 23) hk (by decide) rfl dX8_parts_23 ?_
      refine j_sub hk (lv' := [(0, fk_r g 0), (1, .int p1), (2, .int p2), (3, .int p3), (4, .int (0 : Int32))]) [1, 2, 3, 4, 0] rfl ?_
      exact j_sub hk [0, 4] rfl (L8_parts_25 rec hrec hk fk_fuel (0 : Int32) st3)
    · exact j_vret (pc := 16) hk dX8_parts_16
  · refine j_iconst (pc := 53) hk dX8_parts_53 (v := 0) (by decide) ?_
    refine j_istore (lv' := ((4, .int (0 : Int32)) :: [(0, fk_r g 0), (1, .int p1), (2, .int p2), (3, .int p3)])) (pc := 54) hk (by decide) rfl dX8_parts_54 ?_
    refine j_sub hk (lv' := [(0, fk_r g 0), (1, .int p1), (2, .int p2), (3, .int p3), (4, .int (0 : Int32))]) [1, 2, 3, 4, 0] rfl ?_
    exact j_sub hk [0, 1, 2, 3, 4] rfl (L8_parts_56 rec hrec hk fk_fuel p1 p2 p3 (0 : Int32) st)
def F8_parts (p1 : Int32) (p2 : Int32) (p3 : Int32) (st : fkS) : Option (Unit × fkS) := fk_lp3 G8_parts 12 p1 p2 p3 st
theorem CN8_parts {g : fkG} (n : Nat) : ∀ (p1 : Int32) (p2 : Int32) (p3 : Int32) (st : fkS) (l : Launch) (o : Unit × fkS), fk_lp3 G8_parts n p1 p2 p3 st = some o → fk_C wM yX8_parts cX8_parts 5 none (n + 1) (n * 24 + 21) l g [fk_r g 0, .int p1, .int p2, .int p3] st (fk_eU o.1) o.2 := by
  induction n with
  | zero =>
    intro p1 p2 p3 st l o h
    exact absurd h (by simp [fk_lp3])
  | succ n ih =>
    intro p1 p2 p3 st l o h
    exact CG8_parts (fk_lp3 G8_parts n) ih p1 p2 p3 st l o h
theorem C8_parts (p1 : Int32) (p2 : Int32) (p3 : Int32) (st : fkS) {g : fkG} (l : Launch) (o : Unit × fkS) (h : F8_parts p1 p2 p3 st = some o) : fk_C wM yX8_parts cX8_parts 5 none 13 309 l g [fk_r g 0, .int p1, .int p2, .int p3] st (fk_eU o.1) o.2 := CN8_parts 12 p1 p2 p3 st l o h
theorem dX8_areWishes_0 : decode cX8_areWishes 0 = .ok (.aload_n 0, 1) := by decide +kernel
theorem dX8_areWishes_1 : decode cX8_areWishes 1 = .ok (.aload_n 0, 1) := by decide +kernel
theorem dX8_areWishes_2 : decode cX8_areWishes 2 = .ok (.getfield 28, 3) := by decide +kernel
theorem dX8_areWishes_5 : decode cX8_areWishes 5 = .ok (.iload_n 1, 1) := by decide +kernel
theorem dX8_areWishes_6 : decode cX8_areWishes 6 = .ok (.iaload, 1) := by decide +kernel
theorem dX8_areWishes_7 : decode cX8_areWishes 7 = .ok (.putfield 262, 3) := by decide +kernel
theorem dX8_areWishes_10 : decode cX8_areWishes 10 = .ok (.aload_n 0, 1) := by decide +kernel
theorem dX8_areWishes_11 : decode cX8_areWishes 11 = .ok (.getfield 262, 3) := by decide +kernel
theorem dX8_areWishes_14 : decode cX8_areWishes 14 = .ok (.bipush 7, 2) := by decide +kernel
theorem dX8_areWishes_16 : decode cX8_areWishes 16 = .ok (.if_icmp .le 5, 3) := by decide +kernel
theorem dX8_areWishes_19 : decode cX8_areWishes 19 = .ok (.iconst 0, 1) := by decide +kernel
theorem dX8_areWishes_20 : decode cX8_areWishes 20 = .ok (.ireturn, 1) := by decide +kernel
theorem dX8_areWishes_21 : decode cX8_areWishes 21 = .ok (.iconst 0, 1) := by decide +kernel
theorem dX8_areWishes_22 : decode cX8_areWishes 22 = .ok (.istore_n 2, 1) := by decide +kernel
theorem dX8_areWishes_23 : decode cX8_areWishes 23 = .ok (.iload_n 2, 1) := by decide +kernel
theorem dX8_areWishes_24 : decode cX8_areWishes 24 = .ok (.aload_n 0, 1) := by decide +kernel
theorem dX8_areWishes_25 : decode cX8_areWishes 25 = .ok (.getfield 262, 3) := by decide +kernel
theorem dX8_areWishes_28 : decode cX8_areWishes 28 = .ok (.if_icmp .ge 35, 3) := by decide +kernel
theorem dX8_areWishes_31 : decode cX8_areWishes 31 = .ok (.aload_n 0, 1) := by decide +kernel
theorem dX8_areWishes_32 : decode cX8_areWishes 32 = .ok (.getfield 62, 3) := by decide +kernel
theorem dX8_areWishes_35 : decode cX8_areWishes 35 = .ok (.iload_n 2, 1) := by decide +kernel
theorem dX8_areWishes_36 : decode cX8_areWishes 36 = .ok (.aload_n 0, 1) := by decide +kernel
theorem dX8_areWishes_37 : decode cX8_areWishes 37 = .ok (.iload_n 1, 1) := by decide +kernel
theorem dX8_areWishes_38 : decode cX8_areWishes 38 = .ok (.iload_n 2, 1) := by decide +kernel
theorem dX8_areWishes_39 : decode cX8_areWishes 39 = .ok (.invokevirtual 188, 3) := by decide +kernel
theorem dX8_areWishes_42 : decode cX8_areWishes 42 = .ok (.iastore, 1) := by decide +kernel
theorem dX8_areWishes_43 : decode cX8_areWishes 43 = .ok (.aload_n 0, 1) := by decide +kernel
theorem dX8_areWishes_44 : decode cX8_areWishes 44 = .ok (.getfield 62, 3) := by decide +kernel
theorem dX8_areWishes_47 : decode cX8_areWishes 47 = .ok (.iload_n 2, 1) := by decide +kernel
theorem dX8_areWishes_48 : decode cX8_areWishes 48 = .ok (.iaload, 1) := by decide +kernel
theorem dX8_areWishes_49 : decode cX8_areWishes 49 = .ok (.invokestatic 126, 3) := by decide +kernel
theorem dX8_areWishes_52 : decode cX8_areWishes 52 = .ok (.ifCond .ne 5, 3) := by decide +kernel
theorem dX8_areWishes_55 : decode cX8_areWishes 55 = .ok (.iconst 0, 1) := by decide +kernel
theorem dX8_areWishes_56 : decode cX8_areWishes 56 = .ok (.ireturn, 1) := by decide +kernel
theorem dX8_areWishes_57 : decode cX8_areWishes 57 = .ok (.iinc 2 1, 3) := by decide +kernel
theorem dX8_areWishes_60 : decode cX8_areWishes 60 = .ok (.goto (-37), 3) := by decide +kernel
theorem dX8_areWishes_63 : decode cX8_areWishes 63 = .ok (.iconst 1, 1) := by decide +kernel
theorem dX8_areWishes_64 : decode cX8_areWishes 64 = .ok (.ireturn, 1) := by decide +kernel
def B8_areWishes_23 (k23 : Int32 → Int32 → fkS → Option (Int32 × fkS)) (v1 : Int32) (v2 : Int32) (st : fkS) : Option (Int32 × fkS) :=
 fk_let (gI st 31 0) <| fun x4 =>
 if x4 ≤ v2 then
 (some ((1 : Int32), st))
 else
 (fk_bind (F8_toldAt v1 v2 st) <| fun x5 st6 =>
 fk_chk (fk_in v2 7) <| fk_let (sA st6 18 v2.toNatClampNeg x5) <| fun st7 =>
 fk_chk (fk_in v2 7) <| fk_let (gA st7 18 v2.toNatClampNeg) <| fun x8 =>
 fk_bind (F8_isState x8 st7) <| fun x9 st10 =>
 if x9 = 0 then
 (some ((0 : Int32), st10))
 else
 (k23 v1 (v2 + (1 : Int32)) st10))
set_option maxHeartbeats 1000000 in
set_option maxRecDepth 20000 in
theorem T8_areWishes_23 {g : fkG} {k : fkK} (hk : fk_ok wM g k RX8 cX8_areWishes 3 (some (.boolean)) 2 42) (k23 : Int32 → Int32 → fkS → Option (Int32 × fkS)) (H23 : ∀ (v1 : Int32) (v2 : Int32) (st : fkS), fk_J wM g fk_eI k 23 [(0, fk_r g 0), (1, .int v1), (2, .int v2)] [] st (k23 v1 v2 st)) : ∀ (v1 : Int32) (v2 : Int32) (st : fkS), fk_J wM g fk_eI k 23 [(0, fk_r g 0), (1, .int v1), (2, .int v2)] [] st (B8_areWishes_23 k23 v1 v2 st) := by
  intro v1 v2 st
  unfold B8_areWishes_23
  refine j_iload_n (pc := 23) hk 2 rfl dX8_areWishes_23 ?_
  refine j_aload_n (pc := 24) hk 0 rfl ⟨_, rfl⟩ dX8_areWishes_24 ?_
  refine f_8_262 (pc := 25) hk (rfl) dX8_areWishes_25 (fun x4 => ?_)
  refine j_icmp_ge (tgt := 63) (pc := 28) hk (by decide) dX8_areWishes_28 (fun _ => ?_) (fun _ => ?_)
  · refine j_iconst (pc := 63) hk dX8_areWishes_63 (v := 1) (by decide) ?_
    exact j_zret (pc := 64) hk rfl dX8_areWishes_64
  · refine j_aload_n (pc := 31) hk 0 rfl ⟨_, rfl⟩ dX8_areWishes_31 ?_
    refine f_8_62 (pc := 32) hk (rfl) dX8_areWishes_32 ?_
    refine j_iload_n (pc := 35) hk 2 rfl dX8_areWishes_35 ?_
    refine j_aload_n (pc := 36) hk 0 rfl ⟨_, rfl⟩ dX8_areWishes_36 ?_
    refine j_iload_n (pc := 37) hk 1 rfl dX8_areWishes_37 ?_
    refine j_iload_n (pc := 38) hk 2 rfl dX8_areWishes_38 ?_
    refine j_callVi (pc := 39) hk [.int v1, .int v2] [.int v2, fk_r g 18] rfl (fun l o hq9 => C8_toldAt v1 v2 st l o hq9) (rcv_8 (rfl)) yv_X8_toldAt ml_8_188 rfl (Nat.le_of_ble_eq_true rfl) (Nat.le_of_ble_eq_true rfl) (Nat.le_of_ble_eq_true rfl) dX8_areWishes_39 (fun x5 st6 => ?_)
    refine a_istore (pc := 42) hk (isI_8_30) dX8_areWishes_42 (fun st7 => ?_)
    refine j_aload_n (pc := 43) hk 0 rfl ⟨_, rfl⟩ dX8_areWishes_43 ?_
    refine f_8_62 (pc := 44) hk (rfl) dX8_areWishes_44 ?_
    refine j_iload_n (pc := 47) hk 2 rfl dX8_areWishes_47 ?_
    refine a_iload (pc := 48) hk (isI_8_30) dX8_areWishes_48 (fun x8 => ?_)
    refine j_callSi (pc := 49) hk [.int x8] [] rfl (fun l o hq9 => C8_isState x8 st7 l o hq9) yv_X8_isState ml_8_126 rfl (Nat.le_of_ble_eq_true rfl) (Nat.le_of_ble_eq_true rfl) (Nat.le_of_ble_eq_true rfl) dX8_areWishes_49 (fun x9 st10 => ?_)
    refine j_if_ne (tgt := 57) (pc := 52) hk (by decide) dX8_areWishes_52 (fun _ => ?_) (fun _ => ?_)
    · refine j_iconst (pc := 55) hk dX8_areWishes_55 (v := 0) (by decide) ?_
      exact j_zret (pc := 56) hk rfl dX8_areWishes_56
    · refine j_iinc (dd := (1 : Int32)) (lv' := ((2, .int (v2 + (1 : Int32))) :: [(0, fk_r g 0), (1, .int v1)])) (pc := 57) hk 2 rfl (by decide) (by decide) rfl dX8_areWishes_57 ?_
      refine j_sub hk (lv' := [(0, fk_r g 0), (1, .int v1), (2, .int (v2 + (1 : Int32)))]) [1, 2, 0] rfl ?_
      refine j_goto (tgt := 23) (pc := 60) hk (by decide) dX8_areWishes_60 ?_
      exact j_sub hk [0, 1, 2] rfl (H23 v1 (v2 + (1 : Int32)) st10)
set_option maxHeartbeats 1000000 in
set_option maxRecDepth 20000 in
theorem L8_areWishes_23 {g : fkG} {k : fkK} (hk : fk_ok wM g k RX8 cX8_areWishes 3 (some (.boolean)) 2 42) (fu : Nat) : ∀ (v1 : Int32) (v2 : Int32) (st : fkS), fk_J wM g fk_eI k 23 [(0, fk_r g 0), (1, .int v1), (2, .int v2)] [] st (fk_lp2 (B8_areWishes_23) fu v1 v2 st) := by
  induction fu with
  | zero =>
    intro v1 v2 st
    exact j_none hk
  | succ fu ih =>
    exact T8_areWishes_23 hk _ ih
def F8_areWishes (p1 : Int32) (st : fkS) : Option (Int32 × fkS) :=
 fk_chk (fk_in p1 8) <| fk_let (gA st 7 p1.toNatClampNeg) <| fun x1 =>
 fk_let (sI st 31 0 x1) <| fun st2 =>
 fk_let (gI st2 31 0) <| fun x3 =>
 if x3 ≤ (7 : Int32) then
 (fk_lp2 (B8_areWishes_23) fk_fuel p1 (0 : Int32) st2)
 else
 (some ((0 : Int32), st2))
set_option maxHeartbeats 1000000 in
set_option maxRecDepth 20000 in
theorem C8_areWishes (p1 : Int32) (st : fkS) {g : fkG} (l : Launch) (o : Int32 × fkS) (hF : F8_areWishes p1 st = some o) : fk_C wM yX8_areWishes cX8_areWishes 3 (some (.boolean)) 2 42 l g [fk_r g 0, .int p1] st (fk_eI o.1) o.2 := by
  refine fk_begin rfl (Nat.le_of_ble_eq_true rfl) (fun k hk => ?_) o hF
  have hk : fk_ok wM g k RX8 cX8_areWishes 3 (some (.boolean)) 2 42 := hk
  show fk_J wM g fk_eI k 0 [(0, fk_r g 0), (1, .int p1)] [] st (F8_areWishes p1 st)
  unfold F8_areWishes
  refine j_aload_n (pc := 0) hk 0 rfl ⟨_, rfl⟩ dX8_areWishes_0 ?_
  refine j_aload_n (pc := 1) hk 0 rfl ⟨_, rfl⟩ dX8_areWishes_1 ?_
  refine f_8_28 (pc := 2) hk (rfl) dX8_areWishes_2 ?_
  refine j_iload_n (pc := 5) hk 1 rfl dX8_areWishes_5 ?_
  refine a_iload (pc := 6) hk (isI_8_10) dX8_areWishes_6 (fun x1 => ?_)
  refine p_8_262 (pc := 7) hk (rfl) dX8_areWishes_7 (fun st2 => ?_)
  refine j_aload_n (pc := 10) hk 0 rfl ⟨_, rfl⟩ dX8_areWishes_10 ?_
  refine f_8_262 (pc := 11) hk (rfl) dX8_areWishes_11 (fun x3 => ?_)
  refine j_bipush (pc := 14) hk dX8_areWishes_14 (v := 7) (by decide) ?_
  refine j_icmp_le (tgt := 21) (pc := 16) hk (by decide) dX8_areWishes_16 (fun _ => ?_) (fun _ => ?_)
  · refine j_iconst (pc := 21) hk dX8_areWishes_21 (v := 0) (by decide) ?_
    refine j_istore_n (lv' := ((2, .int (0 : Int32)) :: [(0, fk_r g 0), (1, .int p1)])) (pc := 22) hk rfl (by decide) rfl dX8_areWishes_22 ?_
    refine j_sub hk (lv' := [(0, fk_r g 0), (1, .int p1), (2, .int (0 : Int32))]) [1, 2, 0] rfl ?_
    exact j_sub hk [0, 1, 2] rfl (L8_areWishes_23 hk fk_fuel p1 (0 : Int32) st2)
  · refine j_iconst (pc := 19) hk dX8_areWishes_19 (v := 0) (by decide) ?_
    exact j_zret (pc := 20) hk rfl dX8_areWishes_20
theorem dX8_tribes_0 : decode cX8_tribes 0 = .ok (.aload_n 0, 1) := by decide +kernel
theorem dX8_tribes_1 : decode cX8_tribes 1 = .ok (.iload_n 1, 1) := by decide +kernel
theorem dX8_tribes_2 : decode cX8_tribes 2 = .ok (.iload_n 2, 1) := by decide +kernel
theorem dX8_tribes_3 : decode cX8_tribes 3 = .ok (.invokevirtual 236, 3) := by decide +kernel
theorem dX8_tribes_6 : decode cX8_tribes 6 = .ok (.istore 4, 2) := by decide +kernel
theorem dX8_tribes_8 : decode cX8_tribes 8 = .ok (.iload 4, 2) := by decide +kernel
theorem dX8_tribes_10 : decode cX8_tribes 10 = .ok (.ifCond .ge 10, 3) := by decide +kernel
theorem dX8_tribes_13 : decode cX8_tribes 13 = .ok (.aload_n 0, 1) := by decide +kernel
theorem dX8_tribes_14 : decode cX8_tribes 14 = .ok (.iload 4, 2) := by decide +kernel
theorem dX8_tribes_16 : decode cX8_tribes 16 = .ok (.invokevirtual 105, 3) := by decide +kernel
theorem dX8_tribes_19 : decode cX8_tribes 19 = .ok (.ireturn, 1) := by decide +kernel
theorem dX8_tribes_20 : decode cX8_tribes 20 = .ok (.aload_n 0, 1) := by decide +kernel
theorem dX8_tribes_21 : decode cX8_tribes 21 = .ok (.iload_n 1, 1) := by decide +kernel
theorem dX8_tribes_22 : decode cX8_tribes 22 = .ok (.iconst 0, 1) := by decide +kernel
theorem dX8_tribes_23 : decode cX8_tribes 23 = .ok (.invokevirtual 221, 3) := by decide +kernel
theorem dX8_tribes_26 : decode cX8_tribes 26 = .ok (.ifCond .eq 11, 3) := by decide +kernel
theorem dX8_tribes_29 : decode cX8_tribes 29 = .ok (.aload_n 0, 1) := by decide +kernel
theorem dX8_tribes_30 : decode cX8_tribes 30 = .ok (.iload_n 2, 1) := by decide +kernel
theorem dX8_tribes_31 : decode cX8_tribes 31 = .ok (.invokevirtual 272, 3) := by decide +kernel
theorem dX8_tribes_34 : decode cX8_tribes 34 = .ok (.ifCond .ne 10, 3) := by decide +kernel
theorem dX8_tribes_37 : decode cX8_tribes 37 = .ok (.aload_n 0, 1) := by decide +kernel
theorem dX8_tribes_38 : decode cX8_tribes 38 = .ok (.bipush (-6), 2) := by decide +kernel
theorem dX8_tribes_40 : decode cX8_tribes 40 = .ok (.invokevirtual 105, 3) := by decide +kernel
theorem dX8_tribes_43 : decode cX8_tribes 43 = .ok (.ireturn, 1) := by decide +kernel
theorem dX8_tribes_44 : decode cX8_tribes 44 = .ok (.iload_n 3, 1) := by decide +kernel
theorem dX8_tribes_45 : decode cX8_tribes 45 = .ok (.iconst (-1), 1) := by decide +kernel
theorem dX8_tribes_46 : decode cX8_tribes 46 = .ok (.if_icmp .eq 24, 3) := by decide +kernel
theorem dX8_tribes_49 : decode cX8_tribes 49 = .ok (.iload_n 3, 1) := by decide +kernel
theorem dX8_tribes_50 : decode cX8_tribes 50 = .ok (.iconst 0, 1) := by decide +kernel
theorem dX8_tribes_51 : decode cX8_tribes 51 = .ok (.aload_n 0, 1) := by decide +kernel
theorem dX8_tribes_52 : decode cX8_tribes 52 = .ok (.getfield 262, 3) := by decide +kernel
theorem dX8_tribes_55 : decode cX8_tribes 55 = .ok (.iconst 1, 1) := by decide +kernel
theorem dX8_tribes_56 : decode cX8_tribes 56 = .ok (.isub, 1) := by decide +kernel
theorem dX8_tribes_57 : decode cX8_tribes 57 = .ok (.invokestatic 88, 3) := by decide +kernel
theorem dX8_tribes_60 : decode cX8_tribes 60 = .ok (.ifCond .ne 10, 3) := by decide +kernel
theorem dX8_tribes_63 : decode cX8_tribes 63 = .ok (.aload_n 0, 1) := by decide +kernel
theorem dX8_tribes_64 : decode cX8_tribes 64 = .ok (.bipush (-5), 2) := by decide +kernel
theorem dX8_tribes_66 : decode cX8_tribes 66 = .ok (.invokevirtual 105, 3) := by decide +kernel
theorem dX8_tribes_69 : decode cX8_tribes 69 = .ok (.ireturn, 1) := by decide +kernel
theorem dX8_tribes_70 : decode cX8_tribes 70 = .ok (.iconst 0, 1) := by decide +kernel
theorem dX8_tribes_71 : decode cX8_tribes 71 = .ok (.istore 5, 2) := by decide +kernel
theorem dX8_tribes_73 : decode cX8_tribes 73 = .ok (.iload 5, 2) := by decide +kernel
theorem dX8_tribes_75 : decode cX8_tribes 75 = .ok (.aload_n 0, 1) := by decide +kernel
theorem dX8_tribes_76 : decode cX8_tribes 76 = .ok (.getfield 85, 3) := by decide +kernel
theorem dX8_tribes_79 : decode cX8_tribes 79 = .ok (.if_icmp .ge 32, 3) := by decide +kernel
theorem dX8_tribes_82 : decode cX8_tribes 82 = .ok (.aload_n 0, 1) := by decide +kernel
theorem dX8_tribes_83 : decode cX8_tribes 83 = .ok (.iload 5, 2) := by decide +kernel
theorem dX8_tribes_85 : decode cX8_tribes 85 = .ok (.aload_n 0, 1) := by decide +kernel
theorem dX8_tribes_86 : decode cX8_tribes 86 = .ok (.getfield 19, 3) := by decide +kernel
theorem dX8_tribes_89 : decode cX8_tribes 89 = .ok (.iconst 1, 1) := by decide +kernel
theorem dX8_tribes_90 : decode cX8_tribes 90 = .ok (.iaload, 1) := by decide +kernel
theorem dX8_tribes_91 : decode cX8_tribes 91 = .ok (.invokevirtual 224, 3) := by decide +kernel
theorem dX8_tribes_94 : decode cX8_tribes 94 = .ok (.aload_n 0, 1) := by decide +kernel
theorem dX8_tribes_95 : decode cX8_tribes 95 = .ok (.getfield 65, 3) := by decide +kernel
theorem dX8_tribes_98 : decode cX8_tribes 98 = .ok (.iload 5, 2) := by decide +kernel
theorem dX8_tribes_100 : decode cX8_tribes 100 = .ok (.aload_n 0, 1) := by decide +kernel
theorem dX8_tribes_101 : decode cX8_tribes 101 = .ok (.getfield 209, 3) := by decide +kernel
theorem dX8_tribes_104 : decode cX8_tribes 104 = .ok (.iastore, 1) := by decide +kernel
theorem dX8_tribes_105 : decode cX8_tribes 105 = .ok (.iinc 5 1, 3) := by decide +kernel
theorem dX8_tribes_108 : decode cX8_tribes 108 = .ok (.goto (-35), 3) := by decide +kernel
theorem dX8_tribes_111 : decode cX8_tribes 111 = .ok (.aload_n 0, 1) := by decide +kernel
theorem dX8_tribes_112 : decode cX8_tribes 112 = .ok (.iconst (-1), 1) := by decide +kernel
theorem dX8_tribes_113 : decode cX8_tribes 113 = .ok (.putfield 265, 3) := by decide +kernel
theorem dX8_tribes_116 : decode cX8_tribes 116 = .ok (.aload_n 0, 1) := by decide +kernel
theorem dX8_tribes_117 : decode cX8_tribes 117 = .ok (.iconst 0, 1) := by decide +kernel
theorem dX8_tribes_118 : decode cX8_tribes 118 = .ok (.iconst 0, 1) := by decide +kernel
theorem dX8_tribes_119 : decode cX8_tribes 119 = .ok (.iconst 0, 1) := by decide +kernel
theorem dX8_tribes_120 : decode cX8_tribes 120 = .ok (.invokevirtual 268, 3) := by decide +kernel
theorem dX8_tribes_123 : decode cX8_tribes 123 = .ok (.iload_n 3, 1) := by decide +kernel
theorem dX8_tribes_124 : decode cX8_tribes 124 = .ok (.iconst (-1), 1) := by decide +kernel
theorem dX8_tribes_125 : decode cX8_tribes 125 = .ok (.if_icmp .ne 10, 3) := by decide +kernel
theorem dX8_tribes_128 : decode cX8_tribes 128 = .ok (.aload_n 0, 1) := by decide +kernel
theorem dX8_tribes_129 : decode cX8_tribes 129 = .ok (.getfield 265, 3) := by decide +kernel
theorem dX8_tribes_132 : decode cX8_tribes 132 = .ok (.goto 9, 3) := by decide +kernel
theorem dX8_tribes_135 : decode cX8_tribes 135 = .ok (.aload_n 0, 1) := by decide +kernel
theorem dX8_tribes_136 : decode cX8_tribes 136 = .ok (.getfield 71, 3) := by decide +kernel
theorem dX8_tribes_139 : decode cX8_tribes 139 = .ok (.iload_n 3, 1) := by decide +kernel
theorem dX8_tribes_140 : decode cX8_tribes 140 = .ok (.iaload, 1) := by decide +kernel
theorem dX8_tribes_141 : decode cX8_tribes 141 = .ok (.ireturn, 1) := by decide +kernel
def B8_tribes_37 (st : fkS) : Option (Int32 × fkS) :=
 fk_bind (F8_no10 (-6 : Int32) st) <| fun x14 st15 =>
 some (x14, st15)
set_option maxHeartbeats 1000000 in
set_option maxRecDepth 20000 in
theorem T8_tribes_37 {g : fkG} {k : fkK} (hk : fk_ok wM g k RX8 cX8_tribes 6 (some (.int)) 14 333) : ∀ (st : fkS), fk_J wM g fk_eI k 37 [(0, fk_r g 0)] [] st (B8_tribes_37 st) := by
  intro st
  unfold B8_tribes_37
  refine j_aload_n (pc := 37) hk 0 rfl ⟨_, rfl⟩ dX8_tribes_37 ?_
  refine j_bipush (pc := 38) hk dX8_tribes_38 (v := -6) (by decide) ?_
  refine j_callVi (pc := 40) hk [.int (-6 : Int32)] [] rfl (fun l o hq9 => C8_no10 (-6 : Int32) st l o hq9) (rcv_8 (rfl)) yv_X8_no10 ml_8_105 rfl (Nat.le_of_ble_eq_true rfl) (Nat.le_of_ble_eq_true rfl) (Nat.le_of_ble_eq_true rfl) dX8_tribes_40 (fun x14 st15 => ?_)
  exact j_iret (pc := 43) hk dX8_tribes_43
def B8_tribes_73 (k73 : Int32 → Int32 → fkS → Option (Int32 × fkS)) (v3 : Int32) (v5 : Int32) (st : fkS) : Option (Int32 × fkS) :=
 fk_let (gI st 0 0) <| fun x16 =>
 if x16 ≤ v5 then
 (fk_let (sI st 35 0 (-1 : Int32)) <| fun st17 =>
 fk_bind (F8_parts (0 : Int32) (0 : Int32) (0 : Int32) st17) <| fun _ st18 =>
 if v3 = (-1 : Int32) then
 (fk_let (gI st18 35 0) <| fun x19 =>
 some (x19, st18))
 else
 (fk_chk (fk_in v3 7) <| fk_let (gA st18 21 v3.toNatClampNeg) <| fun x20 =>
 some (x20, st18)))
 else
 (fk_chk (fk_in (1 : Int32) 3) <| fk_let (gA st 4 (1 : Int32).toNatClampNeg) <| fun x21 =>
 fk_bind (F8_goes v5 x21 st) <| fun _ st22 =>
 fk_let (gI st22 26 0) <| fun x23 =>
 fk_chk (fk_in v5 7) <| fk_let (sA st22 19 v5.toNatClampNeg x23) <| fun st24 =>
 k73 v3 (v5 + (1 : Int32)) st24)
set_option maxHeartbeats 1000000 in
set_option maxRecDepth 20000 in
theorem T8_tribes_73 {g : fkG} {k : fkK} (hk : fk_ok wM g k RX8 cX8_tribes 6 (some (.int)) 14 333) (k73 : Int32 → Int32 → fkS → Option (Int32 × fkS)) (H73 : ∀ (v3 : Int32) (v5 : Int32) (st : fkS), fk_J wM g fk_eI k 73 [(0, fk_r g 0), (3, .int v3), (5, .int v5)] [] st (k73 v3 v5 st)) : ∀ (v3 : Int32) (v5 : Int32) (st : fkS), fk_J wM g fk_eI k 73 [(0, fk_r g 0), (3, .int v3), (5, .int v5)] [] st (B8_tribes_73 k73 v3 v5 st) := by
  intro v3 v5 st
  unfold B8_tribes_73
  refine j_iload (pc := 73) hk 2 rfl dX8_tribes_73 ?_
  refine j_aload_n (pc := 75) hk 0 rfl ⟨_, rfl⟩ dX8_tribes_75 ?_
  refine f_8_85 (pc := 76) hk (rfl) dX8_tribes_76 (fun x16 => ?_)
  refine j_icmp_ge (tgt := 111) (pc := 79) hk (by decide) dX8_tribes_79 (fun _ => ?_) (fun _ => ?_)
  · refine j_aload_n (pc := 111) hk 0 rfl ⟨_, rfl⟩ dX8_tribes_111 ?_
    refine j_iconst (pc := 112) hk dX8_tribes_112 (v := -1) (by decide) ?_
    refine p_8_265 (pc := 113) hk (rfl) dX8_tribes_113 (fun st17 => ?_)
    refine j_aload_n (pc := 116) hk 0 rfl ⟨_, rfl⟩ dX8_tribes_116 ?_
    refine j_iconst (pc := 117) hk dX8_tribes_117 (v := 0) (by decide) ?_
    refine j_iconst (pc := 118) hk dX8_tribes_118 (v := 0) (by decide) ?_
    refine j_iconst (pc := 119) hk dX8_tribes_119 (v := 0) (by decide) ?_
    refine j_callVv (pc := 120) hk [.int (0 : Int32), .int (0 : Int32), .int (0 : Int32)] [] rfl (fun l o hq9 => C8_parts (0 : Int32) (0 : Int32) (0 : Int32) st17 l o hq9) (rcv_8 (rfl)) yv_X8_parts ml_8_268 rfl (Nat.le_of_ble_eq_true rfl) (Nat.le_of_ble_eq_true rfl) (Nat.le_of_ble_eq_true rfl) dX8_tribes_120 (fun _ st18 => ?_)
    refine j_iload_n (pc := 123) hk 1 rfl dX8_tribes_123 ?_
    refine j_iconst (pc := 124) hk dX8_tribes_124 (v := -1) (by decide) ?_
    refine j_icmp_ne (tgt := 135) (pc := 125) hk (by decide) dX8_tribes_125 (fun _ => ?_) (fun _ => ?_)
    · refine j_aload_n (pc := 128) hk 0 rfl ⟨_, rfl⟩ dX8_tribes_128 ?_
      refine f_8_265 (pc := 129) hk (rfl) dX8_tribes_129 (fun x19 => ?_)
      refine j_goto (tgt := 141) (pc := 132) hk (by decide) dX8_tribes_132 ?_
      exact j_iret (pc := 141) hk dX8_tribes_141
    · refine j_aload_n (pc := 135) hk 0 rfl ⟨_, rfl⟩ dX8_tribes_135 ?_
      refine f_8_71 (pc := 136) hk (rfl) dX8_tribes_136 ?_
      refine j_iload_n (pc := 139) hk 1 rfl dX8_tribes_139 ?_
      refine a_iload (pc := 140) hk (isI_8_34) dX8_tribes_140 (fun x20 => ?_)
      exact j_iret (pc := 141) hk dX8_tribes_141
  · refine j_aload_n (pc := 82) hk 0 rfl ⟨_, rfl⟩ dX8_tribes_82 ?_
    refine j_iload (pc := 83) hk 2 rfl dX8_tribes_83 ?_
    refine j_aload_n (pc := 85) hk 0 rfl ⟨_, rfl⟩ dX8_tribes_85 ?_
    refine f_8_19 (pc := 86) hk (rfl) dX8_tribes_86 ?_
    refine j_iconst (pc := 89) hk dX8_tribes_89 (v := 1) (by decide) ?_
    refine a_iload (pc := 90) hk (isI_8_4) dX8_tribes_90 (fun x21 => ?_)
    refine j_callVv (pc := 91) hk [.int v5, .int x21] [] rfl (fun l o hq9 => C8_goes v5 x21 st l o hq9) (rcv_8 (rfl)) yv_X8_goes ml_8_224 rfl (Nat.le_of_ble_eq_true rfl) (Nat.le_of_ble_eq_true rfl) (Nat.le_of_ble_eq_true rfl) dX8_tribes_91 (fun _ st22 => ?_)
    refine j_aload_n (pc := 94) hk 0 rfl ⟨_, rfl⟩ dX8_tribes_94 ?_
    refine f_8_65 (pc := 95) hk (rfl) dX8_tribes_95 ?_
    refine j_iload (pc := 98) hk 2 rfl dX8_tribes_98 ?_
    refine j_aload_n (pc := 100) hk 0 rfl ⟨_, rfl⟩ dX8_tribes_100 ?_
    refine f_8_209 (pc := 101) hk (rfl) dX8_tribes_101 (fun x23 => ?_)
    refine a_istore (pc := 104) hk (isI_8_32) dX8_tribes_104 (fun st24 => ?_)
    refine j_iinc (dd := (1 : Int32)) (lv' := ((5, .int (v5 + (1 : Int32))) :: [(0, fk_r g 0), (3, .int v3)])) (pc := 105) hk 2 rfl (by decide) (by decide) rfl dX8_tribes_105 ?_
    refine j_sub hk (lv' := [(0, fk_r g 0), (3, .int v3), (5, .int (v5 + (1 : Int32)))]) [1, 2, 0] rfl ?_
    refine j_goto (tgt := 73) (pc := 108) hk (by decide) dX8_tribes_108 ?_
    exact j_sub hk [0, 1, 2] rfl (H73 v3 (v5 + (1 : Int32)) st24)
set_option maxHeartbeats 1000000 in
set_option maxRecDepth 20000 in
theorem L8_tribes_73 {g : fkG} {k : fkK} (hk : fk_ok wM g k RX8 cX8_tribes 6 (some (.int)) 14 333) (fu : Nat) : ∀ (v3 : Int32) (v5 : Int32) (st : fkS), fk_J wM g fk_eI k 73 [(0, fk_r g 0), (3, .int v3), (5, .int v5)] [] st (fk_lp2 (B8_tribes_73) fu v3 v5 st) := by
  induction fu with
  | zero =>
    intro v3 v5 st
    exact j_none hk
  | succ fu ih =>
    exact T8_tribes_73 hk _ ih
def B8_tribes_70 (v3 : Int32) (st : fkS) : Option (Int32 × fkS) :=
 fk_lp2 (B8_tribes_73) fk_fuel v3 (0 : Int32) st
set_option maxHeartbeats 1000000 in
set_option maxRecDepth 20000 in
theorem T8_tribes_70 {g : fkG} {k : fkK} (hk : fk_ok wM g k RX8 cX8_tribes 6 (some (.int)) 14 333) : ∀ (v3 : Int32) (st : fkS), fk_J wM g fk_eI k 70 [(0, fk_r g 0), (3, .int v3)] [] st (B8_tribes_70 v3 st) := by
  intro v3 st
  unfold B8_tribes_70
  refine j_iconst (pc := 70) hk dX8_tribes_70 (v := 0) (by decide) ?_
  refine j_istore (lv' := ((5, .int (0 : Int32)) :: [(0, fk_r g 0), (3, .int v3)])) (pc := 71) hk (by decide) rfl dX8_tribes_71 ?_
  refine j_sub hk (lv' := [(0, fk_r g 0), (3, .int v3), (5, .int (0 : Int32))]) [1, 2, 0] rfl ?_
  exact j_sub hk [0, 1, 2] rfl (L8_tribes_73 hk fk_fuel v3 (0 : Int32) st)
def F8_tribes (p1 : Int32) (p2 : Int32) (p3 : Int32) (st : fkS) : Option (Int32 × fkS) :=
 fk_bind (F8_noRows p1 p2 st) <| fun x1 st2 =>
 if 0 ≤ x1 then
 (fk_bind (F8_isPie p1 (0 : Int32) st2) <| fun x3 st4 =>
 if x3 = 0 then
 (B8_tribes_37 st4)
 else
 (fk_bind (F8_areWishes p2 st4) <| fun x5 st6 =>
 if x5 = 0 then
 (B8_tribes_37 st6)
 else
 (if p3 = (-1 : Int32) then
 (B8_tribes_70 p3 st6)
 else
 (fk_let (gI st6 31 0) <| fun x7 =>
 fk_bind (F8_within p3 (0 : Int32) (x7 - (1 : Int32)) st6) <| fun x8 st9 =>
 if x8 = 0 then
 (fk_bind (F8_no10 (-5 : Int32) st9) <| fun x10 st11 =>
 some (x10, st11))
 else
 (B8_tribes_70 p3 st9)))))
 else
 (fk_bind (F8_no10 x1 st2) <| fun x12 st13 =>
 some (x12, st13))
set_option maxHeartbeats 1000000 in
set_option maxRecDepth 20000 in
theorem C8_tribes (p1 : Int32) (p2 : Int32) (p3 : Int32) (st : fkS) {g : fkG} (l : Launch) (o : Int32 × fkS) (hF : F8_tribes p1 p2 p3 st = some o) : fk_C wM yX8_tribes cX8_tribes 6 (some (.int)) 14 333 l g [fk_r g 0, .int p1, .int p2, .int p3] st (fk_eI o.1) o.2 := by
  refine fk_begin rfl (Nat.le_of_ble_eq_true rfl) (fun k hk => ?_) o hF
  have hk : fk_ok wM g k RX8 cX8_tribes 6 (some (.int)) 14 333 := hk
  show fk_J wM g fk_eI k 0 [(0, fk_r g 0), (1, .int p1), (2, .int p2), (3, .int p3)] [] st (F8_tribes p1 p2 p3 st)
  unfold F8_tribes
  refine j_aload_n (pc := 0) hk 0 rfl ⟨_, rfl⟩ dX8_tribes_0 ?_
  refine j_iload_n (pc := 1) hk 1 rfl dX8_tribes_1 ?_
  refine j_iload_n (pc := 2) hk 2 rfl dX8_tribes_2 ?_
  refine j_callVi (pc := 3) hk [.int p1, .int p2] [] rfl (fun l o hq9 => C8_noRows p1 p2 st l o hq9) (rcv_8 (rfl)) yv_X8_noRows ml_8_236 rfl (Nat.le_of_ble_eq_true rfl) (Nat.le_of_ble_eq_true rfl) (Nat.le_of_ble_eq_true rfl) dX8_tribes_3 (fun x1 st2 => ?_)
  refine j_istore (lv' := ((4, .int x1) :: [(0, fk_r g 0), (1, .int p1), (2, .int p2), (3, .int p3)])) (pc := 6) hk (by decide) rfl dX8_tribes_6 ?_
  refine j_sub hk (lv' := [(0, fk_r g 0), (1, .int p1), (2, .int p2), (3, .int p3), (4, .int x1)]) [1, 2, 3, 4, 0] rfl ?_
  refine j_iload (pc := 8) hk 4 rfl dX8_tribes_8 ?_
  refine j_if_ge (tgt := 20) (pc := 10) hk (by decide) dX8_tribes_10 (fun _ => ?_) (fun _ => ?_)
  · refine j_aload_n (pc := 20) hk 0 rfl ⟨_, rfl⟩ dX8_tribes_20 ?_
    refine j_iload_n (pc := 21) hk 1 rfl dX8_tribes_21 ?_
    refine j_iconst (pc := 22) hk dX8_tribes_22 (v := 0) (by decide) ?_
    refine j_callVi (pc := 23) hk [.int p1, .int (0 : Int32)] [] rfl (fun l o hq9 => C8_isPie p1 (0 : Int32) st2 l o hq9) (rcv_8 (rfl)) yv_X8_isPie ml_8_221 rfl (Nat.le_of_ble_eq_true rfl) (Nat.le_of_ble_eq_true rfl) (Nat.le_of_ble_eq_true rfl) dX8_tribes_23 (fun x3 st4 => ?_)
    refine j_if_eq (tgt := 37) (pc := 26) hk (by decide) dX8_tribes_26 (fun _ => ?_) (fun _ => ?_)
    · exact j_sub hk [0] rfl (T8_tribes_37 hk st4)
    · refine j_aload_n (pc := 29) hk 0 rfl ⟨_, rfl⟩ dX8_tribes_29 ?_
      refine j_iload_n (pc := 30) hk 2 rfl dX8_tribes_30 ?_
      refine j_callVi (pc := 31) hk [.int p2] [] rfl (fun l o hq9 => C8_areWishes p2 st4 l o hq9) (rcv_8 (rfl)) yv_X8_areWishes ml_8_272 rfl (Nat.le_of_ble_eq_true rfl) (Nat.le_of_ble_eq_true rfl) (Nat.le_of_ble_eq_true rfl) dX8_tribes_31 (fun x5 st6 => ?_)
      refine j_if_ne (tgt := 44) (pc := 34) hk (by decide) dX8_tribes_34 (fun _ => ?_) (fun _ => ?_)
      · exact j_sub hk [0] rfl (T8_tribes_37 hk st6)
      · refine j_iload_n (pc := 44) hk 3 rfl dX8_tribes_44 ?_
        refine j_iconst (pc := 45) hk dX8_tribes_45 (v := -1) (by decide) ?_
        refine j_icmp_eq (tgt := 70) (pc := 46) hk (by decide) dX8_tribes_46 (fun _ => ?_) (fun _ => ?_)
        · exact j_sub hk [0, 3] rfl (T8_tribes_70 hk p3 st6)
        · refine j_iload_n (pc := 49) hk 3 rfl dX8_tribes_49 ?_
          refine j_iconst (pc := 50) hk dX8_tribes_50 (v := 0) (by decide) ?_
          refine j_aload_n (pc := 51) hk 0 rfl ⟨_, rfl⟩ dX8_tribes_51 ?_
          refine f_8_262 (pc := 52) hk (rfl) dX8_tribes_52 (fun x7 => ?_)
          refine j_iconst (pc := 55) hk dX8_tribes_55 (v := 1) (by decide) ?_
          refine j_isub (pc := 56) hk dX8_tribes_56 ?_
          refine j_callSi (pc := 57) hk [.int p3, .int (0 : Int32), .int (x7 - (1 : Int32))] [] rfl (fun l o hq9 => C8_within p3 (0 : Int32) (x7 - (1 : Int32)) st6 l o hq9) yv_X8_within ml_8_88 rfl (Nat.le_of_ble_eq_true rfl) (Nat.le_of_ble_eq_true rfl) (Nat.le_of_ble_eq_true rfl) dX8_tribes_57 (fun x8 st9 => ?_)
          refine j_if_ne (tgt := 70) (pc := 60) hk (by decide) dX8_tribes_60 (fun _ => ?_) (fun _ => ?_)
          · refine j_aload_n (pc := 63) hk 0 rfl ⟨_, rfl⟩ dX8_tribes_63 ?_
            refine j_bipush (pc := 64) hk dX8_tribes_64 (v := -5) (by decide) ?_
            refine j_callVi (pc := 66) hk [.int (-5 : Int32)] [] rfl (fun l o hq9 => C8_no10 (-5 : Int32) st9 l o hq9) (rcv_8 (rfl)) yv_X8_no10 ml_8_105 rfl (Nat.le_of_ble_eq_true rfl) (Nat.le_of_ble_eq_true rfl) (Nat.le_of_ble_eq_true rfl) dX8_tribes_66 (fun x10 st11 => ?_)
            exact j_iret (pc := 69) hk dX8_tribes_69
          · exact j_sub hk [0, 3] rfl (T8_tribes_70 hk p3 st9)
  · refine j_aload_n (pc := 13) hk 0 rfl ⟨_, rfl⟩ dX8_tribes_13 ?_
    refine j_iload (pc := 14) hk 4 rfl dX8_tribes_14 ?_
    refine j_callVi (pc := 16) hk [.int x1] [] rfl (fun l o hq9 => C8_no10 x1 st2 l o hq9) (rcv_8 (rfl)) yv_X8_no10 ml_8_105 rfl (Nat.le_of_ble_eq_true rfl) (Nat.le_of_ble_eq_true rfl) (Nat.le_of_ble_eq_true rfl) dX8_tribes_16 (fun x12 st13 => ?_)
    exact j_iret (pc := 19) hk dX8_tribes_19
theorem dX8_alike_0 : decode cX8_alike 0 = .ok (.aload_n 0, 1) := by decide +kernel
theorem dX8_alike_1 : decode cX8_alike 1 = .ok (.iload_n 1, 1) := by decide +kernel
theorem dX8_alike_2 : decode cX8_alike 2 = .ok (.invokevirtual 99, 3) := by decide +kernel
theorem dX8_alike_5 : decode cX8_alike 5 = .ok (.ifCond .eq 11, 3) := by decide +kernel
theorem dX8_alike_8 : decode cX8_alike 8 = .ok (.aload_n 0, 1) := by decide +kernel
theorem dX8_alike_9 : decode cX8_alike 9 = .ok (.iload_n 2, 1) := by decide +kernel
theorem dX8_alike_10 : decode cX8_alike 10 = .ok (.invokevirtual 99, 3) := by decide +kernel
theorem dX8_alike_13 : decode cX8_alike 13 = .ok (.ifCond .ne 9, 3) := by decide +kernel
theorem dX8_alike_16 : decode cX8_alike 16 = .ok (.aload_n 0, 1) := by decide +kernel
theorem dX8_alike_17 : decode cX8_alike 17 = .ok (.iconst (-1), 1) := by decide +kernel
theorem dX8_alike_18 : decode cX8_alike 18 = .ok (.invokevirtual 81, 3) := by decide +kernel
theorem dX8_alike_21 : decode cX8_alike 21 = .ok (.ireturn, 1) := by decide +kernel
theorem dX8_alike_22 : decode cX8_alike 22 = .ok (.iconst 0, 1) := by decide +kernel
theorem dX8_alike_23 : decode cX8_alike 23 = .ok (.istore_n 3, 1) := by decide +kernel
theorem dX8_alike_24 : decode cX8_alike 24 = .ok (.iconst 0, 1) := by decide +kernel
theorem dX8_alike_25 : decode cX8_alike 25 = .ok (.istore 4, 2) := by decide +kernel
theorem dX8_alike_27 : decode cX8_alike 27 = .ok (.iload 4, 2) := by decide +kernel
theorem dX8_alike_29 : decode cX8_alike 29 = .ok (.bipush 100, 2) := by decide +kernel
theorem dX8_alike_31 : decode cX8_alike 31 = .ok (.if_icmp .ge 131, 3) := by decide +kernel
theorem dX8_alike_34 : decode cX8_alike 34 = .ok (.aload_n 0, 1) := by decide +kernel
theorem dX8_alike_35 : decode cX8_alike 35 = .ok (.iconst 2, 1) := by decide +kernel
theorem dX8_alike_36 : decode cX8_alike 36 = .ok (.iload 4, 2) := by decide +kernel
theorem dX8_alike_38 : decode cX8_alike 38 = .ok (.invokevirtual 230, 3) := by decide +kernel
theorem dX8_alike_41 : decode cX8_alike 41 = .ok (.aload_n 0, 1) := by decide +kernel
theorem dX8_alike_42 : decode cX8_alike 42 = .ok (.iload_n 1, 1) := by decide +kernel
theorem dX8_alike_43 : decode cX8_alike 43 = .ok (.invokevirtual 115, 3) := by decide +kernel
theorem dX8_alike_46 : decode cX8_alike 46 = .ok (.aload_n 0, 1) := by decide +kernel
theorem dX8_alike_47 : decode cX8_alike 47 = .ok (.getfield 119, 3) := by decide +kernel
theorem dX8_alike_50 : decode cX8_alike 50 = .ok (.istore 5, 2) := by decide +kernel
theorem dX8_alike_52 : decode cX8_alike 52 = .ok (.iconst 0, 1) := by decide +kernel
theorem dX8_alike_53 : decode cX8_alike 53 = .ok (.istore 6, 2) := by decide +kernel
theorem dX8_alike_55 : decode cX8_alike 55 = .ok (.iload 6, 2) := by decide +kernel
theorem dX8_alike_57 : decode cX8_alike 57 = .ok (.iload 5, 2) := by decide +kernel
theorem dX8_alike_59 : decode cX8_alike 59 = .ok (.if_icmp .ge 23, 3) := by decide +kernel
theorem dX8_alike_62 : decode cX8_alike 62 = .ok (.aload_n 0, 1) := by decide +kernel
theorem dX8_alike_63 : decode cX8_alike 63 = .ok (.getfield 59, 3) := by decide +kernel
theorem dX8_alike_66 : decode cX8_alike 66 = .ok (.iload 6, 2) := by decide +kernel
theorem dX8_alike_68 : decode cX8_alike 68 = .ok (.aload_n 0, 1) := by decide +kernel
theorem dX8_alike_69 : decode cX8_alike 69 = .ok (.getfield 53, 3) := by decide +kernel
theorem dX8_alike_72 : decode cX8_alike 72 = .ok (.iload 6, 2) := by decide +kernel
theorem dX8_alike_74 : decode cX8_alike 74 = .ok (.iaload, 1) := by decide +kernel
theorem dX8_alike_75 : decode cX8_alike 75 = .ok (.iastore, 1) := by decide +kernel
theorem dX8_alike_76 : decode cX8_alike 76 = .ok (.iinc 6 1, 3) := by decide +kernel
theorem dX8_alike_79 : decode cX8_alike 79 = .ok (.goto (-24), 3) := by decide +kernel
theorem dX8_alike_82 : decode cX8_alike 82 = .ok (.aload_n 0, 1) := by decide +kernel
theorem dX8_alike_83 : decode cX8_alike 83 = .ok (.iload_n 2, 1) := by decide +kernel
theorem dX8_alike_84 : decode cX8_alike 84 = .ok (.invokevirtual 115, 3) := by decide +kernel
theorem dX8_alike_87 : decode cX8_alike 87 = .ok (.iload 5, 2) := by decide +kernel
theorem dX8_alike_89 : decode cX8_alike 89 = .ok (.aload_n 0, 1) := by decide +kernel
theorem dX8_alike_90 : decode cX8_alike 90 = .ok (.getfield 119, 3) := by decide +kernel
theorem dX8_alike_93 : decode cX8_alike 93 = .ok (.if_icmp .ne 7, 3) := by decide +kernel
theorem dX8_alike_96 : decode cX8_alike 96 = .ok (.iconst 1, 1) := by decide +kernel
theorem dX8_alike_97 : decode cX8_alike 97 = .ok (.goto 4, 3) := by decide +kernel
theorem dX8_alike_100 : decode cX8_alike 100 = .ok (.iconst 0, 1) := by decide +kernel
theorem dX8_alike_101 : decode cX8_alike 101 = .ok (.istore 6, 2) := by decide +kernel
theorem dX8_alike_103 : decode cX8_alike 103 = .ok (.iconst 0, 1) := by decide +kernel
theorem dX8_alike_104 : decode cX8_alike 104 = .ok (.istore 7, 2) := by decide +kernel
theorem dX8_alike_106 : decode cX8_alike 106 = .ok (.iload 7, 2) := by decide +kernel
theorem dX8_alike_108 : decode cX8_alike 108 = .ok (.iload 5, 2) := by decide +kernel
theorem dX8_alike_110 : decode cX8_alike 110 = .ok (.if_icmp .ge 38, 3) := by decide +kernel
theorem dX8_alike_113 : decode cX8_alike 113 = .ok (.iload 6, 2) := by decide +kernel
theorem dX8_alike_115 : decode cX8_alike 115 = .ok (.ifCond .eq 33, 3) := by decide +kernel
theorem dX8_alike_118 : decode cX8_alike 118 = .ok (.aload_n 0, 1) := by decide +kernel
theorem dX8_alike_119 : decode cX8_alike 119 = .ok (.getfield 59, 3) := by decide +kernel
theorem dX8_alike_122 : decode cX8_alike 122 = .ok (.iload 7, 2) := by decide +kernel
theorem dX8_alike_124 : decode cX8_alike 124 = .ok (.iaload, 1) := by decide +kernel
theorem dX8_alike_125 : decode cX8_alike 125 = .ok (.aload_n 0, 1) := by decide +kernel
theorem dX8_alike_126 : decode cX8_alike 126 = .ok (.getfield 53, 3) := by decide +kernel
theorem dX8_alike_129 : decode cX8_alike 129 = .ok (.iload 7, 2) := by decide +kernel
theorem dX8_alike_131 : decode cX8_alike 131 = .ok (.iaload, 1) := by decide +kernel
theorem dX8_alike_132 : decode cX8_alike 132 = .ok (.if_icmp .ne 7, 3) := by decide +kernel
theorem dX8_alike_135 : decode cX8_alike 135 = .ok (.iconst 1, 1) := by decide +kernel
theorem dX8_alike_136 : decode cX8_alike 136 = .ok (.goto 4, 3) := by decide +kernel
theorem dX8_alike_139 : decode cX8_alike 139 = .ok (.iconst 0, 1) := by decide +kernel
theorem dX8_alike_140 : decode cX8_alike 140 = .ok (.istore 6, 2) := by decide +kernel
theorem dX8_alike_142 : decode cX8_alike 142 = .ok (.iinc 7 1, 3) := by decide +kernel
theorem dX8_alike_145 : decode cX8_alike 145 = .ok (.goto (-39), 3) := by decide +kernel
theorem dX8_alike_148 : decode cX8_alike 148 = .ok (.iload 6, 2) := by decide +kernel
theorem dX8_alike_150 : decode cX8_alike 150 = .ok (.ifCond .eq 6, 3) := by decide +kernel
theorem dX8_alike_153 : decode cX8_alike 153 = .ok (.iinc 3 1, 3) := by decide +kernel
theorem dX8_alike_156 : decode cX8_alike 156 = .ok (.iinc 4 1, 3) := by decide +kernel
theorem dX8_alike_159 : decode cX8_alike 159 = .ok (.goto (-132), 3) := by decide +kernel
theorem dX8_alike_162 : decode cX8_alike 162 = .ok (.iload_n 3, 1) := by decide +kernel
theorem dX8_alike_163 : decode cX8_alike 163 = .ok (.ireturn, 1) := by decide +kernel
def B8_alike_16 (st : fkS) : Option (Int32 × fkS) :=
 fk_bind (F8_no (-1 : Int32) st) <| fun x5 st6 =>
 some (x5, st6)
set_option maxHeartbeats 1000000 in
set_option maxRecDepth 20000 in
theorem T8_alike_16 {g : fkG} {k : fkK} (hk : fk_ok wM g k RX8 cX8_alike 8 (some (.int)) 4 123) : ∀ (st : fkS), fk_J wM g fk_eI k 16 [(0, fk_r g 0)] [] st (B8_alike_16 st) := by
  intro st
  unfold B8_alike_16
  refine j_aload_n (pc := 16) hk 0 rfl ⟨_, rfl⟩ dX8_alike_16 ?_
  refine j_iconst (pc := 17) hk dX8_alike_17 (v := -1) (by decide) ?_
  refine j_callVi (pc := 18) hk [.int (-1 : Int32)] [] rfl (fun l o hq9 => C8_no (-1 : Int32) st l o hq9) (rcv_8 (rfl)) yv_X8_no ml_8_81 rfl (Nat.le_of_ble_eq_true rfl) (Nat.le_of_ble_eq_true rfl) (Nat.le_of_ble_eq_true rfl) dX8_alike_18 (fun x5 st6 => ?_)
  exact j_iret (pc := 21) hk dX8_alike_21
def B8_alike_140 (k27 : Int32 → Int32 → Int32 → Int32 → fkS → Option (Int32 × fkS)) (k106 : Int32 → Int32 → Int32 → Int32 → Int32 → Int32 → Int32 → fkS → Option (Int32 × fkS)) (v1 : Int32) (v2 : Int32) (v3 : Int32) (v4 : Int32) (v5 : Int32) (v7 : Int32) (s0 : Int32) (st : fkS) : Option (Int32 × fkS) :=
 k106 v1 v2 v3 v4 v5 s0 (v7 + (1 : Int32)) st
set_option maxHeartbeats 1000000 in
set_option maxRecDepth 20000 in
theorem T8_alike_140 {g : fkG} {k : fkK} (hk : fk_ok wM g k RX8 cX8_alike 8 (some (.int)) 4 123) (k27 : Int32 → Int32 → Int32 → Int32 → fkS → Option (Int32 × fkS)) (H27 : ∀ (v1 : Int32) (v2 : Int32) (v3 : Int32) (v4 : Int32) (st : fkS), fk_J wM g fk_eI k 27 [(0, fk_r g 0), (1, .int v1), (2, .int v2), (3, .int v3), (4, .int v4)] [] st (k27 v1 v2 v3 v4 st)) (k106 : Int32 → Int32 → Int32 → Int32 → Int32 → Int32 → Int32 → fkS → Option (Int32 × fkS)) (H106 : ∀ (v1 : Int32) (v2 : Int32) (v3 : Int32) (v4 : Int32) (v5 : Int32) (v6 : Int32) (v7 : Int32) (st : fkS), fk_J wM g fk_eI k 106 [(0, fk_r g 0), (1, .int v1), (2, .int v2), (3, .int v3), (4, .int v4), (5, .int v5), (6, .int v6), (7, .int v7)] [] st (k106 v1 v2 v3 v4 v5 v6 v7 st)) : ∀ (v1 : Int32) (v2 : Int32) (v3 : Int32) (v4 : Int32) (v5 : Int32) (v7 : Int32) (s0 : Int32) (st : fkS), fk_J wM g fk_eI k 140 [(0, fk_r g 0), (1, .int v1), (2, .int v2), (3, .int v3), (4, .int v4), (5, .int v5), (7, .int v7)] [.int s0] st (B8_alike_140 k27 k106 v1 v2 v3 v4 v5 v7 s0 st) := by
  intro v1 v2 v3 v4 v5 v7 s0 st
  unfold B8_alike_140
  refine j_istore (lv' := ((6, .int s0) :: [(0, fk_r g 0), (1, .int v1), (2, .int v2), (3, .int v3), (4, .int v4), (5, .int v5), (7, .int v7)])) (pc := 140) hk (by decide) rfl dX8_alike_140 ?_
  refine j_sub hk (lv' := [(0, fk_r g 0), (1, .int v1), (2, .int v2), (3, .int v3), (4, .int v4), (5, .int v5), (6, .int s0), (7, .int v7)]) [1, 2, 3, 4, 5, 6, 0, 7] rfl ?_
  refine j_iinc (dd := (1 : Int32)) (lv' := ((7, .int (v7 + (1 : Int32))) :: [(0, fk_r g 0), (1, .int v1), (2, .int v2), (3, .int v3), (4, .int v4), (5, .int v5), (6, .int s0)])) (pc := 142) hk 7 rfl (by decide) (by decide) rfl dX8_alike_142 ?_
  refine j_sub hk (lv' := [(0, fk_r g 0), (1, .int v1), (2, .int v2), (3, .int v3), (4, .int v4), (5, .int v5), (6, .int s0), (7, .int (v7 + (1 : Int32)))]) [1, 2, 3, 4, 5, 6, 7, 0] rfl ?_
  refine j_goto (tgt := 106) (pc := 145) hk (by decide) dX8_alike_145 ?_
  exact j_sub hk [0, 1, 2, 3, 4, 5, 6, 7] rfl (H106 v1 v2 v3 v4 v5 s0 (v7 + (1 : Int32)) st)
def B8_alike_156 (k27 : Int32 → Int32 → Int32 → Int32 → fkS → Option (Int32 × fkS)) (v1 : Int32) (v2 : Int32) (v3 : Int32) (v4 : Int32) (st : fkS) : Option (Int32 × fkS) :=
 k27 v1 v2 v3 (v4 + (1 : Int32)) st
set_option maxHeartbeats 1000000 in
set_option maxRecDepth 20000 in
theorem T8_alike_156 {g : fkG} {k : fkK} (hk : fk_ok wM g k RX8 cX8_alike 8 (some (.int)) 4 123) (k27 : Int32 → Int32 → Int32 → Int32 → fkS → Option (Int32 × fkS)) (H27 : ∀ (v1 : Int32) (v2 : Int32) (v3 : Int32) (v4 : Int32) (st : fkS), fk_J wM g fk_eI k 27 [(0, fk_r g 0), (1, .int v1), (2, .int v2), (3, .int v3), (4, .int v4)] [] st (k27 v1 v2 v3 v4 st)) : ∀ (v1 : Int32) (v2 : Int32) (v3 : Int32) (v4 : Int32) (st : fkS), fk_J wM g fk_eI k 156 [(0, fk_r g 0), (1, .int v1), (2, .int v2), (3, .int v3), (4, .int v4)] [] st (B8_alike_156 k27 v1 v2 v3 v4 st) := by
  intro v1 v2 v3 v4 st
  unfold B8_alike_156
  refine j_iinc (dd := (1 : Int32)) (lv' := ((4, .int (v4 + (1 : Int32))) :: [(0, fk_r g 0), (1, .int v1), (2, .int v2), (3, .int v3)])) (pc := 156) hk 4 rfl (by decide) (by decide) rfl dX8_alike_156 ?_
  refine j_sub hk (lv' := [(0, fk_r g 0), (1, .int v1), (2, .int v2), (3, .int v3), (4, .int (v4 + (1 : Int32)))]) [1, 2, 3, 4, 0] rfl ?_
  refine j_goto (tgt := 27) (pc := 159) hk (by decide) dX8_alike_159 ?_
  exact j_sub hk [0, 1, 2, 3, 4] rfl (H27 v1 v2 v3 (v4 + (1 : Int32)) st)
def B8_alike_148 (k27 : Int32 → Int32 → Int32 → Int32 → fkS → Option (Int32 × fkS)) (v1 : Int32) (v2 : Int32) (v3 : Int32) (v4 : Int32) (v6 : Int32) (st : fkS) : Option (Int32 × fkS) :=
 if v6 = 0 then
 (B8_alike_156 k27 v1 v2 v3 v4 st)
 else
 (B8_alike_156 k27 v1 v2 (v3 + (1 : Int32)) v4 st)
set_option maxHeartbeats 1000000 in
set_option maxRecDepth 20000 in
theorem T8_alike_148 {g : fkG} {k : fkK} (hk : fk_ok wM g k RX8 cX8_alike 8 (some (.int)) 4 123) (k27 : Int32 → Int32 → Int32 → Int32 → fkS → Option (Int32 × fkS)) (H27 : ∀ (v1 : Int32) (v2 : Int32) (v3 : Int32) (v4 : Int32) (st : fkS), fk_J wM g fk_eI k 27 [(0, fk_r g 0), (1, .int v1), (2, .int v2), (3, .int v3), (4, .int v4)] [] st (k27 v1 v2 v3 v4 st)) : ∀ (v1 : Int32) (v2 : Int32) (v3 : Int32) (v4 : Int32) (v6 : Int32) (st : fkS), fk_J wM g fk_eI k 148 [(0, fk_r g 0), (1, .int v1), (2, .int v2), (3, .int v3), (4, .int v4), (6, .int v6)] [] st (B8_alike_148 k27 v1 v2 v3 v4 v6 st) := by
  intro v1 v2 v3 v4 v6 st
  unfold B8_alike_148
  refine j_iload (pc := 148) hk 5 rfl dX8_alike_148 ?_
  refine j_if_eq (tgt := 156) (pc := 150) hk (by decide) dX8_alike_150 (fun _ => ?_) (fun _ => ?_)
  · exact j_sub hk [0, 1, 2, 3, 4] rfl (T8_alike_156 hk k27 H27 v1 v2 v3 v4 st)
  · refine j_iinc (dd := (1 : Int32)) (lv' := ((3, .int (v3 + (1 : Int32))) :: [(0, fk_r g 0), (1, .int v1), (2, .int v2), (4, .int v4), (6, .int v6)])) (pc := 153) hk 3 rfl (by decide) (by decide) rfl dX8_alike_153 ?_
    refine j_sub hk (lv' := [(0, fk_r g 0), (1, .int v1), (2, .int v2), (3, .int (v3 + (1 : Int32))), (4, .int v4), (6, .int v6)]) [1, 2, 3, 0, 4, 5] rfl ?_
    exact j_sub hk [0, 1, 2, 3, 4] rfl (T8_alike_156 hk k27 H27 v1 v2 (v3 + (1 : Int32)) v4 st)
def B8_alike_106 (k27 : Int32 → Int32 → Int32 → Int32 → fkS → Option (Int32 × fkS)) (k106 : Int32 → Int32 → Int32 → Int32 → Int32 → Int32 → Int32 → fkS → Option (Int32 × fkS)) (v1 : Int32) (v2 : Int32) (v3 : Int32) (v4 : Int32) (v5 : Int32) (v6 : Int32) (v7 : Int32) (st : fkS) : Option (Int32 × fkS) :=
 if v5 ≤ v7 then
 (B8_alike_148 k27 v1 v2 v3 v4 v6 st)
 else
 (if v6 = 0 then
 (B8_alike_148 k27 v1 v2 v3 v4 v6 st)
 else
 (fk_chk (fk_in v7 14) <| fk_let (gA st 17 v7.toNatClampNeg) <| fun x14 =>
 fk_chk (fk_in v7 16) <| fk_let (gA st 15 v7.toNatClampNeg) <| fun x15 =>
 if x14 = x15 then
 (B8_alike_140 k27 k106 v1 v2 v3 v4 v5 v7 (1 : Int32) st)
 else
 (B8_alike_140 k27 k106 v1 v2 v3 v4 v5 v7 (0 : Int32) st)))
set_option maxHeartbeats 1000000 in
set_option maxRecDepth 20000 in
theorem T8_alike_106 {g : fkG} {k : fkK} (hk : fk_ok wM g k RX8 cX8_alike 8 (some (.int)) 4 123) (k27 : Int32 → Int32 → Int32 → Int32 → fkS → Option (Int32 × fkS)) (H27 : ∀ (v1 : Int32) (v2 : Int32) (v3 : Int32) (v4 : Int32) (st : fkS), fk_J wM g fk_eI k 27 [(0, fk_r g 0), (1, .int v1), (2, .int v2), (3, .int v3), (4, .int v4)] [] st (k27 v1 v2 v3 v4 st)) (k106 : Int32 → Int32 → Int32 → Int32 → Int32 → Int32 → Int32 → fkS → Option (Int32 × fkS)) (H106 : ∀ (v1 : Int32) (v2 : Int32) (v3 : Int32) (v4 : Int32) (v5 : Int32) (v6 : Int32) (v7 : Int32) (st : fkS), fk_J wM g fk_eI k 106 [(0, fk_r g 0), (1, .int v1), (2, .int v2), (3, .int v3), (4, .int v4), (5, .int v5), (6, .int v6), (7, .int v7)] [] st (k106 v1 v2 v3 v4 v5 v6 v7 st)) : ∀ (v1 : Int32) (v2 : Int32) (v3 : Int32) (v4 : Int32) (v5 : Int32) (v6 : Int32) (v7 : Int32) (st : fkS), fk_J wM g fk_eI k 106 [(0, fk_r g 0), (1, .int v1), (2, .int v2), (3, .int v3), (4, .int v4), (5, .int v5), (6, .int v6), (7, .int v7)] [] st (B8_alike_106 k27 k106 v1 v2 v3 v4 v5 v6 v7 st) := by
  intro v1 v2 v3 v4 v5 v6 v7 st
  unfold B8_alike_106
  refine j_iload (pc := 106) hk 7 rfl dX8_alike_106 ?_
  refine j_iload (pc := 108) hk 5 rfl dX8_alike_108 ?_
  refine j_icmp_ge (tgt := 148) (pc := 110) hk (by decide) dX8_alike_110 (fun _ => ?_) (fun _ => ?_)
  · exact j_sub hk [0, 1, 2, 3, 4, 6] rfl (T8_alike_148 hk k27 H27 v1 v2 v3 v4 v6 st)
  · refine j_iload (pc := 113) hk 6 rfl dX8_alike_113 ?_
    refine j_if_eq (tgt := 148) (pc := 115) hk (by decide) dX8_alike_115 (fun _ => ?_) (fun _ => ?_)
    · exact j_sub hk [0, 1, 2, 3, 4, 6] rfl (T8_alike_148 hk k27 H27 v1 v2 v3 v4 v6 st)
    · refine j_aload_n (pc := 118) hk 0 rfl ⟨_, rfl⟩ dX8_alike_118 ?_
      refine f_8_59 (pc := 119) hk (rfl) dX8_alike_119 ?_
      refine j_iload (pc := 122) hk 7 rfl dX8_alike_122 ?_
      refine a_iload (pc := 124) hk (isI_8_29) dX8_alike_124 (fun x14 => ?_)
      refine j_aload_n (pc := 125) hk 0 rfl ⟨_, rfl⟩ dX8_alike_125 ?_
      refine f_8_53 (pc := 126) hk (rfl) dX8_alike_126 ?_
      refine j_iload (pc := 129) hk 7 rfl dX8_alike_129 ?_
      refine a_iload (pc := 131) hk (isI_8_25) dX8_alike_131 (fun x15 => ?_)
      refine j_icmp_ne (tgt := 139) (pc := 132) hk (by decide) dX8_alike_132 (fun _ => ?_) (fun _ => ?_)
      · refine j_iconst (pc := 135) hk dX8_alike_135 (v := 1) (by decide) ?_
        refine j_goto (tgt := 140) (pc := 136) hk (by decide) dX8_alike_136 ?_
        exact j_sub hk [0, 1, 2, 3, 4, 5, 7] rfl (T8_alike_140 hk k27 H27 k106 H106 v1 v2 v3 v4 v5 v7 (1 : Int32) st)
      · refine j_iconst (pc := 139) hk dX8_alike_139 (v := 0) (by decide) ?_
        exact j_sub hk [0, 1, 2, 3, 4, 5, 7] rfl (T8_alike_140 hk k27 H27 k106 H106 v1 v2 v3 v4 v5 v7 (0 : Int32) st)
set_option maxHeartbeats 1000000 in
set_option maxRecDepth 20000 in
theorem L8_alike_106 {g : fkG} {k : fkK} (hk : fk_ok wM g k RX8 cX8_alike 8 (some (.int)) 4 123) (k27 : Int32 → Int32 → Int32 → Int32 → fkS → Option (Int32 × fkS)) (H27 : ∀ (v1 : Int32) (v2 : Int32) (v3 : Int32) (v4 : Int32) (st : fkS), fk_J wM g fk_eI k 27 [(0, fk_r g 0), (1, .int v1), (2, .int v2), (3, .int v3), (4, .int v4)] [] st (k27 v1 v2 v3 v4 st)) (fu : Nat) : ∀ (v1 : Int32) (v2 : Int32) (v3 : Int32) (v4 : Int32) (v5 : Int32) (v6 : Int32) (v7 : Int32) (st : fkS), fk_J wM g fk_eI k 106 [(0, fk_r g 0), (1, .int v1), (2, .int v2), (3, .int v3), (4, .int v4), (5, .int v5), (6, .int v6), (7, .int v7)] [] st (fk_lp7 (B8_alike_106 k27) fu v1 v2 v3 v4 v5 v6 v7 st) := by
  induction fu with
  | zero =>
    intro v1 v2 v3 v4 v5 v6 v7 st
    exact j_none hk
  | succ fu ih =>
    exact T8_alike_106 hk k27 H27 _ ih
def B8_alike_101 (k27 : Int32 → Int32 → Int32 → Int32 → fkS → Option (Int32 × fkS)) (v1 : Int32) (v2 : Int32) (v3 : Int32) (v4 : Int32) (v5 : Int32) (s0 : Int32) (st : fkS) : Option (Int32 × fkS) :=
 fk_lp7 (B8_alike_106 k27) fk_fuel v1 v2 v3 v4 v5 s0 (0 : Int32) st
set_option maxHeartbeats 1000000 in
set_option maxRecDepth 20000 in
theorem T8_alike_101 {g : fkG} {k : fkK} (hk : fk_ok wM g k RX8 cX8_alike 8 (some (.int)) 4 123) (k27 : Int32 → Int32 → Int32 → Int32 → fkS → Option (Int32 × fkS)) (H27 : ∀ (v1 : Int32) (v2 : Int32) (v3 : Int32) (v4 : Int32) (st : fkS), fk_J wM g fk_eI k 27 [(0, fk_r g 0), (1, .int v1), (2, .int v2), (3, .int v3), (4, .int v4)] [] st (k27 v1 v2 v3 v4 st)) : ∀ (v1 : Int32) (v2 : Int32) (v3 : Int32) (v4 : Int32) (v5 : Int32) (s0 : Int32) (st : fkS), fk_J wM g fk_eI k 101 [(0, fk_r g 0), (1, .int v1), (2, .int v2), (3, .int v3), (4, .int v4), (5, .int v5)] [.int s0] st (B8_alike_101 k27 v1 v2 v3 v4 v5 s0 st) := by
  intro v1 v2 v3 v4 v5 s0 st
  unfold B8_alike_101
  refine j_istore (lv' := ((6, .int s0) :: [(0, fk_r g 0), (1, .int v1), (2, .int v2), (3, .int v3), (4, .int v4), (5, .int v5)])) (pc := 101) hk (by decide) rfl dX8_alike_101 ?_
  refine j_sub hk (lv' := [(0, fk_r g 0), (1, .int v1), (2, .int v2), (3, .int v3), (4, .int v4), (5, .int v5), (6, .int s0)]) [1, 2, 3, 4, 5, 6, 0] rfl ?_
  refine j_iconst (pc := 103) hk dX8_alike_103 (v := 0) (by decide) ?_
  refine j_istore (lv' := ((7, .int (0 : Int32)) :: [(0, fk_r g 0), (1, .int v1), (2, .int v2), (3, .int v3), (4, .int v4), (5, .int v5), (6, .int s0)])) (pc := 104) hk (by decide) rfl dX8_alike_104 ?_
  refine j_sub hk (lv' := [(0, fk_r g 0), (1, .int v1), (2, .int v2), (3, .int v3), (4, .int v4), (5, .int v5), (6, .int s0), (7, .int (0 : Int32))]) [1, 2, 3, 4, 5, 6, 7, 0] rfl ?_
  exact j_sub hk [0, 1, 2, 3, 4, 5, 6, 7] rfl (L8_alike_106 hk k27 H27 fk_fuel v1 v2 v3 v4 v5 s0 (0 : Int32) st)
def B8_alike_55 (k27 : Int32 → Int32 → Int32 → Int32 → fkS → Option (Int32 × fkS)) (k55 : Int32 → Int32 → Int32 → Int32 → Int32 → Int32 → fkS → Option (Int32 × fkS)) (v1 : Int32) (v2 : Int32) (v3 : Int32) (v4 : Int32) (v5 : Int32) (v6 : Int32) (st : fkS) : Option (Int32 × fkS) :=
 if v5 ≤ v6 then
 (fk_bind (F8_tells v2 st) <| fun _ st10 =>
 fk_let (gI st10 24 0) <| fun x11 =>
 if v5 = x11 then
 (B8_alike_101 k27 v1 v2 v3 v4 v5 (1 : Int32) st10)
 else
 (B8_alike_101 k27 v1 v2 v3 v4 v5 (0 : Int32) st10))
 else
 (fk_chk (fk_in v6 16) <| fk_let (gA st 15 v6.toNatClampNeg) <| fun x12 =>
 fk_chk (fk_in v6 14) <| fk_let (sA st 17 v6.toNatClampNeg x12) <| fun st13 =>
 k55 v1 v2 v3 v4 v5 (v6 + (1 : Int32)) st13)
set_option maxHeartbeats 1000000 in
set_option maxRecDepth 20000 in
theorem T8_alike_55 {g : fkG} {k : fkK} (hk : fk_ok wM g k RX8 cX8_alike 8 (some (.int)) 4 123) (k27 : Int32 → Int32 → Int32 → Int32 → fkS → Option (Int32 × fkS)) (H27 : ∀ (v1 : Int32) (v2 : Int32) (v3 : Int32) (v4 : Int32) (st : fkS), fk_J wM g fk_eI k 27 [(0, fk_r g 0), (1, .int v1), (2, .int v2), (3, .int v3), (4, .int v4)] [] st (k27 v1 v2 v3 v4 st)) (k55 : Int32 → Int32 → Int32 → Int32 → Int32 → Int32 → fkS → Option (Int32 × fkS)) (H55 : ∀ (v1 : Int32) (v2 : Int32) (v3 : Int32) (v4 : Int32) (v5 : Int32) (v6 : Int32) (st : fkS), fk_J wM g fk_eI k 55 [(0, fk_r g 0), (1, .int v1), (2, .int v2), (3, .int v3), (4, .int v4), (5, .int v5), (6, .int v6)] [] st (k55 v1 v2 v3 v4 v5 v6 st)) : ∀ (v1 : Int32) (v2 : Int32) (v3 : Int32) (v4 : Int32) (v5 : Int32) (v6 : Int32) (st : fkS), fk_J wM g fk_eI k 55 [(0, fk_r g 0), (1, .int v1), (2, .int v2), (3, .int v3), (4, .int v4), (5, .int v5), (6, .int v6)] [] st (B8_alike_55 k27 k55 v1 v2 v3 v4 v5 v6 st) := by
  intro v1 v2 v3 v4 v5 v6 st
  unfold B8_alike_55
  refine j_iload (pc := 55) hk 6 rfl dX8_alike_55 ?_
  refine j_iload (pc := 57) hk 5 rfl dX8_alike_57 ?_
  refine j_icmp_ge (tgt := 82) (pc := 59) hk (by decide) dX8_alike_59 (fun _ => ?_) (fun _ => ?_)
  · refine j_aload_n (pc := 82) hk 0 rfl ⟨_, rfl⟩ dX8_alike_82 ?_
    refine j_iload_n (pc := 83) hk 2 rfl dX8_alike_83 ?_
    refine j_callVv (pc := 84) hk [.int v2] [] rfl (fun l o hq9 => C8_tells v2 st l o hq9) (rcv_8 (rfl)) yv_X8_tells ml_8_115 rfl (Nat.le_of_ble_eq_true rfl) (Nat.le_of_ble_eq_true rfl) (Nat.le_of_ble_eq_true rfl) dX8_alike_84 (fun _ st10 => ?_)
    refine j_iload (pc := 87) hk 5 rfl dX8_alike_87 ?_
    refine j_aload_n (pc := 89) hk 0 rfl ⟨_, rfl⟩ dX8_alike_89 ?_
    refine f_8_119 (pc := 90) hk (rfl) dX8_alike_90 (fun x11 => ?_)
    refine j_icmp_ne (tgt := 100) (pc := 93) hk (by decide) dX8_alike_93 (fun _ => ?_) (fun _ => ?_)
    · refine j_iconst (pc := 96) hk dX8_alike_96 (v := 1) (by decide) ?_
      refine j_goto (tgt := 101) (pc := 97) hk (by decide) dX8_alike_97 ?_
      exact j_sub hk [0, 1, 2, 3, 4, 5] rfl (T8_alike_101 hk k27 H27 v1 v2 v3 v4 v5 (1 : Int32) st10)
    · refine j_iconst (pc := 100) hk dX8_alike_100 (v := 0) (by decide) ?_
      exact j_sub hk [0, 1, 2, 3, 4, 5] rfl (T8_alike_101 hk k27 H27 v1 v2 v3 v4 v5 (0 : Int32) st10)
  · refine j_aload_n (pc := 62) hk 0 rfl ⟨_, rfl⟩ dX8_alike_62 ?_
    refine f_8_59 (pc := 63) hk (rfl) dX8_alike_63 ?_
    refine j_iload (pc := 66) hk 6 rfl dX8_alike_66 ?_
    refine j_aload_n (pc := 68) hk 0 rfl ⟨_, rfl⟩ dX8_alike_68 ?_
    refine f_8_53 (pc := 69) hk (rfl) dX8_alike_69 ?_
    refine j_iload (pc := 72) hk 6 rfl dX8_alike_72 ?_
    refine a_iload (pc := 74) hk (isI_8_25) dX8_alike_74 (fun x12 => ?_)
    refine a_istore (pc := 75) hk (isI_8_29) dX8_alike_75 (fun st13 => ?_)
    refine j_iinc (dd := (1 : Int32)) (lv' := ((6, .int (v6 + (1 : Int32))) :: [(0, fk_r g 0), (1, .int v1), (2, .int v2), (3, .int v3), (4, .int v4), (5, .int v5)])) (pc := 76) hk 6 rfl (by decide) (by decide) rfl dX8_alike_76 ?_
    refine j_sub hk (lv' := [(0, fk_r g 0), (1, .int v1), (2, .int v2), (3, .int v3), (4, .int v4), (5, .int v5), (6, .int (v6 + (1 : Int32)))]) [1, 2, 3, 4, 5, 6, 0] rfl ?_
    refine j_goto (tgt := 55) (pc := 79) hk (by decide) dX8_alike_79 ?_
    exact j_sub hk [0, 1, 2, 3, 4, 5, 6] rfl (H55 v1 v2 v3 v4 v5 (v6 + (1 : Int32)) st13)
set_option maxHeartbeats 1000000 in
set_option maxRecDepth 20000 in
theorem L8_alike_55 {g : fkG} {k : fkK} (hk : fk_ok wM g k RX8 cX8_alike 8 (some (.int)) 4 123) (k27 : Int32 → Int32 → Int32 → Int32 → fkS → Option (Int32 × fkS)) (H27 : ∀ (v1 : Int32) (v2 : Int32) (v3 : Int32) (v4 : Int32) (st : fkS), fk_J wM g fk_eI k 27 [(0, fk_r g 0), (1, .int v1), (2, .int v2), (3, .int v3), (4, .int v4)] [] st (k27 v1 v2 v3 v4 st)) (fu : Nat) : ∀ (v1 : Int32) (v2 : Int32) (v3 : Int32) (v4 : Int32) (v5 : Int32) (v6 : Int32) (st : fkS), fk_J wM g fk_eI k 55 [(0, fk_r g 0), (1, .int v1), (2, .int v2), (3, .int v3), (4, .int v4), (5, .int v5), (6, .int v6)] [] st (fk_lp6 (B8_alike_55 k27) fu v1 v2 v3 v4 v5 v6 st) := by
  induction fu with
  | zero =>
    intro v1 v2 v3 v4 v5 v6 st
    exact j_none hk
  | succ fu ih =>
    exact T8_alike_55 hk k27 H27 _ ih
def B8_alike_27 (k27 : Int32 → Int32 → Int32 → Int32 → fkS → Option (Int32 × fkS)) (v1 : Int32) (v2 : Int32) (v3 : Int32) (v4 : Int32) (st : fkS) : Option (Int32 × fkS) :=
 if (100 : Int32) ≤ v4 then
 (some (v3, st))
 else
 (fk_bind (F8_lays (2 : Int32) v4 st) <| fun _ st7 =>
 fk_bind (F8_tells v1 st7) <| fun _ st8 =>
 fk_let (gI st8 24 0) <| fun x9 =>
 fk_lp6 (B8_alike_55 k27) fk_fuel v1 v2 v3 v4 x9 (0 : Int32) st8)
set_option maxHeartbeats 1000000 in
set_option maxRecDepth 20000 in
theorem T8_alike_27 {g : fkG} {k : fkK} (hk : fk_ok wM g k RX8 cX8_alike 8 (some (.int)) 4 123) (k27 : Int32 → Int32 → Int32 → Int32 → fkS → Option (Int32 × fkS)) (H27 : ∀ (v1 : Int32) (v2 : Int32) (v3 : Int32) (v4 : Int32) (st : fkS), fk_J wM g fk_eI k 27 [(0, fk_r g 0), (1, .int v1), (2, .int v2), (3, .int v3), (4, .int v4)] [] st (k27 v1 v2 v3 v4 st)) : ∀ (v1 : Int32) (v2 : Int32) (v3 : Int32) (v4 : Int32) (st : fkS), fk_J wM g fk_eI k 27 [(0, fk_r g 0), (1, .int v1), (2, .int v2), (3, .int v3), (4, .int v4)] [] st (B8_alike_27 k27 v1 v2 v3 v4 st) := by
  intro v1 v2 v3 v4 st
  unfold B8_alike_27
  refine j_iload (pc := 27) hk 4 rfl dX8_alike_27 ?_
  refine j_bipush (pc := 29) hk dX8_alike_29 (v := 100) (by decide) ?_
  refine j_icmp_ge (tgt := 162) (pc := 31) hk (by decide) dX8_alike_31 (fun _ => ?_) (fun _ => ?_)
  · refine j_iload_n (pc := 162) hk 3 rfl dX8_alike_162 ?_
    exact j_iret (pc := 163) hk dX8_alike_163
  · refine j_aload_n (pc := 34) hk 0 rfl ⟨_, rfl⟩ dX8_alike_34 ?_
    refine j_iconst (pc := 35) hk dX8_alike_35 (v := 2) (by decide) ?_
    refine j_iload (pc := 36) hk 4 rfl dX8_alike_36 ?_
    refine j_callVv (pc := 38) hk [.int (2 : Int32), .int v4] [] rfl (fun l o hq9 => C8_lays (2 : Int32) v4 st l o hq9) (rcv_8 (rfl)) yv_X8_lays ml_8_230 rfl (Nat.le_of_ble_eq_true rfl) (Nat.le_of_ble_eq_true rfl) (Nat.le_of_ble_eq_true rfl) dX8_alike_38 (fun _ st7 => ?_)
    refine j_aload_n (pc := 41) hk 0 rfl ⟨_, rfl⟩ dX8_alike_41 ?_
    refine j_iload_n (pc := 42) hk 1 rfl dX8_alike_42 ?_
    refine j_callVv (pc := 43) hk [.int v1] [] rfl (fun l o hq9 => C8_tells v1 st7 l o hq9) (rcv_8 (rfl)) yv_X8_tells ml_8_115 rfl (Nat.le_of_ble_eq_true rfl) (Nat.le_of_ble_eq_true rfl) (Nat.le_of_ble_eq_true rfl) dX8_alike_43 (fun _ st8 => ?_)
    refine j_aload_n (pc := 46) hk 0 rfl ⟨_, rfl⟩ dX8_alike_46 ?_
    refine f_8_119 (pc := 47) hk (rfl) dX8_alike_47 (fun x9 => ?_)
    refine j_istore (lv' := ((5, .int x9) :: [(0, fk_r g 0), (1, .int v1), (2, .int v2), (3, .int v3), (4, .int v4)])) (pc := 50) hk (by decide) rfl dX8_alike_50 ?_
    refine j_sub hk (lv' := [(0, fk_r g 0), (1, .int v1), (2, .int v2), (3, .int v3), (4, .int v4), (5, .int x9)]) [1, 2, 3, 4, 5, 0] rfl ?_
    refine j_iconst (pc := 52) hk dX8_alike_52 (v := 0) (by decide) ?_
    refine j_istore (lv' := ((6, .int (0 : Int32)) :: [(0, fk_r g 0), (1, .int v1), (2, .int v2), (3, .int v3), (4, .int v4), (5, .int x9)])) (pc := 53) hk (by decide) rfl dX8_alike_53 ?_
    refine j_sub hk (lv' := [(0, fk_r g 0), (1, .int v1), (2, .int v2), (3, .int v3), (4, .int v4), (5, .int x9), (6, .int (0 : Int32))]) [1, 2, 3, 4, 5, 6, 0] rfl ?_
    exact j_sub hk [0, 1, 2, 3, 4, 5, 6] rfl (L8_alike_55 hk k27 H27 fk_fuel v1 v2 v3 v4 x9 (0 : Int32) st8)
set_option maxHeartbeats 1000000 in
set_option maxRecDepth 20000 in
theorem L8_alike_27 {g : fkG} {k : fkK} (hk : fk_ok wM g k RX8 cX8_alike 8 (some (.int)) 4 123) (fu : Nat) : ∀ (v1 : Int32) (v2 : Int32) (v3 : Int32) (v4 : Int32) (st : fkS), fk_J wM g fk_eI k 27 [(0, fk_r g 0), (1, .int v1), (2, .int v2), (3, .int v3), (4, .int v4)] [] st (fk_lp4 (B8_alike_27) fu v1 v2 v3 v4 st) := by
  induction fu with
  | zero =>
    intro v1 v2 v3 v4 st
    exact j_none hk
  | succ fu ih =>
    exact T8_alike_27 hk _ ih
def F8_alike (p1 : Int32) (p2 : Int32) (st : fkS) : Option (Int32 × fkS) :=
 fk_bind (F8_isBird p1 st) <| fun x1 st2 =>
 if x1 = 0 then
 (B8_alike_16 st2)
 else
 (fk_bind (F8_isBird p2 st2) <| fun x3 st4 =>
 if x3 = 0 then
 (B8_alike_16 st4)
 else
 (fk_lp4 (B8_alike_27) fk_fuel p1 p2 (0 : Int32) (0 : Int32) st4))
set_option maxHeartbeats 1000000 in
set_option maxRecDepth 20000 in
theorem C8_alike (p1 : Int32) (p2 : Int32) (st : fkS) {g : fkG} (l : Launch) (o : Int32 × fkS) (hF : F8_alike p1 p2 st = some o) : fk_C wM yX8_alike cX8_alike 8 (some (.int)) 4 123 l g [fk_r g 0, .int p1, .int p2] st (fk_eI o.1) o.2 := by
  refine fk_begin rfl (Nat.le_of_ble_eq_true rfl) (fun k hk => ?_) o hF
  have hk : fk_ok wM g k RX8 cX8_alike 8 (some (.int)) 4 123 := hk
  show fk_J wM g fk_eI k 0 [(0, fk_r g 0), (1, .int p1), (2, .int p2)] [] st (F8_alike p1 p2 st)
  unfold F8_alike
  refine j_aload_n (pc := 0) hk 0 rfl ⟨_, rfl⟩ dX8_alike_0 ?_
  refine j_iload_n (pc := 1) hk 1 rfl dX8_alike_1 ?_
  refine j_callVi (pc := 2) hk [.int p1] [] rfl (fun l o hq9 => C8_isBird p1 st l o hq9) (rcv_8 (rfl)) yv_X8_isBird ml_8_99 rfl (Nat.le_of_ble_eq_true rfl) (Nat.le_of_ble_eq_true rfl) (Nat.le_of_ble_eq_true rfl) dX8_alike_2 (fun x1 st2 => ?_)
  refine j_if_eq (tgt := 16) (pc := 5) hk (by decide) dX8_alike_5 (fun _ => ?_) (fun _ => ?_)
  · exact j_sub hk [0] rfl (T8_alike_16 hk st2)
  · refine j_aload_n (pc := 8) hk 0 rfl ⟨_, rfl⟩ dX8_alike_8 ?_
    refine j_iload_n (pc := 9) hk 2 rfl dX8_alike_9 ?_
    refine j_callVi (pc := 10) hk [.int p2] [] rfl (fun l o hq9 => C8_isBird p2 st2 l o hq9) (rcv_8 (rfl)) yv_X8_isBird ml_8_99 rfl (Nat.le_of_ble_eq_true rfl) (Nat.le_of_ble_eq_true rfl) (Nat.le_of_ble_eq_true rfl) dX8_alike_10 (fun x3 st4 => ?_)
    refine j_if_ne (tgt := 22) (pc := 13) hk (by decide) dX8_alike_13 (fun _ => ?_) (fun _ => ?_)
    · exact j_sub hk [0] rfl (T8_alike_16 hk st4)
    · refine j_iconst (pc := 22) hk dX8_alike_22 (v := 0) (by decide) ?_
      refine j_istore_n (lv' := ((3, .int (0 : Int32)) :: [(0, fk_r g 0), (1, .int p1), (2, .int p2)])) (pc := 23) hk rfl (by decide) rfl dX8_alike_23 ?_
      refine j_sub hk (lv' := [(0, fk_r g 0), (1, .int p1), (2, .int p2), (3, .int (0 : Int32))]) [1, 2, 3, 0] rfl ?_
      refine j_iconst (pc := 24) hk dX8_alike_24 (v := 0) (by decide) ?_
      refine j_istore (lv' := ((4, .int (0 : Int32)) :: [(0, fk_r g 0), (1, .int p1), (2, .int p2), (3, .int (0 : Int32))])) (pc := 25) hk (by decide) rfl dX8_alike_25 ?_
      refine j_sub hk (lv' := [(0, fk_r g 0), (1, .int p1), (2, .int p2), (3, .int (0 : Int32)), (4, .int (0 : Int32))]) [1, 2, 3, 4, 0] rfl ?_
      exact j_sub hk [0, 1, 2, 3, 4] rfl (L8_alike_27 hk fk_fuel p1 p2 (0 : Int32) (0 : Int32) st4)
theorem dX8_judge_0 : decode cX8_judge 0 = .ok (.aload_n 0, 1) := by decide +kernel
theorem dX8_judge_1 : decode cX8_judge 1 = .ok (.iload_n 1, 1) := by decide +kernel
theorem dX8_judge_2 : decode cX8_judge 2 = .ok (.iload_n 2, 1) := by decide +kernel
theorem dX8_judge_3 : decode cX8_judge 3 = .ok (.invokevirtual 236, 3) := by decide +kernel
theorem dX8_judge_6 : decode cX8_judge 6 = .ok (.istore 4, 2) := by decide +kernel
theorem dX8_judge_8 : decode cX8_judge 8 = .ok (.iload 4, 2) := by decide +kernel
theorem dX8_judge_10 : decode cX8_judge 10 = .ok (.ifCond .ge 10, 3) := by decide +kernel
theorem dX8_judge_13 : decode cX8_judge 13 = .ok (.aload_n 0, 1) := by decide +kernel
theorem dX8_judge_14 : decode cX8_judge 14 = .ok (.iload 4, 2) := by decide +kernel
theorem dX8_judge_16 : decode cX8_judge 16 = .ok (.invokevirtual 105, 3) := by decide +kernel
theorem dX8_judge_19 : decode cX8_judge 19 = .ok (.ireturn, 1) := by decide +kernel
theorem dX8_judge_20 : decode cX8_judge 20 = .ok (.iload_n 3, 1) := by decide +kernel
theorem dX8_judge_21 : decode cX8_judge 21 = .ok (.ifCond .ge 10, 3) := by decide +kernel
theorem dX8_judge_24 : decode cX8_judge 24 = .ok (.aload_n 0, 1) := by decide +kernel
theorem dX8_judge_25 : decode cX8_judge 25 = .ok (.bipush (-4), 2) := by decide +kernel
theorem dX8_judge_27 : decode cX8_judge 27 = .ok (.invokevirtual 105, 3) := by decide +kernel
theorem dX8_judge_30 : decode cX8_judge 30 = .ok (.ireturn, 1) := by decide +kernel
theorem dX8_judge_31 : decode cX8_judge 31 = .ok (.ldc2_w 275, 3) := by decide +kernel
theorem dX8_judge_34 : decode cX8_judge 34 = .ok (.iload_n 3, 1) := by decide +kernel
theorem dX8_judge_35 : decode cX8_judge 35 = .ok (.i2l, 1) := by decide +kernel
theorem dX8_judge_36 : decode cX8_judge 36 = .ok (.lmul, 1) := by decide +kernel
theorem dX8_judge_37 : decode cX8_judge 37 = .ok (.aload_n 0, 1) := by decide +kernel
theorem dX8_judge_38 : decode cX8_judge 38 = .ok (.getfield 28, 3) := by decide +kernel
theorem dX8_judge_41 : decode cX8_judge 41 = .ok (.iload_n 2, 1) := by decide +kernel
theorem dX8_judge_42 : decode cX8_judge 42 = .ok (.iaload, 1) := by decide +kernel
theorem dX8_judge_43 : decode cX8_judge 43 = .ok (.i2l, 1) := by decide +kernel
theorem dX8_judge_44 : decode cX8_judge 44 = .ok (.lcmp, 1) := by decide +kernel
theorem dX8_judge_45 : decode cX8_judge 45 = .ok (.ifCond .le 10, 3) := by decide +kernel
theorem dX8_judge_48 : decode cX8_judge 48 = .ok (.aload_n 0, 1) := by decide +kernel
theorem dX8_judge_49 : decode cX8_judge 49 = .ok (.bipush (-5), 2) := by decide +kernel
theorem dX8_judge_51 : decode cX8_judge 51 = .ok (.invokevirtual 105, 3) := by decide +kernel
theorem dX8_judge_54 : decode cX8_judge 54 = .ok (.ireturn, 1) := by decide +kernel
theorem dX8_judge_55 : decode cX8_judge 55 = .ok (.iload_n 3, 1) := by decide +kernel
theorem dX8_judge_56 : decode cX8_judge 56 = .ok (.bipush 40, 2) := by decide +kernel
theorem dX8_judge_58 : decode cX8_judge 58 = .ok (.if_icmp .gt 12, 3) := by decide +kernel
theorem dX8_judge_61 : decode cX8_judge 61 = .ok (.aload_n 0, 1) := by decide +kernel
theorem dX8_judge_62 : decode cX8_judge 62 = .ok (.iload_n 1, 1) := by decide +kernel
theorem dX8_judge_63 : decode cX8_judge 63 = .ok (.iconst 0, 1) := by decide +kernel
theorem dX8_judge_64 : decode cX8_judge 64 = .ok (.invokevirtual 221, 3) := by decide +kernel
theorem dX8_judge_67 : decode cX8_judge 67 = .ok (.ifCond .ne 10, 3) := by decide +kernel
theorem dX8_judge_70 : decode cX8_judge 70 = .ok (.aload_n 0, 1) := by decide +kernel
theorem dX8_judge_71 : decode cX8_judge 71 = .ok (.bipush (-6), 2) := by decide +kernel
theorem dX8_judge_73 : decode cX8_judge 73 = .ok (.invokevirtual 105, 3) := by decide +kernel
theorem dX8_judge_76 : decode cX8_judge 76 = .ok (.ireturn, 1) := by decide +kernel
theorem dX8_judge_77 : decode cX8_judge 77 = .ok (.aload_n 0, 1) := by decide +kernel
theorem dX8_judge_78 : decode cX8_judge 78 = .ok (.aload_n 0, 1) := by decide +kernel
theorem dX8_judge_79 : decode cX8_judge 79 = .ok (.getfield 19, 3) := by decide +kernel
theorem dX8_judge_82 : decode cX8_judge 82 = .ok (.iconst 1, 1) := by decide +kernel
theorem dX8_judge_83 : decode cX8_judge 83 = .ok (.iaload, 1) := by decide +kernel
theorem dX8_judge_84 : decode cX8_judge 84 = .ok (.putfield 209, 3) := by decide +kernel
theorem dX8_judge_87 : decode cX8_judge 87 = .ok (.iconst 0, 1) := by decide +kernel
theorem dX8_judge_88 : decode cX8_judge 88 = .ok (.istore 5, 2) := by decide +kernel
theorem dX8_judge_90 : decode cX8_judge 90 = .ok (.iload 5, 2) := by decide +kernel
theorem dX8_judge_92 : decode cX8_judge 92 = .ok (.iload_n 3, 1) := by decide +kernel
theorem dX8_judge_93 : decode cX8_judge 93 = .ok (.if_icmp .ge 63, 3) := by decide +kernel
theorem dX8_judge_96 : decode cX8_judge 96 = .ok (.aload_n 0, 1) := by decide +kernel
theorem dX8_judge_97 : decode cX8_judge 97 = .ok (.iload_n 2, 1) := by decide +kernel
theorem dX8_judge_98 : decode cX8_judge 98 = .ok (.iconst 2, 1) := by decide +kernel
theorem dX8_judge_99 : decode cX8_judge 99 = .ok (.iload 5, 2) := by decide +kernel
theorem dX8_judge_101 : decode cX8_judge 101 = .ok (.imul, 1) := by decide +kernel
theorem dX8_judge_102 : decode cX8_judge 102 = .ok (.invokevirtual 188, 3) := by decide +kernel
theorem dX8_judge_105 : decode cX8_judge 105 = .ok (.istore 6, 2) := by decide +kernel
theorem dX8_judge_107 : decode cX8_judge 107 = .ok (.aload_n 0, 1) := by decide +kernel
theorem dX8_judge_108 : decode cX8_judge 108 = .ok (.iload 6, 2) := by decide +kernel
theorem dX8_judge_110 : decode cX8_judge 110 = .ok (.invokevirtual 99, 3) := by decide +kernel
theorem dX8_judge_113 : decode cX8_judge 113 = .ok (.ifCond .ne 6, 3) := by decide +kernel
theorem dX8_judge_116 : decode cX8_judge 116 = .ok (.iload 5, 2) := by decide +kernel
theorem dX8_judge_118 : decode cX8_judge 118 = .ok (.ireturn, 1) := by decide +kernel
theorem dX8_judge_119 : decode cX8_judge 119 = .ok (.aload_n 0, 1) := by decide +kernel
theorem dX8_judge_120 : decode cX8_judge 120 = .ok (.iload 6, 2) := by decide +kernel
theorem dX8_judge_122 : decode cX8_judge 122 = .ok (.aload_n 0, 1) := by decide +kernel
theorem dX8_judge_123 : decode cX8_judge 123 = .ok (.getfield 209, 3) := by decide +kernel
theorem dX8_judge_126 : decode cX8_judge 126 = .ok (.invokevirtual 224, 3) := by decide +kernel
theorem dX8_judge_129 : decode cX8_judge 129 = .ok (.aload_n 0, 1) := by decide +kernel
theorem dX8_judge_130 : decode cX8_judge 130 = .ok (.getfield 209, 3) := by decide +kernel
theorem dX8_judge_133 : decode cX8_judge 133 = .ok (.aload_n 0, 1) := by decide +kernel
theorem dX8_judge_134 : decode cX8_judge 134 = .ok (.iload_n 2, 1) := by decide +kernel
theorem dX8_judge_135 : decode cX8_judge 135 = .ok (.iconst 2, 1) := by decide +kernel
theorem dX8_judge_136 : decode cX8_judge 136 = .ok (.iload 5, 2) := by decide +kernel
theorem dX8_judge_138 : decode cX8_judge 138 = .ok (.imul, 1) := by decide +kernel
theorem dX8_judge_139 : decode cX8_judge 139 = .ok (.iconst 1, 1) := by decide +kernel
theorem dX8_judge_140 : decode cX8_judge 140 = .ok (.iadd, 1) := by decide +kernel
theorem dX8_judge_141 : decode cX8_judge 141 = .ok (.invokevirtual 188, 3) := by decide +kernel
theorem dX8_judge_144 : decode cX8_judge 144 = .ok (.if_icmp .eq 6, 3) := by decide +kernel
theorem dX8_judge_147 : decode cX8_judge 147 = .ok (.iload 5, 2) := by decide +kernel
theorem dX8_judge_149 : decode cX8_judge 149 = .ok (.ireturn, 1) := by decide +kernel
theorem dX8_judge_150 : decode cX8_judge 150 = .ok (.iinc 5 1, 3) := by decide +kernel
theorem dX8_judge_153 : decode cX8_judge 153 = .ok (.goto (-63), 3) := by decide +kernel
theorem dX8_judge_156 : decode cX8_judge 156 = .ok (.iconst (-1), 1) := by decide +kernel
theorem dX8_judge_157 : decode cX8_judge 157 = .ok (.ireturn, 1) := by decide +kernel
def B8_judge_70 (st : fkS) : Option (Int32 × fkS) :=
 fk_bind (F8_no10 (-6 : Int32) st) <| fun x14 st15 =>
 some (x14, st15)
set_option maxHeartbeats 1000000 in
set_option maxRecDepth 20000 in
theorem T8_judge_70 {g : fkG} {k : fkK} (hk : fk_ok wM g k RX8 cX8_judge 7 (some (.int)) 5 146) : ∀ (st : fkS), fk_J wM g fk_eI k 70 [(0, fk_r g 0)] [] st (B8_judge_70 st) := by
  intro st
  unfold B8_judge_70
  refine j_aload_n (pc := 70) hk 0 rfl ⟨_, rfl⟩ dX8_judge_70 ?_
  refine j_bipush (pc := 71) hk dX8_judge_71 (v := -6) (by decide) ?_
  refine j_callVi (pc := 73) hk [.int (-6 : Int32)] [] rfl (fun l o hq9 => C8_no10 (-6 : Int32) st l o hq9) (rcv_8 (rfl)) yv_X8_no10 ml_8_105 rfl (Nat.le_of_ble_eq_true rfl) (Nat.le_of_ble_eq_true rfl) (Nat.le_of_ble_eq_true rfl) dX8_judge_73 (fun x14 st15 => ?_)
  exact j_iret (pc := 76) hk dX8_judge_76
def B8_judge_90 (k90 : Int32 → Int32 → Int32 → fkS → Option (Int32 × fkS)) (v2 : Int32) (v3 : Int32) (v5 : Int32) (st : fkS) : Option (Int32 × fkS) :=
 if v3 ≤ v5 then
 (some ((-1 : Int32), st))
 else
 (fk_bind (F8_toldAt v2 ((2 : Int32) * v5) st) <| fun x16 st17 =>
 fk_bind (F8_isBird x16 st17) <| fun x18 st19 =>
 if x18 = 0 then
 (some (v5, st19))
 else
 (fk_let (gI st19 26 0) <| fun x20 =>
 fk_bind (F8_goes x16 x20 st19) <| fun _ st21 =>
 fk_let (gI st21 26 0) <| fun x22 =>
 fk_bind (F8_toldAt v2 (((2 : Int32) * v5) + (1 : Int32)) st21) <| fun x23 st24 =>
 if x22 = x23 then
 (k90 v2 v3 (v5 + (1 : Int32)) st24)
 else
 (some (v5, st24))))
set_option maxHeartbeats 1000000 in
set_option maxRecDepth 20000 in
theorem T8_judge_90 {g : fkG} {k : fkK} (hk : fk_ok wM g k RX8 cX8_judge 7 (some (.int)) 5 146) (k90 : Int32 → Int32 → Int32 → fkS → Option (Int32 × fkS)) (H90 : ∀ (v2 : Int32) (v3 : Int32) (v5 : Int32) (st : fkS), fk_J wM g fk_eI k 90 [(0, fk_r g 0), (2, .int v2), (3, .int v3), (5, .int v5)] [] st (k90 v2 v3 v5 st)) : ∀ (v2 : Int32) (v3 : Int32) (v5 : Int32) (st : fkS), fk_J wM g fk_eI k 90 [(0, fk_r g 0), (2, .int v2), (3, .int v3), (5, .int v5)] [] st (B8_judge_90 k90 v2 v3 v5 st) := by
  intro v2 v3 v5 st
  unfold B8_judge_90
  refine j_iload (pc := 90) hk 3 rfl dX8_judge_90 ?_
  refine j_iload_n (pc := 92) hk 2 rfl dX8_judge_92 ?_
  refine j_icmp_ge (tgt := 156) (pc := 93) hk (by decide) dX8_judge_93 (fun _ => ?_) (fun _ => ?_)
  · refine j_iconst (pc := 156) hk dX8_judge_156 (v := -1) (by decide) ?_
    exact j_iret (pc := 157) hk dX8_judge_157
  · refine j_aload_n (pc := 96) hk 0 rfl ⟨_, rfl⟩ dX8_judge_96 ?_
    refine j_iload_n (pc := 97) hk 1 rfl dX8_judge_97 ?_
    refine j_iconst (pc := 98) hk dX8_judge_98 (v := 2) (by decide) ?_
    refine j_iload (pc := 99) hk 3 rfl dX8_judge_99 ?_
    refine j_imul (pc := 101) hk dX8_judge_101 ?_
    refine j_callVi (pc := 102) hk [.int v2, .int ((2 : Int32) * v5)] [] rfl (fun l o hq9 => C8_toldAt v2 ((2 : Int32) * v5) st l o hq9) (rcv_8 (rfl)) yv_X8_toldAt ml_8_188 rfl (Nat.le_of_ble_eq_true rfl) (Nat.le_of_ble_eq_true rfl) (Nat.le_of_ble_eq_true rfl) dX8_judge_102 (fun x16 st17 => ?_)
    refine j_istore (lv' := ((6, .int x16) :: [(0, fk_r g 0), (2, .int v2), (3, .int v3), (5, .int v5)])) (pc := 105) hk (by decide) rfl dX8_judge_105 ?_
    refine j_sub hk (lv' := [(0, fk_r g 0), (2, .int v2), (3, .int v3), (5, .int v5), (6, .int x16)]) [1, 2, 3, 4, 0] rfl ?_
    refine j_aload_n (pc := 107) hk 0 rfl ⟨_, rfl⟩ dX8_judge_107 ?_
    refine j_iload (pc := 108) hk 4 rfl dX8_judge_108 ?_
    refine j_callVi (pc := 110) hk [.int x16] [] rfl (fun l o hq9 => C8_isBird x16 st17 l o hq9) (rcv_8 (rfl)) yv_X8_isBird ml_8_99 rfl (Nat.le_of_ble_eq_true rfl) (Nat.le_of_ble_eq_true rfl) (Nat.le_of_ble_eq_true rfl) dX8_judge_110 (fun x18 st19 => ?_)
    refine j_if_ne (tgt := 119) (pc := 113) hk (by decide) dX8_judge_113 (fun _ => ?_) (fun _ => ?_)
    · refine j_iload (pc := 116) hk 3 rfl dX8_judge_116 ?_
      exact j_iret (pc := 118) hk dX8_judge_118
    · refine j_aload_n (pc := 119) hk 0 rfl ⟨_, rfl⟩ dX8_judge_119 ?_
      refine j_iload (pc := 120) hk 4 rfl dX8_judge_120 ?_
      refine j_aload_n (pc := 122) hk 0 rfl ⟨_, rfl⟩ dX8_judge_122 ?_
      refine f_8_209 (pc := 123) hk (rfl) dX8_judge_123 (fun x20 => ?_)
      refine j_callVv (pc := 126) hk [.int x16, .int x20] [] rfl (fun l o hq9 => C8_goes x16 x20 st19 l o hq9) (rcv_8 (rfl)) yv_X8_goes ml_8_224 rfl (Nat.le_of_ble_eq_true rfl) (Nat.le_of_ble_eq_true rfl) (Nat.le_of_ble_eq_true rfl) dX8_judge_126 (fun _ st21 => ?_)
      refine j_aload_n (pc := 129) hk 0 rfl ⟨_, rfl⟩ dX8_judge_129 ?_
      refine f_8_209 (pc := 130) hk (rfl) dX8_judge_130 (fun x22 => ?_)
      refine j_aload_n (pc := 133) hk 0 rfl ⟨_, rfl⟩ dX8_judge_133 ?_
      refine j_iload_n (pc := 134) hk 1 rfl dX8_judge_134 ?_
      refine j_iconst (pc := 135) hk dX8_judge_135 (v := 2) (by decide) ?_
      refine j_iload (pc := 136) hk 3 rfl dX8_judge_136 ?_
      refine j_imul (pc := 138) hk dX8_judge_138 ?_
      refine j_iconst (pc := 139) hk dX8_judge_139 (v := 1) (by decide) ?_
      refine j_iadd (pc := 140) hk dX8_judge_140 ?_
      refine j_callVi (pc := 141) hk [.int v2, .int (((2 : Int32) * v5) + (1 : Int32))] [.int x22] rfl (fun l o hq9 => C8_toldAt v2 (((2 : Int32) * v5) + (1 : Int32)) st21 l o hq9) (rcv_8 (rfl)) yv_X8_toldAt ml_8_188 rfl (Nat.le_of_ble_eq_true rfl) (Nat.le_of_ble_eq_true rfl) (Nat.le_of_ble_eq_true rfl) dX8_judge_141 (fun x23 st24 => ?_)
      refine j_icmp_eq (tgt := 150) (pc := 144) hk (by decide) dX8_judge_144 (fun _ => ?_) (fun _ => ?_)
      · refine j_iinc (dd := (1 : Int32)) (lv' := ((5, .int (v5 + (1 : Int32))) :: [(0, fk_r g 0), (2, .int v2), (3, .int v3), (6, .int x16)])) (pc := 150) hk 3 rfl (by decide) (by decide) rfl dX8_judge_150 ?_
        refine j_sub hk (lv' := [(0, fk_r g 0), (2, .int v2), (3, .int v3), (5, .int (v5 + (1 : Int32))), (6, .int x16)]) [1, 2, 3, 0, 4] rfl ?_
        refine j_goto (tgt := 90) (pc := 153) hk (by decide) dX8_judge_153 ?_
        exact j_sub hk [0, 1, 2, 3] rfl (H90 v2 v3 (v5 + (1 : Int32)) st24)
      · refine j_iload (pc := 147) hk 3 rfl dX8_judge_147 ?_
        exact j_iret (pc := 149) hk dX8_judge_149
set_option maxHeartbeats 1000000 in
set_option maxRecDepth 20000 in
theorem L8_judge_90 {g : fkG} {k : fkK} (hk : fk_ok wM g k RX8 cX8_judge 7 (some (.int)) 5 146) (fu : Nat) : ∀ (v2 : Int32) (v3 : Int32) (v5 : Int32) (st : fkS), fk_J wM g fk_eI k 90 [(0, fk_r g 0), (2, .int v2), (3, .int v3), (5, .int v5)] [] st (fk_lp3 (B8_judge_90) fu v2 v3 v5 st) := by
  induction fu with
  | zero =>
    intro v2 v3 v5 st
    exact j_none hk
  | succ fu ih =>
    exact T8_judge_90 hk _ ih
def F8_judge (p1 : Int32) (p2 : Int32) (p3 : Int32) (st : fkS) : Option (Int32 × fkS) :=
 fk_bind (F8_noRows p1 p2 st) <| fun x1 st2 =>
 if 0 ≤ x1 then
 (if 0 ≤ p3 then
 (fk_chk (fk_in p2 8) <| fk_let (gA st2 7 p2.toNatClampNeg) <| fun x3 =>
 if (lg_cmp ((2 : Int64) * p3.toInt64) x3.toInt64) ≤ 0 then
 (if (40 : Int32) < p3 then
 (B8_judge_70 st2)
 else
 (fk_bind (F8_isPie p1 (0 : Int32) st2) <| fun x4 st5 =>
 if x4 = 0 then
 (B8_judge_70 st5)
 else
 (fk_chk (fk_in (1 : Int32) 3) <| fk_let (gA st5 4 (1 : Int32).toNatClampNeg) <| fun x6 =>
 fk_let (sI st5 26 0 x6) <| fun st7 =>
 fk_lp3 (B8_judge_90) fk_fuel p2 p3 (0 : Int32) st7)))
 else
 (fk_bind (F8_no10 (-5 : Int32) st2) <| fun x8 st9 =>
 some (x8, st9)))
 else
 (fk_bind (F8_no10 (-4 : Int32) st2) <| fun x10 st11 =>
 some (x10, st11)))
 else
 (fk_bind (F8_no10 x1 st2) <| fun x12 st13 =>
 some (x12, st13))
set_option maxHeartbeats 1000000 in
set_option maxRecDepth 20000 in
theorem C8_judge (p1 : Int32) (p2 : Int32) (p3 : Int32) (st : fkS) {g : fkG} (l : Launch) (o : Int32 × fkS) (hF : F8_judge p1 p2 p3 st = some o) : fk_C wM yX8_judge cX8_judge 7 (some (.int)) 5 146 l g [fk_r g 0, .int p1, .int p2, .int p3] st (fk_eI o.1) o.2 := by
  refine fk_begin rfl (Nat.le_of_ble_eq_true rfl) (fun k hk => ?_) o hF
  have hk : fk_ok wM g k RX8 cX8_judge 7 (some (.int)) 5 146 := hk
  show fk_J wM g fk_eI k 0 [(0, fk_r g 0), (1, .int p1), (2, .int p2), (3, .int p3)] [] st (F8_judge p1 p2 p3 st)
  unfold F8_judge
  refine j_aload_n (pc := 0) hk 0 rfl ⟨_, rfl⟩ dX8_judge_0 ?_
  refine j_iload_n (pc := 1) hk 1 rfl dX8_judge_1 ?_
  refine j_iload_n (pc := 2) hk 2 rfl dX8_judge_2 ?_
  refine j_callVi (pc := 3) hk [.int p1, .int p2] [] rfl (fun l o hq9 => C8_noRows p1 p2 st l o hq9) (rcv_8 (rfl)) yv_X8_noRows ml_8_236 rfl (Nat.le_of_ble_eq_true rfl) (Nat.le_of_ble_eq_true rfl) (Nat.le_of_ble_eq_true rfl) dX8_judge_3 (fun x1 st2 => ?_)
  refine j_istore (lv' := ((4, .int x1) :: [(0, fk_r g 0), (1, .int p1), (2, .int p2), (3, .int p3)])) (pc := 6) hk (by decide) rfl dX8_judge_6 ?_
  refine j_sub hk (lv' := [(0, fk_r g 0), (1, .int p1), (2, .int p2), (3, .int p3), (4, .int x1)]) [1, 2, 3, 4, 0] rfl ?_
  refine j_iload (pc := 8) hk 4 rfl dX8_judge_8 ?_
  refine j_if_ge (tgt := 20) (pc := 10) hk (by decide) dX8_judge_10 (fun _ => ?_) (fun _ => ?_)
  · refine j_iload_n (pc := 20) hk 3 rfl dX8_judge_20 ?_
    refine j_if_ge (tgt := 31) (pc := 21) hk (by decide) dX8_judge_21 (fun _ => ?_) (fun _ => ?_)
    · refine j_ldc2 (pc := 31) hk dX8_judge_31 wk_8_275 ?_
      refine j_iload_n (pc := 34) hk 3 rfl dX8_judge_34 ?_
      refine j_i2l (pc := 35) hk dX8_judge_35 ?_
      refine j_lmul (pc := 36) hk dX8_judge_36 ?_
      refine j_aload_n (pc := 37) hk 0 rfl ⟨_, rfl⟩ dX8_judge_37 ?_
      refine f_8_28 (pc := 38) hk (rfl) dX8_judge_38 ?_
      refine j_iload_n (pc := 41) hk 2 rfl dX8_judge_41 ?_
      refine a_iload (pc := 42) hk (isI_8_10) dX8_judge_42 (fun x3 => ?_)
      refine j_i2l (pc := 43) hk dX8_judge_43 ?_
      refine j_lcmp (pc := 44) hk dX8_judge_44 ?_
      refine j_if_le (tgt := 55) (pc := 45) hk (by decide) dX8_judge_45 (fun _ => ?_) (fun _ => ?_)
      · refine j_iload_n (pc := 55) hk 3 rfl dX8_judge_55 ?_
        refine j_bipush (pc := 56) hk dX8_judge_56 (v := 40) (by decide) ?_
        refine j_icmp_gt (tgt := 70) (pc := 58) hk (by decide) dX8_judge_58 (fun _ => ?_) (fun _ => ?_)
        · exact j_sub hk [0] rfl (T8_judge_70 hk st2)
        · refine j_aload_n (pc := 61) hk 0 rfl ⟨_, rfl⟩ dX8_judge_61 ?_
          refine j_iload_n (pc := 62) hk 1 rfl dX8_judge_62 ?_
          refine j_iconst (pc := 63) hk dX8_judge_63 (v := 0) (by decide) ?_
          refine j_callVi (pc := 64) hk [.int p1, .int (0 : Int32)] [] rfl (fun l o hq9 => C8_isPie p1 (0 : Int32) st2 l o hq9) (rcv_8 (rfl)) yv_X8_isPie ml_8_221 rfl (Nat.le_of_ble_eq_true rfl) (Nat.le_of_ble_eq_true rfl) (Nat.le_of_ble_eq_true rfl) dX8_judge_64 (fun x4 st5 => ?_)
          refine j_if_ne (tgt := 77) (pc := 67) hk (by decide) dX8_judge_67 (fun _ => ?_) (fun _ => ?_)
          · exact j_sub hk [0] rfl (T8_judge_70 hk st5)
          · refine j_aload_n (pc := 77) hk 0 rfl ⟨_, rfl⟩ dX8_judge_77 ?_
            refine j_aload_n (pc := 78) hk 0 rfl ⟨_, rfl⟩ dX8_judge_78 ?_
            refine f_8_19 (pc := 79) hk (rfl) dX8_judge_79 ?_
            refine j_iconst (pc := 82) hk dX8_judge_82 (v := 1) (by decide) ?_
            refine a_iload (pc := 83) hk (isI_8_4) dX8_judge_83 (fun x6 => ?_)
            refine p_8_209 (pc := 84) hk (rfl) dX8_judge_84 (fun st7 => ?_)
            refine j_iconst (pc := 87) hk dX8_judge_87 (v := 0) (by decide) ?_
            refine j_istore (lv' := ((5, .int (0 : Int32)) :: [(0, fk_r g 0), (1, .int p1), (2, .int p2), (3, .int p3), (4, .int x1)])) (pc := 88) hk (by decide) rfl dX8_judge_88 ?_
            refine j_sub hk (lv' := [(0, fk_r g 0), (1, .int p1), (2, .int p2), (3, .int p3), (4, .int x1), (5, .int (0 : Int32))]) [1, 2, 3, 4, 5, 0] rfl ?_
            exact j_sub hk [0, 2, 3, 5] rfl (L8_judge_90 hk fk_fuel p2 p3 (0 : Int32) st7)
      · refine j_aload_n (pc := 48) hk 0 rfl ⟨_, rfl⟩ dX8_judge_48 ?_
        refine j_bipush (pc := 49) hk dX8_judge_49 (v := -5) (by decide) ?_
        refine j_callVi (pc := 51) hk [.int (-5 : Int32)] [] rfl (fun l o hq9 => C8_no10 (-5 : Int32) st2 l o hq9) (rcv_8 (rfl)) yv_X8_no10 ml_8_105 rfl (Nat.le_of_ble_eq_true rfl) (Nat.le_of_ble_eq_true rfl) (Nat.le_of_ble_eq_true rfl) dX8_judge_51 (fun x8 st9 => ?_)
        exact j_iret (pc := 54) hk dX8_judge_54
    · refine j_aload_n (pc := 24) hk 0 rfl ⟨_, rfl⟩ dX8_judge_24 ?_
      refine j_bipush (pc := 25) hk dX8_judge_25 (v := -4) (by decide) ?_
      refine j_callVi (pc := 27) hk [.int (-4 : Int32)] [] rfl (fun l o hq9 => C8_no10 (-4 : Int32) st2 l o hq9) (rcv_8 (rfl)) yv_X8_no10 ml_8_105 rfl (Nat.le_of_ble_eq_true rfl) (Nat.le_of_ble_eq_true rfl) (Nat.le_of_ble_eq_true rfl) dX8_judge_27 (fun x10 st11 => ?_)
      exact j_iret (pc := 30) hk dX8_judge_30
  · refine j_aload_n (pc := 13) hk 0 rfl ⟨_, rfl⟩ dX8_judge_13 ?_
    refine j_iload (pc := 14) hk 4 rfl dX8_judge_14 ?_
    refine j_callVi (pc := 16) hk [.int x1] [] rfl (fun l o hq9 => C8_no10 x1 st2 l o hq9) (rcv_8 (rfl)) yv_X8_no10 ml_8_105 rfl (Nat.le_of_ble_eq_true rfl) (Nat.le_of_ble_eq_true rfl) (Nat.le_of_ble_eq_true rfl) dX8_judge_16 (fun x12 st13 => ?_)
    exact j_iret (pc := 19) hk dX8_judge_19
theorem dX8_bakes_0 : decode cX8_bakes 0 = .ok (.aload_n 0, 1) := by decide +kernel
theorem dX8_bakes_1 : decode cX8_bakes 1 = .ok (.iload_n 1, 1) := by decide +kernel
theorem dX8_bakes_2 : decode cX8_bakes 2 = .ok (.aload_n 0, 1) := by decide +kernel
theorem dX8_bakes_3 : decode cX8_bakes 3 = .ok (.getfield 19, 3) := by decide +kernel
theorem dX8_bakes_6 : decode cX8_bakes 6 = .ok (.iconst 1, 1) := by decide +kernel
theorem dX8_bakes_7 : decode cX8_bakes 7 = .ok (.iaload, 1) := by decide +kernel
theorem dX8_bakes_8 : decode cX8_bakes 8 = .ok (.invokevirtual 224, 3) := by decide +kernel
theorem dX8_bakes_11 : decode cX8_bakes 11 = .ok (.aload_n 0, 1) := by decide +kernel
theorem dX8_bakes_12 : decode cX8_bakes 12 = .ok (.getfield 19, 3) := by decide +kernel
theorem dX8_bakes_15 : decode cX8_bakes 15 = .ok (.iconst 1, 1) := by decide +kernel
theorem dX8_bakes_16 : decode cX8_bakes 16 = .ok (.aload_n 0, 1) := by decide +kernel
theorem dX8_bakes_17 : decode cX8_bakes 17 = .ok (.getfield 209, 3) := by decide +kernel
theorem dX8_bakes_20 : decode cX8_bakes 20 = .ok (.iastore, 1) := by decide +kernel
theorem dX8_bakes_21 : decode cX8_bakes 21 = .ok (.aload_n 0, 1) := by decide +kernel
theorem dX8_bakes_22 : decode cX8_bakes 22 = .ok (.dup, 1) := by decide +kernel
theorem dX8_bakes_23 : decode cX8_bakes 23 = .ok (.getfield 277, 3) := by decide +kernel
theorem dX8_bakes_26 : decode cX8_bakes 26 = .ok (.iconst 1, 1) := by decide +kernel
theorem dX8_bakes_27 : decode cX8_bakes 27 = .ok (.iadd, 1) := by decide +kernel
theorem dX8_bakes_28 : decode cX8_bakes 28 = .ok (.putfield 277, 3) := by decide +kernel
theorem dX8_bakes_31 : decode cX8_bakes 31 = .ok (.aload_n 0, 1) := by decide +kernel
theorem dX8_bakes_32 : decode cX8_bakes 32 = .ok (.dup, 1) := by decide +kernel
theorem dX8_bakes_33 : decode cX8_bakes 33 = .ok (.getfield 280, 3) := by decide +kernel
theorem dX8_bakes_36 : decode cX8_bakes 36 = .ok (.aload_n 0, 1) := by decide +kernel
theorem dX8_bakes_37 : decode cX8_bakes 37 = .ok (.getfield 212, 3) := by decide +kernel
theorem dX8_bakes_40 : decode cX8_bakes 40 = .ok (.iadd, 1) := by decide +kernel
theorem dX8_bakes_41 : decode cX8_bakes 41 = .ok (.putfield 280, 3) := by decide +kernel
theorem dX8_bakes_44 : decode cX8_bakes 44 = .ok (.return_, 1) := by decide +kernel
def F8_bakes (p1 : Int32) (st : fkS) : Option (Unit × fkS) :=
 fk_chk (fk_in (1 : Int32) 3) <| fk_let (gA st 4 (1 : Int32).toNatClampNeg) <| fun x1 =>
 fk_bind (F8_goes p1 x1 st) <| fun _ st2 =>
 fk_let (gI st2 26 0) <| fun x3 =>
 fk_chk (fk_in (1 : Int32) 3) <| fk_let (sA st2 4 (1 : Int32).toNatClampNeg x3) <| fun st4 =>
 fk_let (gI st4 6 0) <| fun x5 =>
 fk_let (sI st4 6 0 (x5 + (1 : Int32))) <| fun st6 =>
 fk_let (gI st6 7 0) <| fun x7 =>
 fk_let (gI st6 27 0) <| fun x8 =>
 fk_let (sI st6 7 0 (x7 + x8)) <| fun st9 =>
 some ((), st9)
set_option maxHeartbeats 1000000 in
set_option maxRecDepth 20000 in
theorem C8_bakes (p1 : Int32) (st : fkS) {g : fkG} (l : Launch) (o : Unit × fkS) (hF : F8_bakes p1 st = some o) : fk_C wM yX8_bakes cX8_bakes 2 none 5 146 l g [fk_r g 0, .int p1] st (fk_eU o.1) o.2 := by
  refine fk_begin rfl (Nat.le_of_ble_eq_true rfl) (fun k hk => ?_) o hF
  have hk : fk_ok wM g k RX8 cX8_bakes 2 none 5 146 := hk
  show fk_J wM g fk_eU k 0 [(0, fk_r g 0), (1, .int p1)] [] st (F8_bakes p1 st)
  unfold F8_bakes
  refine j_aload_n (pc := 0) hk 0 rfl ⟨_, rfl⟩ dX8_bakes_0 ?_
  refine j_iload_n (pc := 1) hk 1 rfl dX8_bakes_1 ?_
  refine j_aload_n (pc := 2) hk 0 rfl ⟨_, rfl⟩ dX8_bakes_2 ?_
  refine f_8_19 (pc := 3) hk (rfl) dX8_bakes_3 ?_
  refine j_iconst (pc := 6) hk dX8_bakes_6 (v := 1) (by decide) ?_
  refine a_iload (pc := 7) hk (isI_8_4) dX8_bakes_7 (fun x1 => ?_)
  refine j_callVv (pc := 8) hk [.int p1, .int x1] [] rfl (fun l o hq9 => C8_goes p1 x1 st l o hq9) (rcv_8 (rfl)) yv_X8_goes ml_8_224 rfl (Nat.le_of_ble_eq_true rfl) (Nat.le_of_ble_eq_true rfl) (Nat.le_of_ble_eq_true rfl) dX8_bakes_8 (fun _ st2 => ?_)
  refine j_aload_n (pc := 11) hk 0 rfl ⟨_, rfl⟩ dX8_bakes_11 ?_
  refine f_8_19 (pc := 12) hk (rfl) dX8_bakes_12 ?_
  refine j_iconst (pc := 15) hk dX8_bakes_15 (v := 1) (by decide) ?_
  refine j_aload_n (pc := 16) hk 0 rfl ⟨_, rfl⟩ dX8_bakes_16 ?_
  refine f_8_209 (pc := 17) hk (rfl) dX8_bakes_17 (fun x3 => ?_)
  refine a_istore (pc := 20) hk (isI_8_4) dX8_bakes_20 (fun st4 => ?_)
  refine j_aload_n (pc := 21) hk 0 rfl ⟨_, rfl⟩ dX8_bakes_21 ?_
  refine j_dup (pc := 22) hk rfl dX8_bakes_22 ?_
  refine f_8_277 (pc := 23) hk (rfl) dX8_bakes_23 (fun x5 => ?_)
  refine j_iconst (pc := 26) hk dX8_bakes_26 (v := 1) (by decide) ?_
  refine j_iadd (pc := 27) hk dX8_bakes_27 ?_
  refine p_8_277 (pc := 28) hk (rfl) dX8_bakes_28 (fun st6 => ?_)
  refine j_aload_n (pc := 31) hk 0 rfl ⟨_, rfl⟩ dX8_bakes_31 ?_
  refine j_dup (pc := 32) hk rfl dX8_bakes_32 ?_
  refine f_8_280 (pc := 33) hk (rfl) dX8_bakes_33 (fun x7 => ?_)
  refine j_aload_n (pc := 36) hk 0 rfl ⟨_, rfl⟩ dX8_bakes_36 ?_
  refine f_8_212 (pc := 37) hk (rfl) dX8_bakes_37 (fun x8 => ?_)
  refine j_iadd (pc := 40) hk dX8_bakes_40 ?_
  refine p_8_280 (pc := 41) hk (rfl) dX8_bakes_41 (fun st9 => ?_)
  exact j_vret (pc := 44) hk dX8_bakes_44
theorem dX8_bake_0 : decode cX8_bake 0 = .ok (.aload_n 0, 1) := by decide +kernel
theorem dX8_bake_1 : decode cX8_bake 1 = .ok (.iload_n 1, 1) := by decide +kernel
theorem dX8_bake_2 : decode cX8_bake 2 = .ok (.iload_n 2, 1) := by decide +kernel
theorem dX8_bake_3 : decode cX8_bake 3 = .ok (.invokevirtual 218, 3) := by decide +kernel
theorem dX8_bake_6 : decode cX8_bake 6 = .ok (.istore_n 3, 1) := by decide +kernel
theorem dX8_bake_7 : decode cX8_bake 7 = .ok (.iload_n 3, 1) := by decide +kernel
theorem dX8_bake_8 : decode cX8_bake 8 = .ok (.ifCond .ge 9, 3) := by decide +kernel
theorem dX8_bake_11 : decode cX8_bake 11 = .ok (.aload_n 0, 1) := by decide +kernel
theorem dX8_bake_12 : decode cX8_bake 12 = .ok (.iload_n 3, 1) := by decide +kernel
theorem dX8_bake_13 : decode cX8_bake 13 = .ok (.invokevirtual 81, 3) := by decide +kernel
theorem dX8_bake_16 : decode cX8_bake 16 = .ok (.ireturn, 1) := by decide +kernel
theorem dX8_bake_17 : decode cX8_bake 17 = .ok (.aload_n 0, 1) := by decide +kernel
theorem dX8_bake_18 : decode cX8_bake 18 = .ok (.iload_n 1, 1) := by decide +kernel
theorem dX8_bake_19 : decode cX8_bake 19 = .ok (.iconst 0, 1) := by decide +kernel
theorem dX8_bake_20 : decode cX8_bake 20 = .ok (.invokevirtual 221, 3) := by decide +kernel
theorem dX8_bake_23 : decode cX8_bake 23 = .ok (.ifCond .ne 10, 3) := by decide +kernel
theorem dX8_bake_26 : decode cX8_bake 26 = .ok (.aload_n 0, 1) := by decide +kernel
theorem dX8_bake_27 : decode cX8_bake 27 = .ok (.bipush (-6), 2) := by decide +kernel
theorem dX8_bake_29 : decode cX8_bake 29 = .ok (.invokevirtual 81, 3) := by decide +kernel
theorem dX8_bake_32 : decode cX8_bake 32 = .ok (.ireturn, 1) := by decide +kernel
theorem dX8_bake_33 : decode cX8_bake 33 = .ok (.aload_n 0, 1) := by decide +kernel
theorem dX8_bake_34 : decode cX8_bake 34 = .ok (.iload_n 2, 1) := by decide +kernel
theorem dX8_bake_35 : decode cX8_bake 35 = .ok (.invokevirtual 283, 3) := by decide +kernel
theorem dX8_bake_38 : decode cX8_bake 38 = .ok (.aload_n 0, 1) := by decide +kernel
theorem dX8_bake_39 : decode cX8_bake 39 = .ok (.getfield 19, 3) := by decide +kernel
theorem dX8_bake_42 : decode cX8_bake 42 = .ok (.iconst 1, 1) := by decide +kernel
theorem dX8_bake_43 : decode cX8_bake 43 = .ok (.iaload, 1) := by decide +kernel
theorem dX8_bake_44 : decode cX8_bake 44 = .ok (.ireturn, 1) := by decide +kernel
def F8_bake (p1 : Int32) (p2 : Int32) (st : fkS) : Option (Int32 × fkS) :=
 fk_bind (F8_noPie p1 p2 st) <| fun x1 st2 =>
 if 0 ≤ x1 then
 (fk_bind (F8_isPie p1 (0 : Int32) st2) <| fun x3 st4 =>
 if x3 = 0 then
 (fk_bind (F8_no (-6 : Int32) st4) <| fun x5 st6 =>
 some (x5, st6))
 else
 (fk_bind (F8_bakes p2 st4) <| fun _ st7 =>
 fk_chk (fk_in (1 : Int32) 3) <| fk_let (gA st7 4 (1 : Int32).toNatClampNeg) <| fun x8 =>
 some (x8, st7)))
 else
 (fk_bind (F8_no x1 st2) <| fun x9 st10 =>
 some (x9, st10))
set_option maxHeartbeats 1000000 in
set_option maxRecDepth 20000 in
theorem C8_bake (p1 : Int32) (p2 : Int32) (st : fkS) {g : fkG} (l : Launch) (o : Int32 × fkS) (hF : F8_bake p1 p2 st = some o) : fk_C wM yX8_bake cX8_bake 4 (some (.int)) 6 167 l g [fk_r g 0, .int p1, .int p2] st (fk_eI o.1) o.2 := by
  refine fk_begin rfl (Nat.le_of_ble_eq_true rfl) (fun k hk => ?_) o hF
  have hk : fk_ok wM g k RX8 cX8_bake 4 (some (.int)) 6 167 := hk
  show fk_J wM g fk_eI k 0 [(0, fk_r g 0), (1, .int p1), (2, .int p2)] [] st (F8_bake p1 p2 st)
  unfold F8_bake
  refine j_aload_n (pc := 0) hk 0 rfl ⟨_, rfl⟩ dX8_bake_0 ?_
  refine j_iload_n (pc := 1) hk 1 rfl dX8_bake_1 ?_
  refine j_iload_n (pc := 2) hk 2 rfl dX8_bake_2 ?_
  refine j_callVi (pc := 3) hk [.int p1, .int p2] [] rfl (fun l o hq9 => C8_noPie p1 p2 st l o hq9) (rcv_8 (rfl)) yv_X8_noPie ml_8_218 rfl (Nat.le_of_ble_eq_true rfl) (Nat.le_of_ble_eq_true rfl) (Nat.le_of_ble_eq_true rfl) dX8_bake_3 (fun x1 st2 => ?_)
  refine j_istore_n (lv' := ((3, .int x1) :: [(0, fk_r g 0), (1, .int p1), (2, .int p2)])) (pc := 6) hk rfl (by decide) rfl dX8_bake_6 ?_
  refine j_sub hk (lv' := [(0, fk_r g 0), (1, .int p1), (2, .int p2), (3, .int x1)]) [1, 2, 3, 0] rfl ?_
  refine j_iload_n (pc := 7) hk 3 rfl dX8_bake_7 ?_
  refine j_if_ge (tgt := 17) (pc := 8) hk (by decide) dX8_bake_8 (fun _ => ?_) (fun _ => ?_)
  · refine j_aload_n (pc := 17) hk 0 rfl ⟨_, rfl⟩ dX8_bake_17 ?_
    refine j_iload_n (pc := 18) hk 1 rfl dX8_bake_18 ?_
    refine j_iconst (pc := 19) hk dX8_bake_19 (v := 0) (by decide) ?_
    refine j_callVi (pc := 20) hk [.int p1, .int (0 : Int32)] [] rfl (fun l o hq9 => C8_isPie p1 (0 : Int32) st2 l o hq9) (rcv_8 (rfl)) yv_X8_isPie ml_8_221 rfl (Nat.le_of_ble_eq_true rfl) (Nat.le_of_ble_eq_true rfl) (Nat.le_of_ble_eq_true rfl) dX8_bake_20 (fun x3 st4 => ?_)
    refine j_if_ne (tgt := 33) (pc := 23) hk (by decide) dX8_bake_23 (fun _ => ?_) (fun _ => ?_)
    · refine j_aload_n (pc := 26) hk 0 rfl ⟨_, rfl⟩ dX8_bake_26 ?_
      refine j_bipush (pc := 27) hk dX8_bake_27 (v := -6) (by decide) ?_
      refine j_callVi (pc := 29) hk [.int (-6 : Int32)] [] rfl (fun l o hq9 => C8_no (-6 : Int32) st4 l o hq9) (rcv_8 (rfl)) yv_X8_no ml_8_81 rfl (Nat.le_of_ble_eq_true rfl) (Nat.le_of_ble_eq_true rfl) (Nat.le_of_ble_eq_true rfl) dX8_bake_29 (fun x5 st6 => ?_)
      exact j_iret (pc := 32) hk dX8_bake_32
    · refine j_aload_n (pc := 33) hk 0 rfl ⟨_, rfl⟩ dX8_bake_33 ?_
      refine j_iload_n (pc := 34) hk 2 rfl dX8_bake_34 ?_
      refine j_callVv (pc := 35) hk [.int p2] [] rfl (fun l o hq9 => C8_bakes p2 st4 l o hq9) (rcv_8 (rfl)) yv_X8_bakes ml_8_283 rfl (Nat.le_of_ble_eq_true rfl) (Nat.le_of_ble_eq_true rfl) (Nat.le_of_ble_eq_true rfl) dX8_bake_35 (fun _ st7 => ?_)
      refine j_aload_n (pc := 38) hk 0 rfl ⟨_, rfl⟩ dX8_bake_38 ?_
      refine f_8_19 (pc := 39) hk (rfl) dX8_bake_39 ?_
      refine j_iconst (pc := 42) hk dX8_bake_42 (v := 1) (by decide) ?_
      refine a_iload (pc := 43) hk (isI_8_4) dX8_bake_43 (fun x8 => ?_)
      exact j_iret (pc := 44) hk dX8_bake_44
  · refine j_aload_n (pc := 11) hk 0 rfl ⟨_, rfl⟩ dX8_bake_11 ?_
    refine j_iload_n (pc := 12) hk 3 rfl dX8_bake_12 ?_
    refine j_callVi (pc := 13) hk [.int x1] [] rfl (fun l o hq9 => C8_no x1 st2 l o hq9) (rcv_8 (rfl)) yv_X8_no ml_8_81 rfl (Nat.le_of_ble_eq_true rfl) (Nat.le_of_ble_eq_true rfl) (Nat.le_of_ble_eq_true rfl) dX8_bake_13 (fun x9 st10 => ?_)
    exact j_iret (pc := 16) hk dX8_bake_16
theorem dX8_draw_0 : decode cX8_draw 0 = .ok (.aload_n 0, 1) := by decide +kernel
theorem dX8_draw_1 : decode cX8_draw 1 = .ok (.aload_n 0, 1) := by decide +kernel
theorem dX8_draw_2 : decode cX8_draw 2 = .ok (.getfield 74, 3) := by decide +kernel
theorem dX8_draw_5 : decode cX8_draw 5 = .ok (.ldc_w 285, 3) := by decide +kernel
theorem dX8_draw_8 : decode cX8_draw 8 = .ok (.imul, 1) := by decide +kernel
theorem dX8_draw_9 : decode cX8_draw 9 = .ok (.sipush 12345, 3) := by decide +kernel
theorem dX8_draw_12 : decode cX8_draw 12 = .ok (.iadd, 1) := by decide +kernel
theorem dX8_draw_13 : decode cX8_draw 13 = .ok (.putfield 74, 3) := by decide +kernel
theorem dX8_draw_16 : decode cX8_draw 16 = .ok (.aload_n 0, 1) := by decide +kernel
theorem dX8_draw_17 : decode cX8_draw 17 = .ok (.getfield 74, 3) := by decide +kernel
theorem dX8_draw_20 : decode cX8_draw 20 = .ok (.bipush 16, 2) := by decide +kernel
theorem dX8_draw_22 : decode cX8_draw 22 = .ok (.iushr, 1) := by decide +kernel
theorem dX8_draw_23 : decode cX8_draw 23 = .ok (.iload_n 1, 1) := by decide +kernel
theorem dX8_draw_24 : decode cX8_draw 24 = .ok (.irem, 1) := by decide +kernel
theorem dX8_draw_25 : decode cX8_draw 25 = .ok (.ireturn, 1) := by decide +kernel
def F8_draw (p1 : Int32) (st : fkS) : Option (Int32 × fkS) :=
 fk_let (gI st 8 0) <| fun x1 =>
 fk_let (sI st 8 0 ((x1 * (1103515245 : Int32)) + (12345 : Int32))) <| fun st2 =>
 fk_let (gI st2 8 0) <| fun x3 =>
 fk_chk (fk_nz p1) <|
 some ((fk_rem (fk_ushr x3 (16 : Int32)) p1), st2)
set_option maxHeartbeats 1000000 in
set_option maxRecDepth 20000 in
theorem C8_draw (p1 : Int32) (st : fkS) {g : fkG} (l : Launch) (o : Int32 × fkS) (hF : F8_draw p1 st = some o) : fk_C wM yX8_draw cX8_draw 2 (some (.int)) 0 0 l g [fk_r g 0, .int p1] st (fk_eI o.1) o.2 := by
  refine fk_begin rfl (Nat.le_of_ble_eq_true rfl) (fun k hk => ?_) o hF
  have hk : fk_ok wM g k RX8 cX8_draw 2 (some (.int)) 0 0 := hk
  show fk_J wM g fk_eI k 0 [(0, fk_r g 0), (1, .int p1)] [] st (F8_draw p1 st)
  unfold F8_draw
  refine j_aload_n (pc := 0) hk 0 rfl ⟨_, rfl⟩ dX8_draw_0 ?_
  refine j_aload_n (pc := 1) hk 0 rfl ⟨_, rfl⟩ dX8_draw_1 ?_
  refine f_8_74 (pc := 2) hk (rfl) dX8_draw_2 (fun x1 => ?_)
  refine j_ldcw (pc := 5) hk dX8_draw_5 wk_8_285 ?_
  refine j_imul (pc := 8) hk dX8_draw_8 ?_
  refine j_sipush (pc := 9) hk dX8_draw_9 (v := 12345) (by decide) ?_
  refine j_iadd (pc := 12) hk dX8_draw_12 ?_
  refine p_8_74 (pc := 13) hk (rfl) dX8_draw_13 (fun st2 => ?_)
  refine j_aload_n (pc := 16) hk 0 rfl ⟨_, rfl⟩ dX8_draw_16 ?_
  refine f_8_74 (pc := 17) hk (rfl) dX8_draw_17 (fun x3 => ?_)
  refine j_bipush (pc := 20) hk dX8_draw_20 (v := 16) (by decide) ?_
  refine j_iushr (pc := 22) hk dX8_draw_22 ?_
  refine j_iload_n (pc := 23) hk 1 rfl dX8_draw_23 ?_
  refine j_chk (pc := 24) hk (fun hz4 => ?_)
  refine j_irem (pc := 24) hk hz4 dX8_draw_24 ?_
  exact j_iret (pc := 25) hk dX8_draw_25
