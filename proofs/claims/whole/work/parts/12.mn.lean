theorem dX6_raise_0 : decode cX6_raise 0 = .ok (.iconst 0, 1) := by decide +kernel
theorem dX6_raise_1 : decode cX6_raise 1 = .ok (.istore_n 1, 1) := by decide +kernel
theorem dX6_raise_2 : decode cX6_raise 2 = .ok (.iload_n 1, 1) := by decide +kernel
theorem dX6_raise_3 : decode cX6_raise 3 = .ok (.aload_n 0, 1) := by decide +kernel
theorem dX6_raise_4 : decode cX6_raise 4 = .ok (.getfield 24, 3) := by decide +kernel
theorem dX6_raise_7 : decode cX6_raise 7 = .ok (.if_icmp .ge 38, 3) := by decide +kernel
theorem dX6_raise_10 : decode cX6_raise 10 = .ok (.iload_n 1, 1) := by decide +kernel
theorem dX6_raise_11 : decode cX6_raise 11 = .ok (.aload_n 0, 1) := by decide +kernel
theorem dX6_raise_12 : decode cX6_raise 12 = .ok (.getfield 27, 3) := by decide +kernel
theorem dX6_raise_15 : decode cX6_raise 15 = .ok (.arraylength, 1) := by decide +kernel
theorem dX6_raise_16 : decode cX6_raise 16 = .ok (.if_icmp .ge 29, 3) := by decide +kernel
theorem dX6_raise_19 : decode cX6_raise 19 = .ok (.aload_n 0, 1) := by decide +kernel
theorem dX6_raise_20 : decode cX6_raise 20 = .ok (.getfield 27, 3) := by decide +kernel
theorem dX6_raise_23 : decode cX6_raise 23 = .ok (.iload_n 1, 1) := by decide +kernel
theorem dX6_raise_24 : decode cX6_raise 24 = .ok (.aload_n 0, 1) := by decide +kernel
theorem dX6_raise_25 : decode cX6_raise 25 = .ok (.getfield 27, 3) := by decide +kernel
theorem dX6_raise_28 : decode cX6_raise 28 = .ok (.iload_n 1, 1) := by decide +kernel
theorem dX6_raise_29 : decode cX6_raise 29 = .ok (.iaload, 1) := by decide +kernel
theorem dX6_raise_30 : decode cX6_raise 30 = .ok (.aload_n 0, 1) := by decide +kernel
theorem dX6_raise_31 : decode cX6_raise 31 = .ok (.getfield 15, 3) := by decide +kernel
theorem dX6_raise_34 : decode cX6_raise 34 = .ok (.iadd, 1) := by decide +kernel
theorem dX6_raise_35 : decode cX6_raise 35 = .ok (.bipush 20, 2) := by decide +kernel
theorem dX6_raise_37 : decode cX6_raise 37 = .ok (.irem, 1) := by decide +kernel
theorem dX6_raise_38 : decode cX6_raise 38 = .ok (.iastore, 1) := by decide +kernel
theorem dX6_raise_39 : decode cX6_raise 39 = .ok (.iinc 1 1, 3) := by decide +kernel
theorem dX6_raise_42 : decode cX6_raise 42 = .ok (.goto (-40), 3) := by decide +kernel
theorem dX6_raise_45 : decode cX6_raise 45 = .ok (.return_, 1) := by decide +kernel
def B6_raise_2 (h : Nat) (k2 : Int32 → fkS → Option (Unit × fkS)) (v1 : Int32) (st : fkS) : Option (Unit × fkS) :=
 fk_let (gI st 124 h) <| fun x1 =>
 if x1 ≤ v1 then
 (some ((), st))
 else
 (if (16 : Int32) ≤ v1 then
 (some ((), st))
 else
 (fk_chk (fk_in v1 16) <| fk_let (gA st (h + 2) v1.toNatClampNeg) <| fun x2 =>
 fk_let (gI st 121 h) <| fun x3 =>
 fk_chk (fk_in v1 16) <| fk_let (sA st (h + 2) v1.toNatClampNeg (fk_rem (x2 + x3) (20 : Int32))) <| fun st4 =>
 k2 (v1 + (1 : Int32)) st4))
set_option maxHeartbeats 1000000 in
set_option maxRecDepth 20000 in
theorem T6_raise_2 {g : fkG} {k : fkK} (h : Nat) (hh : kdC h = 6) (hk : fk_ok wC g k RX6 cX6_raise 2 none 0 0) (k2 : Int32 → fkS → Option (Unit × fkS)) (H2 : ∀ (v1 : Int32) (st : fkS), fk_J wC g fk_eU k 2 [(0, fk_r g h), (1, .int v1)] [] st (k2 v1 st)) : ∀ (v1 : Int32) (st : fkS), fk_J wC g fk_eU k 2 [(0, fk_r g h), (1, .int v1)] [] st (B6_raise_2 h k2 v1 st) := by
  intro v1 st
  unfold B6_raise_2
  refine j_iload_n (pc := 2) hk 1 rfl dX6_raise_2 ?_
  refine j_aload_n (pc := 3) hk 0 rfl ⟨_, rfl⟩ dX6_raise_3 ?_
  refine f_6_24 (pc := 4) hk (hh) dX6_raise_4 (fun x1 => ?_)
  refine j_icmp_ge (tgt := 45) (pc := 7) hk (by decide) dX6_raise_7 (fun _ => ?_) (fun _ => ?_)
  · exact j_vret (pc := 45) hk dX6_raise_45
  · refine j_iload_n (pc := 10) hk 1 rfl dX6_raise_10 ?_
    refine j_aload_n (pc := 11) hk 0 rfl ⟨_, rfl⟩ dX6_raise_11 ?_
    refine f_6_27 (pc := 12) hk (hh) dX6_raise_12 ?_
    refine a_ilen (pc := 15) hk (isI_6_5 (hh)) (v := 16) (by decide) dX6_raise_15 ?_
    refine j_icmp_ge (tgt := 45) (pc := 16) hk (by decide) dX6_raise_16 (fun _ => ?_) (fun _ => ?_)
    · exact j_vret (pc := 45) hk dX6_raise_45
    · refine j_aload_n (pc := 19) hk 0 rfl ⟨_, rfl⟩ dX6_raise_19 ?_
      refine f_6_27 (pc := 20) hk (hh) dX6_raise_20 ?_
      refine j_iload_n (pc := 23) hk 1 rfl dX6_raise_23 ?_
      refine j_aload_n (pc := 24) hk 0 rfl ⟨_, rfl⟩ dX6_raise_24 ?_
      refine f_6_27 (pc := 25) hk (hh) dX6_raise_25 ?_
      refine j_iload_n (pc := 28) hk 1 rfl dX6_raise_28 ?_
      refine a_iload (pc := 29) hk (isI_6_5 (hh)) dX6_raise_29 (fun x2 => ?_)
      refine j_aload_n (pc := 30) hk 0 rfl ⟨_, rfl⟩ dX6_raise_30 ?_
      refine f_6_15 (pc := 31) hk (hh) dX6_raise_31 (fun x3 => ?_)
      refine j_iadd (pc := 34) hk dX6_raise_34 ?_
      refine j_bipush (pc := 35) hk dX6_raise_35 (v := 20) (by decide) ?_
      refine j_irem (pc := 37) hk (show fk_nz (20 : Int32) = true from by decide) dX6_raise_37 ?_
      refine a_istore (pc := 38) hk (isI_6_5 (hh)) dX6_raise_38 (fun st4 => ?_)
      refine j_iinc (dd := (1 : Int32)) (lv' := ((1, .int (v1 + (1 : Int32))) :: [(0, fk_r g h)])) (pc := 39) hk 1 rfl (by decide) (by decide) rfl dX6_raise_39 ?_
      refine j_sub hk (lv' := [(0, fk_r g h), (1, .int (v1 + (1 : Int32)))]) [1, 0] rfl ?_
      refine j_goto (tgt := 2) (pc := 42) hk (by decide) dX6_raise_42 ?_
      exact j_sub hk [0, 1] rfl (H2 (v1 + (1 : Int32)) st4)
set_option maxHeartbeats 1000000 in
set_option maxRecDepth 20000 in
theorem L6_raise_2 {g : fkG} {k : fkK} (h : Nat) (hh : kdC h = 6) (hk : fk_ok wC g k RX6 cX6_raise 2 none 0 0) (fu : Nat) : ∀ (v1 : Int32) (st : fkS), fk_J wC g fk_eU k 2 [(0, fk_r g h), (1, .int v1)] [] st (fk_lp1 (B6_raise_2 h) fu v1 st) := by
  induction fu with
  | zero =>
    intro v1 st
    exact j_none hk
  | succ fu ih =>
    exact T6_raise_2 h hh hk _ ih
def F6_raise (h : Nat) (st : fkS) : Option (Unit × fkS) :=
 fk_lp1 (B6_raise_2 h) fk_fuel (0 : Int32) st
set_option maxHeartbeats 1000000 in
set_option maxRecDepth 20000 in
theorem C6_raise (h : Nat) (hh : kdC h = 6) (st : fkS) {g : fkG} (l : Launch) (o : Unit × fkS) (hF : F6_raise h st = some o) : fk_C wC yX6_raise cX6_raise 2 none 0 0 l g [fk_r g h] st (fk_eU o.1) o.2 := by
  refine fk_begin rfl (Nat.le_of_ble_eq_true rfl) (fun k hk => ?_) o hF
  have hk : fk_ok wC g k RX6 cX6_raise 2 none 0 0 := hk
  show fk_J wC g fk_eU k 0 [(0, fk_r g h)] [] st (F6_raise h st)
  unfold F6_raise
  refine j_iconst (pc := 0) hk dX6_raise_0 (v := 0) (by decide) ?_
  refine j_istore_n (lv' := ((1, .int (0 : Int32)) :: [(0, fk_r g h)])) (pc := 1) hk rfl (by decide) rfl dX6_raise_1 ?_
  refine j_sub hk (lv' := [(0, fk_r g h), (1, .int (0 : Int32))]) [1, 0] rfl ?_
  exact j_sub hk [0, 1] rfl (L6_raise_2 h hh hk fk_fuel (0 : Int32) st)
theorem dX6_order_0 : decode cX6_order 0 = .ok (.iconst 1, 1) := by decide +kernel
theorem dX6_order_1 : decode cX6_order 1 = .ok (.istore_n 1, 1) := by decide +kernel
theorem dX6_order_2 : decode cX6_order 2 = .ok (.iload_n 1, 1) := by decide +kernel
theorem dX6_order_3 : decode cX6_order 3 = .ok (.aload_n 0, 1) := by decide +kernel
theorem dX6_order_4 : decode cX6_order 4 = .ok (.getfield 24, 3) := by decide +kernel
theorem dX6_order_7 : decode cX6_order 7 = .ok (.if_icmp .ge 55, 3) := by decide +kernel
theorem dX6_order_10 : decode cX6_order 10 = .ok (.iload_n 1, 1) := by decide +kernel
theorem dX6_order_11 : decode cX6_order 11 = .ok (.aload_n 0, 1) := by decide +kernel
theorem dX6_order_12 : decode cX6_order 12 = .ok (.getfield 27, 3) := by decide +kernel
theorem dX6_order_15 : decode cX6_order 15 = .ok (.arraylength, 1) := by decide +kernel
theorem dX6_order_16 : decode cX6_order 16 = .ok (.if_icmp .ge 46, 3) := by decide +kernel
theorem dX6_order_19 : decode cX6_order 19 = .ok (.iload_n 1, 1) := by decide +kernel
theorem dX6_order_20 : decode cX6_order 20 = .ok (.istore_n 2, 1) := by decide +kernel
theorem dX6_order_21 : decode cX6_order 21 = .ok (.iload_n 2, 1) := by decide +kernel
theorem dX6_order_22 : decode cX6_order 22 = .ok (.ifCond .le 34, 3) := by decide +kernel
theorem dX6_order_25 : decode cX6_order 25 = .ok (.aload_n 0, 1) := by decide +kernel
theorem dX6_order_26 : decode cX6_order 26 = .ok (.getfield 27, 3) := by decide +kernel
theorem dX6_order_29 : decode cX6_order 29 = .ok (.iload_n 2, 1) := by decide +kernel
theorem dX6_order_30 : decode cX6_order 30 = .ok (.iconst 1, 1) := by decide +kernel
theorem dX6_order_31 : decode cX6_order 31 = .ok (.isub, 1) := by decide +kernel
theorem dX6_order_32 : decode cX6_order 32 = .ok (.iaload, 1) := by decide +kernel
theorem dX6_order_33 : decode cX6_order 33 = .ok (.aload_n 0, 1) := by decide +kernel
theorem dX6_order_34 : decode cX6_order 34 = .ok (.getfield 27, 3) := by decide +kernel
theorem dX6_order_37 : decode cX6_order 37 = .ok (.iload_n 2, 1) := by decide +kernel
theorem dX6_order_38 : decode cX6_order 38 = .ok (.iaload, 1) := by decide +kernel
theorem dX6_order_39 : decode cX6_order 39 = .ok (.if_icmp .le 17, 3) := by decide +kernel
theorem dX6_order_42 : decode cX6_order 42 = .ok (.aload_n 0, 1) := by decide +kernel
theorem dX6_order_43 : decode cX6_order 43 = .ok (.iload_n 2, 1) := by decide +kernel
theorem dX6_order_44 : decode cX6_order 44 = .ok (.iconst 1, 1) := by decide +kernel
theorem dX6_order_45 : decode cX6_order 45 = .ok (.isub, 1) := by decide +kernel
theorem dX6_order_46 : decode cX6_order 46 = .ok (.iload_n 2, 1) := by decide +kernel
theorem dX6_order_47 : decode cX6_order 47 = .ok (.invokevirtual 87, 3) := by decide +kernel
theorem dX6_order_50 : decode cX6_order 50 = .ok (.iinc 2 (-1), 3) := by decide +kernel
theorem dX6_order_53 : decode cX6_order 53 = .ok (.goto (-32), 3) := by decide +kernel
theorem dX6_order_56 : decode cX6_order 56 = .ok (.iinc 1 1, 3) := by decide +kernel
theorem dX6_order_59 : decode cX6_order 59 = .ok (.goto (-57), 3) := by decide +kernel
theorem dX6_order_62 : decode cX6_order 62 = .ok (.return_, 1) := by decide +kernel
def B6_order_56 (h : Nat) (k2 : Int32 → fkS → Option (Unit × fkS)) (v1 : Int32) (st : fkS) : Option (Unit × fkS) :=
 k2 (v1 + (1 : Int32)) st
set_option maxHeartbeats 1000000 in
set_option maxRecDepth 20000 in
theorem T6_order_56 {g : fkG} {k : fkK} (h : Nat) (hh : kdC h = 6) (hk : fk_ok wC g k RX6 cX6_order 3 none 1 23) (k2 : Int32 → fkS → Option (Unit × fkS)) (H2 : ∀ (v1 : Int32) (st : fkS), fk_J wC g fk_eU k 2 [(0, fk_r g h), (1, .int v1)] [] st (k2 v1 st)) : ∀ (v1 : Int32) (st : fkS), fk_J wC g fk_eU k 56 [(0, fk_r g h), (1, .int v1)] [] st (B6_order_56 h k2 v1 st) := by
  intro v1 st
  unfold B6_order_56
  refine j_iinc (dd := (1 : Int32)) (lv' := ((1, .int (v1 + (1 : Int32))) :: [(0, fk_r g h)])) (pc := 56) hk 1 rfl (by decide) (by decide) rfl dX6_order_56 ?_
  refine j_sub hk (lv' := [(0, fk_r g h), (1, .int (v1 + (1 : Int32)))]) [1, 0] rfl ?_
  refine j_goto (tgt := 2) (pc := 59) hk (by decide) dX6_order_59 ?_
  exact j_sub hk [0, 1] rfl (H2 (v1 + (1 : Int32)) st)
def B6_order_21 (h : Nat) (k2 : Int32 → fkS → Option (Unit × fkS)) (k21 : Int32 → Int32 → fkS → Option (Unit × fkS)) (v1 : Int32) (v2 : Int32) (st : fkS) : Option (Unit × fkS) :=
 if v2 ≤ 0 then
 (B6_order_56 h k2 v1 st)
 else
 (fk_chk (fk_in (v2 - (1 : Int32)) 16) <| fk_let (gA st (h + 2) (v2 - (1 : Int32)).toNatClampNeg) <| fun x2 =>
 fk_chk (fk_in v2 16) <| fk_let (gA st (h + 2) v2.toNatClampNeg) <| fun x3 =>
 if x2 ≤ x3 then
 (B6_order_56 h k2 v1 st)
 else
 (fk_bind (F6_swap h (v2 - (1 : Int32)) v2 st) <| fun _ st4 =>
 k21 v1 (v2 + (-1 : Int32)) st4))
set_option maxHeartbeats 1000000 in
set_option maxRecDepth 20000 in
theorem T6_order_21 {g : fkG} {k : fkK} (h : Nat) (hh : kdC h = 6) (hk : fk_ok wC g k RX6 cX6_order 3 none 1 23) (k2 : Int32 → fkS → Option (Unit × fkS)) (H2 : ∀ (v1 : Int32) (st : fkS), fk_J wC g fk_eU k 2 [(0, fk_r g h), (1, .int v1)] [] st (k2 v1 st)) (k21 : Int32 → Int32 → fkS → Option (Unit × fkS)) (H21 : ∀ (v1 : Int32) (v2 : Int32) (st : fkS), fk_J wC g fk_eU k 21 [(0, fk_r g h), (1, .int v1), (2, .int v2)] [] st (k21 v1 v2 st)) : ∀ (v1 : Int32) (v2 : Int32) (st : fkS), fk_J wC g fk_eU k 21 [(0, fk_r g h), (1, .int v1), (2, .int v2)] [] st (B6_order_21 h k2 k21 v1 v2 st) := by
  intro v1 v2 st
  unfold B6_order_21
  refine j_iload_n (pc := 21) hk 2 rfl dX6_order_21 ?_
  refine j_if_le (tgt := 56) (pc := 22) hk (by decide) dX6_order_22 (fun _ => ?_) (fun _ => ?_)
  · exact j_sub hk [0, 1] rfl (T6_order_56 h hh hk k2 H2 v1 st)
  · refine j_aload_n (pc := 25) hk 0 rfl ⟨_, rfl⟩ dX6_order_25 ?_
    refine f_6_27 (pc := 26) hk (hh) dX6_order_26 ?_
    refine j_iload_n (pc := 29) hk 2 rfl dX6_order_29 ?_
    refine j_iconst (pc := 30) hk dX6_order_30 (v := 1) (by decide) ?_
    refine j_isub (pc := 31) hk dX6_order_31 ?_
    refine a_iload (pc := 32) hk (isI_6_5 (hh)) dX6_order_32 (fun x2 => ?_)
    refine j_aload_n (pc := 33) hk 0 rfl ⟨_, rfl⟩ dX6_order_33 ?_
    refine f_6_27 (pc := 34) hk (hh) dX6_order_34 ?_
    refine j_iload_n (pc := 37) hk 2 rfl dX6_order_37 ?_
    refine a_iload (pc := 38) hk (isI_6_5 (hh)) dX6_order_38 (fun x3 => ?_)
    refine j_icmp_le (tgt := 56) (pc := 39) hk (by decide) dX6_order_39 (fun _ => ?_) (fun _ => ?_)
    · exact j_sub hk [0, 1] rfl (T6_order_56 h hh hk k2 H2 v1 st)
    · refine j_aload_n (pc := 42) hk 0 rfl ⟨_, rfl⟩ dX6_order_42 ?_
      refine j_iload_n (pc := 43) hk 2 rfl dX6_order_43 ?_
      refine j_iconst (pc := 44) hk dX6_order_44 (v := 1) (by decide) ?_
      refine j_isub (pc := 45) hk dX6_order_45 ?_
      refine j_iload_n (pc := 46) hk 2 rfl dX6_order_46 ?_
      refine j_callVv (pc := 47) hk [.int (v2 - (1 : Int32)), .int v2] [] rfl (fun l o hq9 => C6_swap h (hh) (v2 - (1 : Int32)) v2 st l o hq9) (rcv_6 (hh)) yv_X6_swap ml_6_87 rfl (Nat.le_of_ble_eq_true rfl) (Nat.le_of_ble_eq_true rfl) (Nat.le_of_ble_eq_true rfl) dX6_order_47 (fun _ st4 => ?_)
      refine j_iinc (dd := (-1 : Int32)) (lv' := ((2, .int (v2 + (-1 : Int32))) :: [(0, fk_r g h), (1, .int v1)])) (pc := 50) hk 2 rfl (by decide) (by decide) rfl dX6_order_50 ?_
      refine j_sub hk (lv' := [(0, fk_r g h), (1, .int v1), (2, .int (v2 + (-1 : Int32)))]) [1, 2, 0] rfl ?_
      refine j_goto (tgt := 21) (pc := 53) hk (by decide) dX6_order_53 ?_
      exact j_sub hk [0, 1, 2] rfl (H21 v1 (v2 + (-1 : Int32)) st4)
set_option maxHeartbeats 1000000 in
set_option maxRecDepth 20000 in
theorem L6_order_21 {g : fkG} {k : fkK} (h : Nat) (hh : kdC h = 6) (hk : fk_ok wC g k RX6 cX6_order 3 none 1 23) (k2 : Int32 → fkS → Option (Unit × fkS)) (H2 : ∀ (v1 : Int32) (st : fkS), fk_J wC g fk_eU k 2 [(0, fk_r g h), (1, .int v1)] [] st (k2 v1 st)) (fu : Nat) : ∀ (v1 : Int32) (v2 : Int32) (st : fkS), fk_J wC g fk_eU k 21 [(0, fk_r g h), (1, .int v1), (2, .int v2)] [] st (fk_lp2 (B6_order_21 h k2) fu v1 v2 st) := by
  induction fu with
  | zero =>
    intro v1 v2 st
    exact j_none hk
  | succ fu ih =>
    exact T6_order_21 h hh hk k2 H2 _ ih
def B6_order_2 (h : Nat) (k2 : Int32 → fkS → Option (Unit × fkS)) (v1 : Int32) (st : fkS) : Option (Unit × fkS) :=
 fk_let (gI st 124 h) <| fun x1 =>
 if x1 ≤ v1 then
 (some ((), st))
 else
 (if (16 : Int32) ≤ v1 then
 (some ((), st))
 else
 (fk_lp2 (B6_order_21 h k2) fk_fuel v1 v1 st))
set_option maxHeartbeats 1000000 in
set_option maxRecDepth 20000 in
theorem T6_order_2 {g : fkG} {k : fkK} (h : Nat) (hh : kdC h = 6) (hk : fk_ok wC g k RX6 cX6_order 3 none 1 23) (k2 : Int32 → fkS → Option (Unit × fkS)) (H2 : ∀ (v1 : Int32) (st : fkS), fk_J wC g fk_eU k 2 [(0, fk_r g h), (1, .int v1)] [] st (k2 v1 st)) : ∀ (v1 : Int32) (st : fkS), fk_J wC g fk_eU k 2 [(0, fk_r g h), (1, .int v1)] [] st (B6_order_2 h k2 v1 st) := by
  intro v1 st
  unfold B6_order_2
  refine j_iload_n (pc := 2) hk 1 rfl dX6_order_2 ?_
  refine j_aload_n (pc := 3) hk 0 rfl ⟨_, rfl⟩ dX6_order_3 ?_
  refine f_6_24 (pc := 4) hk (hh) dX6_order_4 (fun x1 => ?_)
  refine j_icmp_ge (tgt := 62) (pc := 7) hk (by decide) dX6_order_7 (fun _ => ?_) (fun _ => ?_)
  · exact j_vret (pc := 62) hk dX6_order_62
  · refine j_iload_n (pc := 10) hk 1 rfl dX6_order_10 ?_
    refine j_aload_n (pc := 11) hk 0 rfl ⟨_, rfl⟩ dX6_order_11 ?_
    refine f_6_27 (pc := 12) hk (hh) dX6_order_12 ?_
    refine a_ilen (pc := 15) hk (isI_6_5 (hh)) (v := 16) (by decide) dX6_order_15 ?_
    refine j_icmp_ge (tgt := 62) (pc := 16) hk (by decide) dX6_order_16 (fun _ => ?_) (fun _ => ?_)
    · exact j_vret (pc := 62) hk dX6_order_62
    · refine j_iload_n (pc := 19) hk 1 rfl dX6_order_19 ?_
      refine j_istore_n (lv' := ((2, .int v1) :: [(0, fk_r g h), (1, .int v1)])) (pc := 20) hk rfl (by decide) rfl dX6_order_20 ?_
      refine j_sub hk (lv' := [(0, fk_r g h), (1, .int v1), (2, .int v1)]) [1, 2, 0] rfl ?_
      exact j_sub hk [0, 1, 2] rfl (L6_order_21 h hh hk k2 H2 fk_fuel v1 v1 st)
set_option maxHeartbeats 1000000 in
set_option maxRecDepth 20000 in
theorem L6_order_2 {g : fkG} {k : fkK} (h : Nat) (hh : kdC h = 6) (hk : fk_ok wC g k RX6 cX6_order 3 none 1 23) (fu : Nat) : ∀ (v1 : Int32) (st : fkS), fk_J wC g fk_eU k 2 [(0, fk_r g h), (1, .int v1)] [] st (fk_lp1 (B6_order_2 h) fu v1 st) := by
  induction fu with
  | zero =>
    intro v1 st
    exact j_none hk
  | succ fu ih =>
    exact T6_order_2 h hh hk _ ih
def F6_order (h : Nat) (st : fkS) : Option (Unit × fkS) :=
 fk_lp1 (B6_order_2 h) fk_fuel (1 : Int32) st
set_option maxHeartbeats 1000000 in
set_option maxRecDepth 20000 in
theorem C6_order (h : Nat) (hh : kdC h = 6) (st : fkS) {g : fkG} (l : Launch) (o : Unit × fkS) (hF : F6_order h st = some o) : fk_C wC yX6_order cX6_order 3 none 1 23 l g [fk_r g h] st (fk_eU o.1) o.2 := by
  refine fk_begin rfl (Nat.le_of_ble_eq_true rfl) (fun k hk => ?_) o hF
  have hk : fk_ok wC g k RX6 cX6_order 3 none 1 23 := hk
  show fk_J wC g fk_eU k 0 [(0, fk_r g h)] [] st (F6_order h st)
  unfold F6_order
  refine j_iconst (pc := 0) hk dX6_order_0 (v := 1) (by decide) ?_
  refine j_istore_n (lv' := ((1, .int (1 : Int32)) :: [(0, fk_r g h)])) (pc := 1) hk rfl (by decide) rfl dX6_order_1 ?_
  refine j_sub hk (lv' := [(0, fk_r g h), (1, .int (1 : Int32))]) [1, 0] rfl ?_
  exact j_sub hk [0, 1] rfl (L6_order_2 h hh hk fk_fuel (1 : Int32) st)
theorem dX6_doubleEach_0 : decode cX6_doubleEach 0 = .ok (.aload_n 0, 1) := by decide +kernel
theorem dX6_doubleEach_1 : decode cX6_doubleEach 1 = .ok (.getfield 24, 3) := by decide +kernel
theorem dX6_doubleEach_4 : decode cX6_doubleEach 4 = .ok (.bipush 8, 2) := by decide +kernel
theorem dX6_doubleEach_6 : decode cX6_doubleEach 6 = .ok (.invokestatic 74, 3) := by decide +kernel
theorem dX6_doubleEach_9 : decode cX6_doubleEach 9 = .ok (.iconst 1, 1) := by decide +kernel
theorem dX6_doubleEach_10 : decode cX6_doubleEach 10 = .ok (.isub, 1) := by decide +kernel
theorem dX6_doubleEach_11 : decode cX6_doubleEach 11 = .ok (.istore_n 1, 1) := by decide +kernel
theorem dX6_doubleEach_12 : decode cX6_doubleEach 12 = .ok (.iload_n 1, 1) := by decide +kernel
theorem dX6_doubleEach_13 : decode cX6_doubleEach 13 = .ok (.ifCond .lt 39, 3) := by decide +kernel
theorem dX6_doubleEach_16 : decode cX6_doubleEach 16 = .ok (.aload_n 0, 1) := by decide +kernel
theorem dX6_doubleEach_17 : decode cX6_doubleEach 17 = .ok (.getfield 27, 3) := by decide +kernel
theorem dX6_doubleEach_20 : decode cX6_doubleEach 20 = .ok (.iconst 2, 1) := by decide +kernel
theorem dX6_doubleEach_21 : decode cX6_doubleEach 21 = .ok (.iload_n 1, 1) := by decide +kernel
theorem dX6_doubleEach_22 : decode cX6_doubleEach 22 = .ok (.imul, 1) := by decide +kernel
theorem dX6_doubleEach_23 : decode cX6_doubleEach 23 = .ok (.iconst 1, 1) := by decide +kernel
theorem dX6_doubleEach_24 : decode cX6_doubleEach 24 = .ok (.iadd, 1) := by decide +kernel
theorem dX6_doubleEach_25 : decode cX6_doubleEach 25 = .ok (.aload_n 0, 1) := by decide +kernel
theorem dX6_doubleEach_26 : decode cX6_doubleEach 26 = .ok (.getfield 27, 3) := by decide +kernel
theorem dX6_doubleEach_29 : decode cX6_doubleEach 29 = .ok (.iload_n 1, 1) := by decide +kernel
theorem dX6_doubleEach_30 : decode cX6_doubleEach 30 = .ok (.iaload, 1) := by decide +kernel
theorem dX6_doubleEach_31 : decode cX6_doubleEach 31 = .ok (.iastore, 1) := by decide +kernel
theorem dX6_doubleEach_32 : decode cX6_doubleEach 32 = .ok (.aload_n 0, 1) := by decide +kernel
theorem dX6_doubleEach_33 : decode cX6_doubleEach 33 = .ok (.getfield 27, 3) := by decide +kernel
theorem dX6_doubleEach_36 : decode cX6_doubleEach 36 = .ok (.iconst 2, 1) := by decide +kernel
theorem dX6_doubleEach_37 : decode cX6_doubleEach 37 = .ok (.iload_n 1, 1) := by decide +kernel
theorem dX6_doubleEach_38 : decode cX6_doubleEach 38 = .ok (.imul, 1) := by decide +kernel
theorem dX6_doubleEach_39 : decode cX6_doubleEach 39 = .ok (.aload_n 0, 1) := by decide +kernel
theorem dX6_doubleEach_40 : decode cX6_doubleEach 40 = .ok (.getfield 27, 3) := by decide +kernel
theorem dX6_doubleEach_43 : decode cX6_doubleEach 43 = .ok (.iload_n 1, 1) := by decide +kernel
theorem dX6_doubleEach_44 : decode cX6_doubleEach 44 = .ok (.iaload, 1) := by decide +kernel
theorem dX6_doubleEach_45 : decode cX6_doubleEach 45 = .ok (.iastore, 1) := by decide +kernel
theorem dX6_doubleEach_46 : decode cX6_doubleEach 46 = .ok (.iinc 1 (-1), 3) := by decide +kernel
theorem dX6_doubleEach_49 : decode cX6_doubleEach 49 = .ok (.goto (-37), 3) := by decide +kernel
theorem dX6_doubleEach_52 : decode cX6_doubleEach 52 = .ok (.aload_n 0, 1) := by decide +kernel
theorem dX6_doubleEach_53 : decode cX6_doubleEach 53 = .ok (.iconst 2, 1) := by decide +kernel
theorem dX6_doubleEach_54 : decode cX6_doubleEach 54 = .ok (.aload_n 0, 1) := by decide +kernel
theorem dX6_doubleEach_55 : decode cX6_doubleEach 55 = .ok (.getfield 24, 3) := by decide +kernel
theorem dX6_doubleEach_58 : decode cX6_doubleEach 58 = .ok (.bipush 8, 2) := by decide +kernel
theorem dX6_doubleEach_60 : decode cX6_doubleEach 60 = .ok (.invokestatic 74, 3) := by decide +kernel
theorem dX6_doubleEach_63 : decode cX6_doubleEach 63 = .ok (.imul, 1) := by decide +kernel
theorem dX6_doubleEach_64 : decode cX6_doubleEach 64 = .ok (.putfield 24, 3) := by decide +kernel
theorem dX6_doubleEach_67 : decode cX6_doubleEach 67 = .ok (.return_, 1) := by decide +kernel
def B6_doubleEach_12 (h : Nat) (k12 : Int32 → fkS → Option (Unit × fkS)) (v1 : Int32) (st : fkS) : Option (Unit × fkS) :=
 if v1 < 0 then
 (fk_let (gI st 124 h) <| fun x2 =>
 fk_let (sI st 124 h ((2 : Int32) * (fk_min x2 (8 : Int32)))) <| fun st3 =>
 some ((), st3))
 else
 (fk_chk (fk_in v1 16) <| fk_let (gA st (h + 2) v1.toNatClampNeg) <| fun x4 =>
 fk_chk (fk_in (((2 : Int32) * v1) + (1 : Int32)) 16) <| fk_let (sA st (h + 2) (((2 : Int32) * v1) + (1 : Int32)).toNatClampNeg x4) <| fun st5 =>
 fk_chk (fk_in v1 16) <| fk_let (gA st5 (h + 2) v1.toNatClampNeg) <| fun x6 =>
 fk_chk (fk_in ((2 : Int32) * v1) 16) <| fk_let (sA st5 (h + 2) ((2 : Int32) * v1).toNatClampNeg x6) <| fun st7 =>
 k12 (v1 + (-1 : Int32)) st7)
set_option maxHeartbeats 1000000 in
set_option maxRecDepth 20000 in
theorem T6_doubleEach_12 {g : fkG} {k : fkK} (h : Nat) (hh : kdC h = 6) (hk : fk_ok wC g k RX6 cX6_doubleEach 2 none 1 100) (k12 : Int32 → fkS → Option (Unit × fkS)) (H12 : ∀ (v1 : Int32) (st : fkS), fk_J wC g fk_eU k 12 [(0, fk_r g h), (1, .int v1)] [] st (k12 v1 st)) : ∀ (v1 : Int32) (st : fkS), fk_J wC g fk_eU k 12 [(0, fk_r g h), (1, .int v1)] [] st (B6_doubleEach_12 h k12 v1 st) := by
  intro v1 st
  unfold B6_doubleEach_12
  refine j_iload_n (pc := 12) hk 1 rfl dX6_doubleEach_12 ?_
  refine j_if_lt (tgt := 52) (pc := 13) hk (by decide) dX6_doubleEach_13 (fun _ => ?_) (fun _ => ?_)
  · refine j_aload_n (pc := 52) hk 0 rfl ⟨_, rfl⟩ dX6_doubleEach_52 ?_
    refine j_iconst (pc := 53) hk dX6_doubleEach_53 (v := 2) (by decide) ?_
    refine j_aload_n (pc := 54) hk 0 rfl ⟨_, rfl⟩ dX6_doubleEach_54 ?_
    refine f_6_24 (pc := 55) hk (hh) dX6_doubleEach_55 (fun x2 => ?_)
    refine j_bipush (pc := 58) hk dX6_doubleEach_58 (v := 8) (by decide) ?_
    refine j_mmin (pc := 60) hk ml_6_74 wd_min1 wd_math wd_min2 (Nat.le_of_ble_eq_true rfl) (Nat.le_of_ble_eq_true rfl) dX6_doubleEach_60 ?_
    refine j_imul (pc := 63) hk dX6_doubleEach_63 ?_
    refine p_6_24 (pc := 64) hk (hh) dX6_doubleEach_64 (fun st3 => ?_)
    exact j_vret (pc := 67) hk dX6_doubleEach_67
  · refine j_aload_n (pc := 16) hk 0 rfl ⟨_, rfl⟩ dX6_doubleEach_16 ?_
    refine f_6_27 (pc := 17) hk (hh) dX6_doubleEach_17 ?_
    refine j_iconst (pc := 20) hk dX6_doubleEach_20 (v := 2) (by decide) ?_
    refine j_iload_n (pc := 21) hk 1 rfl dX6_doubleEach_21 ?_
    refine j_imul (pc := 22) hk dX6_doubleEach_22 ?_
    refine j_iconst (pc := 23) hk dX6_doubleEach_23 (v := 1) (by decide) ?_
    refine j_iadd (pc := 24) hk dX6_doubleEach_24 ?_
    refine j_aload_n (pc := 25) hk 0 rfl ⟨_, rfl⟩ dX6_doubleEach_25 ?_
    refine f_6_27 (pc := 26) hk (hh) dX6_doubleEach_26 ?_
    refine j_iload_n (pc := 29) hk 1 rfl dX6_doubleEach_29 ?_
    refine a_iload (pc := 30) hk (isI_6_5 (hh)) dX6_doubleEach_30 (fun x4 => ?_)
    refine a_istore (pc := 31) hk (isI_6_5 (hh)) dX6_doubleEach_31 (fun st5 => ?_)
    refine j_aload_n (pc := 32) hk 0 rfl ⟨_, rfl⟩ dX6_doubleEach_32 ?_
    refine f_6_27 (pc := 33) hk (hh) dX6_doubleEach_33 ?_
    refine j_iconst (pc := 36) hk dX6_doubleEach_36 (v := 2) (by decide) ?_
    refine j_iload_n (pc := 37) hk 1 rfl dX6_doubleEach_37 ?_
    refine j_imul (pc := 38) hk dX6_doubleEach_38 ?_
    refine j_aload_n (pc := 39) hk 0 rfl ⟨_, rfl⟩ dX6_doubleEach_39 ?_
    refine f_6_27 (pc := 40) hk (hh) dX6_doubleEach_40 ?_
    refine j_iload_n (pc := 43) hk 1 rfl dX6_doubleEach_43 ?_
    refine a_iload (pc := 44) hk (isI_6_5 (hh)) dX6_doubleEach_44 (fun x6 => ?_)
    refine a_istore (pc := 45) hk (isI_6_5 (hh)) dX6_doubleEach_45 (fun st7 => ?_)
    refine j_iinc (dd := (-1 : Int32)) (lv' := ((1, .int (v1 + (-1 : Int32))) :: [(0, fk_r g h)])) (pc := 46) hk 1 rfl (by decide) (by decide) rfl dX6_doubleEach_46 ?_
    refine j_sub hk (lv' := [(0, fk_r g h), (1, .int (v1 + (-1 : Int32)))]) [1, 0] rfl ?_
    refine j_goto (tgt := 12) (pc := 49) hk (by decide) dX6_doubleEach_49 ?_
    exact j_sub hk [0, 1] rfl (H12 (v1 + (-1 : Int32)) st7)
set_option maxHeartbeats 1000000 in
set_option maxRecDepth 20000 in
theorem L6_doubleEach_12 {g : fkG} {k : fkK} (h : Nat) (hh : kdC h = 6) (hk : fk_ok wC g k RX6 cX6_doubleEach 2 none 1 100) (fu : Nat) : ∀ (v1 : Int32) (st : fkS), fk_J wC g fk_eU k 12 [(0, fk_r g h), (1, .int v1)] [] st (fk_lp1 (B6_doubleEach_12 h) fu v1 st) := by
  induction fu with
  | zero =>
    intro v1 st
    exact j_none hk
  | succ fu ih =>
    exact T6_doubleEach_12 h hh hk _ ih
def F6_doubleEach (h : Nat) (st : fkS) : Option (Unit × fkS) :=
 fk_let (gI st 124 h) <| fun x1 =>
 fk_lp1 (B6_doubleEach_12 h) fk_fuel ((fk_min x1 (8 : Int32)) - (1 : Int32)) st
set_option maxHeartbeats 1000000 in
set_option maxRecDepth 20000 in
theorem C6_doubleEach (h : Nat) (hh : kdC h = 6) (st : fkS) {g : fkG} (l : Launch) (o : Unit × fkS) (hF : F6_doubleEach h st = some o) : fk_C wC yX6_doubleEach cX6_doubleEach 2 none 1 100 l g [fk_r g h] st (fk_eU o.1) o.2 := by
  refine fk_begin rfl (Nat.le_of_ble_eq_true rfl) (fun k hk => ?_) o hF
  have hk : fk_ok wC g k RX6 cX6_doubleEach 2 none 1 100 := hk
  show fk_J wC g fk_eU k 0 [(0, fk_r g h)] [] st (F6_doubleEach h st)
  unfold F6_doubleEach
  refine j_aload_n (pc := 0) hk 0 rfl ⟨_, rfl⟩ dX6_doubleEach_0 ?_
  refine f_6_24 (pc := 1) hk (hh) dX6_doubleEach_1 (fun x1 => ?_)
  refine j_bipush (pc := 4) hk dX6_doubleEach_4 (v := 8) (by decide) ?_
  refine j_mmin (pc := 6) hk ml_6_74 wd_min1 wd_math wd_min2 (Nat.le_of_ble_eq_true rfl) (Nat.le_of_ble_eq_true rfl) dX6_doubleEach_6 ?_
  refine j_iconst (pc := 9) hk dX6_doubleEach_9 (v := 1) (by decide) ?_
  refine j_isub (pc := 10) hk dX6_doubleEach_10 ?_
  refine j_istore_n (lv' := ((1, .int ((fk_min x1 (8 : Int32)) - (1 : Int32))) :: [(0, fk_r g h)])) (pc := 11) hk rfl (by decide) rfl dX6_doubleEach_11 ?_
  refine j_sub hk (lv' := [(0, fk_r g h), (1, .int ((fk_min x1 (8 : Int32)) - (1 : Int32)))]) [1, 0] rfl ?_
  exact j_sub hk [0, 1] rfl (L6_doubleEach_12 h hh hk fk_fuel ((fk_min x1 (8 : Int32)) - (1 : Int32)) st)
theorem dX6_keepEachSecond_0 : decode cX6_keepEachSecond 0 = .ok (.aload_n 0, 1) := by decide +kernel
theorem dX6_keepEachSecond_1 : decode cX6_keepEachSecond 1 = .ok (.dup, 1) := by decide +kernel
theorem dX6_keepEachSecond_2 : decode cX6_keepEachSecond 2 = .ok (.getfield 24, 3) := by decide +kernel
theorem dX6_keepEachSecond_5 : decode cX6_keepEachSecond 5 = .ok (.iconst 2, 1) := by decide +kernel
theorem dX6_keepEachSecond_6 : decode cX6_keepEachSecond 6 = .ok (.idiv, 1) := by decide +kernel
theorem dX6_keepEachSecond_7 : decode cX6_keepEachSecond 7 = .ok (.putfield 24, 3) := by decide +kernel
theorem dX6_keepEachSecond_10 : decode cX6_keepEachSecond 10 = .ok (.iconst 0, 1) := by decide +kernel
theorem dX6_keepEachSecond_11 : decode cX6_keepEachSecond 11 = .ok (.istore_n 1, 1) := by decide +kernel
theorem dX6_keepEachSecond_12 : decode cX6_keepEachSecond 12 = .ok (.iload_n 1, 1) := by decide +kernel
theorem dX6_keepEachSecond_13 : decode cX6_keepEachSecond 13 = .ok (.aload_n 0, 1) := by decide +kernel
theorem dX6_keepEachSecond_14 : decode cX6_keepEachSecond 14 = .ok (.getfield 24, 3) := by decide +kernel
theorem dX6_keepEachSecond_17 : decode cX6_keepEachSecond 17 = .ok (.if_icmp .ge 38, 3) := by decide +kernel
theorem dX6_keepEachSecond_20 : decode cX6_keepEachSecond 20 = .ok (.iconst 2, 1) := by decide +kernel
theorem dX6_keepEachSecond_21 : decode cX6_keepEachSecond 21 = .ok (.iload_n 1, 1) := by decide +kernel
theorem dX6_keepEachSecond_22 : decode cX6_keepEachSecond 22 = .ok (.imul, 1) := by decide +kernel
theorem dX6_keepEachSecond_23 : decode cX6_keepEachSecond 23 = .ok (.iconst 1, 1) := by decide +kernel
theorem dX6_keepEachSecond_24 : decode cX6_keepEachSecond 24 = .ok (.iadd, 1) := by decide +kernel
theorem dX6_keepEachSecond_25 : decode cX6_keepEachSecond 25 = .ok (.aload_n 0, 1) := by decide +kernel
theorem dX6_keepEachSecond_26 : decode cX6_keepEachSecond 26 = .ok (.getfield 27, 3) := by decide +kernel
theorem dX6_keepEachSecond_29 : decode cX6_keepEachSecond 29 = .ok (.arraylength, 1) := by decide +kernel
theorem dX6_keepEachSecond_30 : decode cX6_keepEachSecond 30 = .ok (.if_icmp .ge 25, 3) := by decide +kernel
theorem dX6_keepEachSecond_33 : decode cX6_keepEachSecond 33 = .ok (.aload_n 0, 1) := by decide +kernel
theorem dX6_keepEachSecond_34 : decode cX6_keepEachSecond 34 = .ok (.getfield 27, 3) := by decide +kernel
theorem dX6_keepEachSecond_37 : decode cX6_keepEachSecond 37 = .ok (.iload_n 1, 1) := by decide +kernel
theorem dX6_keepEachSecond_38 : decode cX6_keepEachSecond 38 = .ok (.aload_n 0, 1) := by decide +kernel
theorem dX6_keepEachSecond_39 : decode cX6_keepEachSecond 39 = .ok (.getfield 27, 3) := by decide +kernel
theorem dX6_keepEachSecond_42 : decode cX6_keepEachSecond 42 = .ok (.iconst 2, 1) := by decide +kernel
theorem dX6_keepEachSecond_43 : decode cX6_keepEachSecond 43 = .ok (.iload_n 1, 1) := by decide +kernel
theorem dX6_keepEachSecond_44 : decode cX6_keepEachSecond 44 = .ok (.imul, 1) := by decide +kernel
theorem dX6_keepEachSecond_45 : decode cX6_keepEachSecond 45 = .ok (.iconst 1, 1) := by decide +kernel
theorem dX6_keepEachSecond_46 : decode cX6_keepEachSecond 46 = .ok (.iadd, 1) := by decide +kernel
theorem dX6_keepEachSecond_47 : decode cX6_keepEachSecond 47 = .ok (.iaload, 1) := by decide +kernel
theorem dX6_keepEachSecond_48 : decode cX6_keepEachSecond 48 = .ok (.iastore, 1) := by decide +kernel
theorem dX6_keepEachSecond_49 : decode cX6_keepEachSecond 49 = .ok (.iinc 1 1, 3) := by decide +kernel
theorem dX6_keepEachSecond_52 : decode cX6_keepEachSecond 52 = .ok (.goto (-40), 3) := by decide +kernel
theorem dX6_keepEachSecond_55 : decode cX6_keepEachSecond 55 = .ok (.return_, 1) := by decide +kernel
def B6_keepEachSecond_12 (h : Nat) (k12 : Int32 → fkS → Option (Unit × fkS)) (v1 : Int32) (st : fkS) : Option (Unit × fkS) :=
 fk_let (gI st 124 h) <| fun x3 =>
 if x3 ≤ v1 then
 (some ((), st))
 else
 (if (16 : Int32) ≤ (((2 : Int32) * v1) + (1 : Int32)) then
 (some ((), st))
 else
 (fk_chk (fk_in (((2 : Int32) * v1) + (1 : Int32)) 16) <| fk_let (gA st (h + 2) (((2 : Int32) * v1) + (1 : Int32)).toNatClampNeg) <| fun x4 =>
 fk_chk (fk_in v1 16) <| fk_let (sA st (h + 2) v1.toNatClampNeg x4) <| fun st5 =>
 k12 (v1 + (1 : Int32)) st5))
set_option maxHeartbeats 1000000 in
set_option maxRecDepth 20000 in
theorem T6_keepEachSecond_12 {g : fkG} {k : fkK} (h : Nat) (hh : kdC h = 6) (hk : fk_ok wC g k RX6 cX6_keepEachSecond 2 none 0 0) (k12 : Int32 → fkS → Option (Unit × fkS)) (H12 : ∀ (v1 : Int32) (st : fkS), fk_J wC g fk_eU k 12 [(0, fk_r g h), (1, .int v1)] [] st (k12 v1 st)) : ∀ (v1 : Int32) (st : fkS), fk_J wC g fk_eU k 12 [(0, fk_r g h), (1, .int v1)] [] st (B6_keepEachSecond_12 h k12 v1 st) := by
  intro v1 st
  unfold B6_keepEachSecond_12
  refine j_iload_n (pc := 12) hk 1 rfl dX6_keepEachSecond_12 ?_
  refine j_aload_n (pc := 13) hk 0 rfl ⟨_, rfl⟩ dX6_keepEachSecond_13 ?_
  refine f_6_24 (pc := 14) hk (hh) dX6_keepEachSecond_14 (fun x3 => ?_)
  refine j_icmp_ge (tgt := 55) (pc := 17) hk (by decide) dX6_keepEachSecond_17 (fun _ => ?_) (fun _ => ?_)
  · exact j_vret (pc := 55) hk dX6_keepEachSecond_55
  · refine j_iconst (pc := 20) hk dX6_keepEachSecond_20 (v := 2) (by decide) ?_
    refine j_iload_n (pc := 21) hk 1 rfl dX6_keepEachSecond_21 ?_
    refine j_imul (pc := 22) hk dX6_keepEachSecond_22 ?_
    refine j_iconst (pc := 23) hk dX6_keepEachSecond_23 (v := 1) (by decide) ?_
    refine j_iadd (pc := 24) hk dX6_keepEachSecond_24 ?_
    refine j_aload_n (pc := 25) hk 0 rfl ⟨_, rfl⟩ dX6_keepEachSecond_25 ?_
    refine f_6_27 (pc := 26) hk (hh) dX6_keepEachSecond_26 ?_
    refine a_ilen (pc := 29) hk (isI_6_5 (hh)) (v := 16) (by decide) dX6_keepEachSecond_29 ?_
    refine j_icmp_ge (tgt := 55) (pc := 30) hk (by decide) dX6_keepEachSecond_30 (fun _ => ?_) (fun _ => ?_)
    · exact j_vret (pc := 55) hk dX6_keepEachSecond_55
    · refine j_aload_n (pc := 33) hk 0 rfl ⟨_, rfl⟩ dX6_keepEachSecond_33 ?_
      refine f_6_27 (pc := 34) hk (hh) dX6_keepEachSecond_34 ?_
      refine j_iload_n (pc := 37) hk 1 rfl dX6_keepEachSecond_37 ?_
      refine j_aload_n (pc := 38) hk 0 rfl ⟨_, rfl⟩ dX6_keepEachSecond_38 ?_
      refine f_6_27 (pc := 39) hk (hh) dX6_keepEachSecond_39 ?_
      refine j_iconst (pc := 42) hk dX6_keepEachSecond_42 (v := 2) (by decide) ?_
      refine j_iload_n (pc := 43) hk 1 rfl dX6_keepEachSecond_43 ?_
      refine j_imul (pc := 44) hk dX6_keepEachSecond_44 ?_
      refine j_iconst (pc := 45) hk dX6_keepEachSecond_45 (v := 1) (by decide) ?_
      refine j_iadd (pc := 46) hk dX6_keepEachSecond_46 ?_
      refine a_iload (pc := 47) hk (isI_6_5 (hh)) dX6_keepEachSecond_47 (fun x4 => ?_)
      refine a_istore (pc := 48) hk (isI_6_5 (hh)) dX6_keepEachSecond_48 (fun st5 => ?_)
      refine j_iinc (dd := (1 : Int32)) (lv' := ((1, .int (v1 + (1 : Int32))) :: [(0, fk_r g h)])) (pc := 49) hk 1 rfl (by decide) (by decide) rfl dX6_keepEachSecond_49 ?_
      refine j_sub hk (lv' := [(0, fk_r g h), (1, .int (v1 + (1 : Int32)))]) [1, 0] rfl ?_
      refine j_goto (tgt := 12) (pc := 52) hk (by decide) dX6_keepEachSecond_52 ?_
      exact j_sub hk [0, 1] rfl (H12 (v1 + (1 : Int32)) st5)
set_option maxHeartbeats 1000000 in
set_option maxRecDepth 20000 in
theorem L6_keepEachSecond_12 {g : fkG} {k : fkK} (h : Nat) (hh : kdC h = 6) (hk : fk_ok wC g k RX6 cX6_keepEachSecond 2 none 0 0) (fu : Nat) : ∀ (v1 : Int32) (st : fkS), fk_J wC g fk_eU k 12 [(0, fk_r g h), (1, .int v1)] [] st (fk_lp1 (B6_keepEachSecond_12 h) fu v1 st) := by
  induction fu with
  | zero =>
    intro v1 st
    exact j_none hk
  | succ fu ih =>
    exact T6_keepEachSecond_12 h hh hk _ ih
def F6_keepEachSecond (h : Nat) (st : fkS) : Option (Unit × fkS) :=
 fk_let (gI st 124 h) <| fun x1 =>
 fk_let (sI st 124 h (x1 / (2 : Int32))) <| fun st2 =>
 fk_lp1 (B6_keepEachSecond_12 h) fk_fuel (0 : Int32) st2
set_option maxHeartbeats 1000000 in
set_option maxRecDepth 20000 in
theorem C6_keepEachSecond (h : Nat) (hh : kdC h = 6) (st : fkS) {g : fkG} (l : Launch) (o : Unit × fkS) (hF : F6_keepEachSecond h st = some o) : fk_C wC yX6_keepEachSecond cX6_keepEachSecond 2 none 0 0 l g [fk_r g h] st (fk_eU o.1) o.2 := by
  refine fk_begin rfl (Nat.le_of_ble_eq_true rfl) (fun k hk => ?_) o hF
  have hk : fk_ok wC g k RX6 cX6_keepEachSecond 2 none 0 0 := hk
  show fk_J wC g fk_eU k 0 [(0, fk_r g h)] [] st (F6_keepEachSecond h st)
  unfold F6_keepEachSecond
  refine j_aload_n (pc := 0) hk 0 rfl ⟨_, rfl⟩ dX6_keepEachSecond_0 ?_
  refine j_dup (pc := 1) hk rfl dX6_keepEachSecond_1 ?_
  refine f_6_24 (pc := 2) hk (hh) dX6_keepEachSecond_2 (fun x1 => ?_)
  refine j_iconst (pc := 5) hk dX6_keepEachSecond_5 (v := 2) (by decide) ?_
  refine j_idiv (pc := 6) hk (show fk_nz (2 : Int32) = true from by decide) dX6_keepEachSecond_6 ?_
  refine p_6_24 (pc := 7) hk (hh) dX6_keepEachSecond_7 (fun st2 => ?_)
  refine j_iconst (pc := 10) hk dX6_keepEachSecond_10 (v := 0) (by decide) ?_
  refine j_istore_n (lv' := ((1, .int (0 : Int32)) :: [(0, fk_r g h)])) (pc := 11) hk rfl (by decide) rfl dX6_keepEachSecond_11 ?_
  refine j_sub hk (lv' := [(0, fk_r g h), (1, .int (0 : Int32))]) [1, 0] rfl ?_
  exact j_sub hk [0, 1] rfl (L6_keepEachSecond_12 h hh hk fk_fuel (0 : Int32) st2)
theorem dX6_speak_0 : decode cX6_speak 0 = .ok (.aload_n 0, 1) := by decide +kernel
theorem dX6_speak_1 : decode cX6_speak 1 = .ok (.aload_n 1, 1) := by decide +kernel
theorem dX6_speak_2 : decode cX6_speak 2 = .ok (.invokevirtual 47, 3) := by decide +kernel
theorem dX6_speak_5 : decode cX6_speak 5 = .ok (.aload_n 0, 1) := by decide +kernel
theorem dX6_speak_6 : decode cX6_speak 6 = .ok (.getfield 9, 3) := by decide +kernel
theorem dX6_speak_9 : decode cX6_speak 9 = .ok (.tableswitch 97 1 6 #[39, 46, 53, 64, 71, 82], 39) := by decide +kernel
theorem dX6_speak_48 : decode cX6_speak 48 = .ok (.aload_n 0, 1) := by decide +kernel
theorem dX6_speak_49 : decode cX6_speak 49 = .ok (.invokevirtual 51, 3) := by decide +kernel
theorem dX6_speak_52 : decode cX6_speak 52 = .ok (.goto 54, 3) := by decide +kernel
theorem dX6_speak_55 : decode cX6_speak 55 = .ok (.aload_n 0, 1) := by decide +kernel
theorem dX6_speak_56 : decode cX6_speak 56 = .ok (.invokevirtual 54, 3) := by decide +kernel
theorem dX6_speak_59 : decode cX6_speak 59 = .ok (.goto 47, 3) := by decide +kernel
theorem dX6_speak_62 : decode cX6_speak 62 = .ok (.aload_n 0, 1) := by decide +kernel
theorem dX6_speak_63 : decode cX6_speak 63 = .ok (.invokevirtual 51, 3) := by decide +kernel
theorem dX6_speak_66 : decode cX6_speak 66 = .ok (.aload_n 0, 1) := by decide +kernel
theorem dX6_speak_67 : decode cX6_speak 67 = .ok (.invokevirtual 57, 3) := by decide +kernel
theorem dX6_speak_70 : decode cX6_speak 70 = .ok (.goto 36, 3) := by decide +kernel
theorem dX6_speak_73 : decode cX6_speak 73 = .ok (.aload_n 0, 1) := by decide +kernel
theorem dX6_speak_74 : decode cX6_speak 74 = .ok (.invokevirtual 60, 3) := by decide +kernel
theorem dX6_speak_77 : decode cX6_speak 77 = .ok (.goto 29, 3) := by decide +kernel
theorem dX6_speak_80 : decode cX6_speak 80 = .ok (.aload_n 0, 1) := by decide +kernel
theorem dX6_speak_81 : decode cX6_speak 81 = .ok (.invokevirtual 54, 3) := by decide +kernel
theorem dX6_speak_84 : decode cX6_speak 84 = .ok (.aload_n 0, 1) := by decide +kernel
theorem dX6_speak_85 : decode cX6_speak 85 = .ok (.invokevirtual 63, 3) := by decide +kernel
theorem dX6_speak_88 : decode cX6_speak 88 = .ok (.goto 18, 3) := by decide +kernel
theorem dX6_speak_91 : decode cX6_speak 91 = .ok (.aload_n 0, 1) := by decide +kernel
theorem dX6_speak_92 : decode cX6_speak 92 = .ok (.invokevirtual 51, 3) := by decide +kernel
theorem dX6_speak_95 : decode cX6_speak 95 = .ok (.aload_n 0, 1) := by decide +kernel
theorem dX6_speak_96 : decode cX6_speak 96 = .ok (.invokevirtual 57, 3) := by decide +kernel
theorem dX6_speak_99 : decode cX6_speak 99 = .ok (.aload_n 0, 1) := by decide +kernel
theorem dX6_speak_100 : decode cX6_speak 100 = .ok (.invokevirtual 66, 3) := by decide +kernel
theorem dX6_speak_103 : decode cX6_speak 103 = .ok (.goto 3, 3) := by decide +kernel
theorem dX6_speak_106 : decode cX6_speak 106 = .ok (.return_, 1) := by decide +kernel
def F6_speak (h : Nat) (st : fkS) : Option (Unit × fkS) :=
 fk_bind (F6_sayLayers h st) <| fun _ st1 =>
 fk_let (gI st1 120 h) <| fun x2 =>
 if x2 = (1 : Int32) then
 (fk_bind (F6_chip h st1) <| fun _ st4 =>
 some ((), st4))
 else
 (if x2 = (2 : Int32) then
 (fk_bind (F6_turn h st1) <| fun _ st6 =>
 some ((), st6))
 else
 (if x2 = (3 : Int32) then
 (fk_bind (F6_chip h st1) <| fun _ st8 =>
 fk_bind (F6_raise h st8) <| fun _ st9 =>
 some ((), st9))
 else
 (if x2 = (4 : Int32) then
 (fk_bind (F6_order h st1) <| fun _ st11 =>
 some ((), st11))
 else
 (if x2 = (5 : Int32) then
 (fk_bind (F6_turn h st1) <| fun _ st13 =>
 fk_bind (F6_doubleEach h st13) <| fun _ st14 =>
 some ((), st14))
 else
 (if x2 = (6 : Int32) then
 (fk_bind (F6_chip h st1) <| fun _ st16 =>
 fk_bind (F6_raise h st16) <| fun _ st17 =>
 fk_bind (F6_keepEachSecond h st17) <| fun _ st18 =>
 some ((), st18))
 else
 (some ((), st1)))))))
set_option maxHeartbeats 1000000 in
set_option maxRecDepth 20000 in
theorem C6_speak (h : Nat) (hh : kdC h = 6) (st : fkS) {g : fkG} (l : Launch) (o : Unit × fkS) (hF : F6_speak h st = some o) : fk_C wC yX6_speak cX6_speak 2 none 2 122 l g [fk_r g h, fk_r g 38] st (fk_eU o.1) o.2 := by
  refine fk_begin rfl (Nat.le_of_ble_eq_true rfl) (fun k hk => ?_) o hF
  have hk : fk_ok wC g k RX6 cX6_speak 2 none 2 122 := hk
  show fk_J wC g fk_eU k 0 [(0, fk_r g h), (1, fk_r g 38)] [] st (F6_speak h st)
  unfold F6_speak
  refine j_aload_n (pc := 0) hk 0 rfl ⟨_, rfl⟩ dX6_speak_0 ?_
  refine j_aload_n (pc := 1) hk 1 rfl ⟨_, rfl⟩ dX6_speak_1 ?_
  refine j_callVv (pc := 2) hk [fk_r g 38] [] rfl (fun l o hq9 => C6_sayLayers h (hh) st l o hq9) (rcv_6 (hh)) yv_X6_sayLayers ml_6_47 rfl (Nat.le_of_ble_eq_true rfl) (Nat.le_of_ble_eq_true rfl) (Nat.le_of_ble_eq_true rfl) dX6_speak_2 (fun _ st1 => ?_)
  refine j_aload_n (pc := 5) hk 0 rfl ⟨_, rfl⟩ dX6_speak_5 ?_
  refine f_6_9 (pc := 6) hk (hh) dX6_speak_6 (fun x2 => ?_)
  refine j_case (pc := 9) hk (fun n3 => ?_) (fun n3 => ?_)
  · refine j_tswIn (off := 39) (tgt := 48) (pc := 9) hk (by rw [n3]; decide) (by rw [n3]; decide) (by rw [n3]; decide) (by decide) dX6_speak_9 ?_
    refine j_aload_n (pc := 48) hk 0 rfl ⟨_, rfl⟩ dX6_speak_48 ?_
    refine j_callVv (pc := 49) hk [] [] rfl (fun l o hq9 => C6_chip h (hh) st1 l o hq9) (rcv_6 (hh)) yv_X6_chip ml_6_51 rfl (Nat.le_of_ble_eq_true rfl) (Nat.le_of_ble_eq_true rfl) (Nat.le_of_ble_eq_true rfl) dX6_speak_49 (fun _ st4 => ?_)
    refine j_goto (tgt := 106) (pc := 52) hk (by decide) dX6_speak_52 ?_
    exact j_vret (pc := 106) hk dX6_speak_106
  · refine j_case (pc := 9) hk (fun n5 => ?_) (fun n5 => ?_)
    · refine j_tswIn (off := 46) (tgt := 55) (pc := 9) hk (by rw [n5]; decide) (by rw [n5]; decide) (by rw [n5]; decide) (by decide) dX6_speak_9 ?_
      refine j_aload_n (pc := 55) hk 0 rfl ⟨_, rfl⟩ dX6_speak_55 ?_
      refine j_callVv (pc := 56) hk [] [] rfl (fun l o hq9 => C6_turn h (hh) st1 l o hq9) (rcv_6 (hh)) yv_X6_turn ml_6_54 rfl (Nat.le_of_ble_eq_true rfl) (Nat.le_of_ble_eq_true rfl) (Nat.le_of_ble_eq_true rfl) dX6_speak_56 (fun _ st6 => ?_)
      refine j_goto (tgt := 106) (pc := 59) hk (by decide) dX6_speak_59 ?_
      exact j_vret (pc := 106) hk dX6_speak_106
    · refine j_case (pc := 9) hk (fun n7 => ?_) (fun n7 => ?_)
      · refine j_tswIn (off := 53) (tgt := 62) (pc := 9) hk (by rw [n7]; decide) (by rw [n7]; decide) (by rw [n7]; decide) (by decide) dX6_speak_9 ?_
        refine j_aload_n (pc := 62) hk 0 rfl ⟨_, rfl⟩ dX6_speak_62 ?_
        refine j_callVv (pc := 63) hk [] [] rfl (fun l o hq9 => C6_chip h (hh) st1 l o hq9) (rcv_6 (hh)) yv_X6_chip ml_6_51 rfl (Nat.le_of_ble_eq_true rfl) (Nat.le_of_ble_eq_true rfl) (Nat.le_of_ble_eq_true rfl) dX6_speak_63 (fun _ st8 => ?_)
        refine j_aload_n (pc := 66) hk 0 rfl ⟨_, rfl⟩ dX6_speak_66 ?_
        refine j_callVv (pc := 67) hk [] [] rfl (fun l o hq9 => C6_raise h (hh) st8 l o hq9) (rcv_6 (hh)) yv_X6_raise ml_6_57 rfl (Nat.le_of_ble_eq_true rfl) (Nat.le_of_ble_eq_true rfl) (Nat.le_of_ble_eq_true rfl) dX6_speak_67 (fun _ st9 => ?_)
        refine j_goto (tgt := 106) (pc := 70) hk (by decide) dX6_speak_70 ?_
        exact j_vret (pc := 106) hk dX6_speak_106
      · refine j_case (pc := 9) hk (fun n10 => ?_) (fun n10 => ?_)
        · refine j_tswIn (off := 64) (tgt := 73) (pc := 9) hk (by rw [n10]; decide) (by rw [n10]; decide) (by rw [n10]; decide) (by decide) dX6_speak_9 ?_
          refine j_aload_n (pc := 73) hk 0 rfl ⟨_, rfl⟩ dX6_speak_73 ?_
          refine j_callVv (pc := 74) hk [] [] rfl (fun l o hq9 => C6_order h (hh) st1 l o hq9) (rcv_6 (hh)) yv_X6_order ml_6_60 rfl (Nat.le_of_ble_eq_true rfl) (Nat.le_of_ble_eq_true rfl) (Nat.le_of_ble_eq_true rfl) dX6_speak_74 (fun _ st11 => ?_)
          refine j_goto (tgt := 106) (pc := 77) hk (by decide) dX6_speak_77 ?_
          exact j_vret (pc := 106) hk dX6_speak_106
        · refine j_case (pc := 9) hk (fun n12 => ?_) (fun n12 => ?_)
          · refine j_tswIn (off := 71) (tgt := 80) (pc := 9) hk (by rw [n12]; decide) (by rw [n12]; decide) (by rw [n12]; decide) (by decide) dX6_speak_9 ?_
            refine j_aload_n (pc := 80) hk 0 rfl ⟨_, rfl⟩ dX6_speak_80 ?_
            refine j_callVv (pc := 81) hk [] [] rfl (fun l o hq9 => C6_turn h (hh) st1 l o hq9) (rcv_6 (hh)) yv_X6_turn ml_6_54 rfl (Nat.le_of_ble_eq_true rfl) (Nat.le_of_ble_eq_true rfl) (Nat.le_of_ble_eq_true rfl) dX6_speak_81 (fun _ st13 => ?_)
            refine j_aload_n (pc := 84) hk 0 rfl ⟨_, rfl⟩ dX6_speak_84 ?_
            refine j_callVv (pc := 85) hk [] [] rfl (fun l o hq9 => C6_doubleEach h (hh) st13 l o hq9) (rcv_6 (hh)) yv_X6_doubleEach ml_6_63 rfl (Nat.le_of_ble_eq_true rfl) (Nat.le_of_ble_eq_true rfl) (Nat.le_of_ble_eq_true rfl) dX6_speak_85 (fun _ st14 => ?_)
            refine j_goto (tgt := 106) (pc := 88) hk (by decide) dX6_speak_88 ?_
            exact j_vret (pc := 106) hk dX6_speak_106
          · refine j_case (pc := 9) hk (fun n15 => ?_) (fun n15 => ?_)
            · refine j_tswIn (off := 82) (tgt := 91) (pc := 9) hk (by rw [n15]; decide) (by rw [n15]; decide) (by rw [n15]; decide) (by decide) dX6_speak_9 ?_
              refine j_aload_n (pc := 91) hk 0 rfl ⟨_, rfl⟩ dX6_speak_91 ?_
              refine j_callVv (pc := 92) hk [] [] rfl (fun l o hq9 => C6_chip h (hh) st1 l o hq9) (rcv_6 (hh)) yv_X6_chip ml_6_51 rfl (Nat.le_of_ble_eq_true rfl) (Nat.le_of_ble_eq_true rfl) (Nat.le_of_ble_eq_true rfl) dX6_speak_92 (fun _ st16 => ?_)
              refine j_aload_n (pc := 95) hk 0 rfl ⟨_, rfl⟩ dX6_speak_95 ?_
              refine j_callVv (pc := 96) hk [] [] rfl (fun l o hq9 => C6_raise h (hh) st16 l o hq9) (rcv_6 (hh)) yv_X6_raise ml_6_57 rfl (Nat.le_of_ble_eq_true rfl) (Nat.le_of_ble_eq_true rfl) (Nat.le_of_ble_eq_true rfl) dX6_speak_96 (fun _ st17 => ?_)
              refine j_aload_n (pc := 99) hk 0 rfl ⟨_, rfl⟩ dX6_speak_99 ?_
              refine j_callVv (pc := 100) hk [] [] rfl (fun l o hq9 => C6_keepEachSecond h (hh) st17 l o hq9) (rcv_6 (hh)) yv_X6_keepEachSecond ml_6_66 rfl (Nat.le_of_ble_eq_true rfl) (Nat.le_of_ble_eq_true rfl) (Nat.le_of_ble_eq_true rfl) dX6_speak_100 (fun _ st18 => ?_)
              refine j_goto (tgt := 106) (pc := 103) hk (by decide) dX6_speak_103 ?_
              exact j_vret (pc := 106) hk dX6_speak_106
            · have mn3 := lv_neT (a := 1) n3 (by decide)
              have mn5 := lv_neT (a := 2) n5 (by decide)
              have mn7 := lv_neT (a := 3) n7 (by decide)
              have mn10 := lv_neT (a := 4) n10 (by decide)
              have mn12 := lv_neT (a := 5) n12 (by decide)
              have mn15 := lv_neT (a := 6) n15 (by decide)
              refine j_tswOut (tgt := 106) (pc := 9) hk (by omega) (by decide) dX6_speak_9 ?_
              exact j_vret (pc := 106) hk dX6_speak_106
theorem dX6_sign_0 : decode cX6_sign 0 = .ok (.iload_n 1, 1) := by decide +kernel
theorem dX6_sign_1 : decode cX6_sign 1 = .ok (.ifCond .lt 20, 3) := by decide +kernel
theorem dX6_sign_4 : decode cX6_sign 4 = .ok (.iload_n 1, 1) := by decide +kernel
theorem dX6_sign_5 : decode cX6_sign 5 = .ok (.aload_n 0, 1) := by decide +kernel
theorem dX6_sign_6 : decode cX6_sign 6 = .ok (.getfield 24, 3) := by decide +kernel
theorem dX6_sign_9 : decode cX6_sign 9 = .ok (.if_icmp .ge 12, 3) := by decide +kernel
theorem dX6_sign_12 : decode cX6_sign 12 = .ok (.iload_n 1, 1) := by decide +kernel
theorem dX6_sign_13 : decode cX6_sign 13 = .ok (.aload_n 0, 1) := by decide +kernel
theorem dX6_sign_14 : decode cX6_sign 14 = .ok (.getfield 27, 3) := by decide +kernel
theorem dX6_sign_17 : decode cX6_sign 17 = .ok (.arraylength, 1) := by decide +kernel
theorem dX6_sign_18 : decode cX6_sign 18 = .ok (.if_icmp .lt 7, 3) := by decide +kernel
theorem dX6_sign_21 : decode cX6_sign 21 = .ok (.iconst (-1), 1) := by decide +kernel
theorem dX6_sign_22 : decode cX6_sign 22 = .ok (.goto 9, 3) := by decide +kernel
theorem dX6_sign_25 : decode cX6_sign 25 = .ok (.aload_n 0, 1) := by decide +kernel
theorem dX6_sign_26 : decode cX6_sign 26 = .ok (.getfield 27, 3) := by decide +kernel
theorem dX6_sign_29 : decode cX6_sign 29 = .ok (.iload_n 1, 1) := by decide +kernel
theorem dX6_sign_30 : decode cX6_sign 30 = .ok (.iaload, 1) := by decide +kernel
theorem dX6_sign_31 : decode cX6_sign 31 = .ok (.ireturn, 1) := by decide +kernel
def F6_sign (h : Nat) (p1 : Int32) (st : fkS) : Option (Int32 × fkS) :=
 if p1 < 0 then
 (some ((-1 : Int32), st))
 else
 (fk_let (gI st 124 h) <| fun x1 =>
 if x1 ≤ p1 then
 (some ((-1 : Int32), st))
 else
 (if p1 < (16 : Int32) then
 (fk_chk (fk_in p1 16) <| fk_let (gA st (h + 2) p1.toNatClampNeg) <| fun x2 =>
 some (x2, st))
 else
 (some ((-1 : Int32), st))))
set_option maxHeartbeats 1000000 in
set_option maxRecDepth 20000 in
theorem C6_sign (h : Nat) (hh : kdC h = 6) (p1 : Int32) (st : fkS) {g : fkG} (l : Launch) (o : Int32 × fkS) (hF : F6_sign h p1 st = some o) : fk_C wC yX6_sign cX6_sign 2 (some (.int)) 0 0 l g [fk_r g h, .int p1] st (fk_eI o.1) o.2 := by
  refine fk_begin rfl (Nat.le_of_ble_eq_true rfl) (fun k hk => ?_) o hF
  have hk : fk_ok wC g k RX6 cX6_sign 2 (some (.int)) 0 0 := hk
  show fk_J wC g fk_eI k 0 [(0, fk_r g h), (1, .int p1)] [] st (F6_sign h p1 st)
  unfold F6_sign
  refine j_iload_n (pc := 0) hk 1 rfl dX6_sign_0 ?_
  refine j_if_lt (tgt := 21) (pc := 1) hk (by decide) dX6_sign_1 (fun _ => ?_) (fun _ => ?_)
  · refine j_iconst (pc := 21) hk dX6_sign_21 (v := -1) (by decide) ?_
    refine j_goto (tgt := 31) (pc := 22) hk (by decide) dX6_sign_22 ?_
    exact j_iret (pc := 31) hk dX6_sign_31
  · refine j_iload_n (pc := 4) hk 1 rfl dX6_sign_4 ?_
    refine j_aload_n (pc := 5) hk 0 rfl ⟨_, rfl⟩ dX6_sign_5 ?_
    refine f_6_24 (pc := 6) hk (hh) dX6_sign_6 (fun x1 => ?_)
    refine j_icmp_ge (tgt := 21) (pc := 9) hk (by decide) dX6_sign_9 (fun _ => ?_) (fun _ => ?_)
    · refine j_iconst (pc := 21) hk dX6_sign_21 (v := -1) (by decide) ?_
      refine j_goto (tgt := 31) (pc := 22) hk (by decide) dX6_sign_22 ?_
      exact j_iret (pc := 31) hk dX6_sign_31
    · refine j_iload_n (pc := 12) hk 1 rfl dX6_sign_12 ?_
      refine j_aload_n (pc := 13) hk 0 rfl ⟨_, rfl⟩ dX6_sign_13 ?_
      refine f_6_27 (pc := 14) hk (hh) dX6_sign_14 ?_
      refine a_ilen (pc := 17) hk (isI_6_5 (hh)) (v := 16) (by decide) dX6_sign_17 ?_
      refine j_icmp_lt (tgt := 25) (pc := 18) hk (by decide) dX6_sign_18 (fun _ => ?_) (fun _ => ?_)
      · refine j_aload_n (pc := 25) hk 0 rfl ⟨_, rfl⟩ dX6_sign_25 ?_
        refine f_6_27 (pc := 26) hk (hh) dX6_sign_26 ?_
        refine j_iload_n (pc := 29) hk 1 rfl dX6_sign_29 ?_
        refine a_iload (pc := 30) hk (isI_6_5 (hh)) dX6_sign_30 (fun x2 => ?_)
        exact j_iret (pc := 31) hk dX6_sign_31
      · refine j_iconst (pc := 21) hk dX6_sign_21 (v := -1) (by decide) ?_
        refine j_goto (tgt := 31) (pc := 22) hk (by decide) dX6_sign_22 ?_
        exact j_iret (pc := 31) hk dX6_sign_31
theorem dX6_saysJust_0 : decode cX6_saysJust 0 = .ok (.aload_n 0, 1) := by decide +kernel
theorem dX6_saysJust_1 : decode cX6_saysJust 1 = .ok (.getfield 24, 3) := by decide +kernel
theorem dX6_saysJust_4 : decode cX6_saysJust 4 = .ok (.aload_n 1, 1) := by decide +kernel
theorem dX6_saysJust_5 : decode cX6_saysJust 5 = .ok (.getfield 91, 3) := by decide +kernel
theorem dX6_saysJust_8 : decode cX6_saysJust 8 = .ok (.if_icmp .eq 5, 3) := by decide +kernel
theorem dX6_saysJust_11 : decode cX6_saysJust 11 = .ok (.iconst 0, 1) := by decide +kernel
theorem dX6_saysJust_12 : decode cX6_saysJust 12 = .ok (.ireturn, 1) := by decide +kernel
theorem dX6_saysJust_13 : decode cX6_saysJust 13 = .ok (.iconst 0, 1) := by decide +kernel
theorem dX6_saysJust_14 : decode cX6_saysJust 14 = .ok (.istore_n 2, 1) := by decide +kernel
theorem dX6_saysJust_15 : decode cX6_saysJust 15 = .ok (.iload_n 2, 1) := by decide +kernel
theorem dX6_saysJust_16 : decode cX6_saysJust 16 = .ok (.aload_n 0, 1) := by decide +kernel
theorem dX6_saysJust_17 : decode cX6_saysJust 17 = .ok (.getfield 24, 3) := by decide +kernel
theorem dX6_saysJust_20 : decode cX6_saysJust 20 = .ok (.if_icmp .ge 34, 3) := by decide +kernel
theorem dX6_saysJust_23 : decode cX6_saysJust 23 = .ok (.iload_n 2, 1) := by decide +kernel
theorem dX6_saysJust_24 : decode cX6_saysJust 24 = .ok (.aload_n 0, 1) := by decide +kernel
theorem dX6_saysJust_25 : decode cX6_saysJust 25 = .ok (.getfield 27, 3) := by decide +kernel
theorem dX6_saysJust_28 : decode cX6_saysJust 28 = .ok (.arraylength, 1) := by decide +kernel
theorem dX6_saysJust_29 : decode cX6_saysJust 29 = .ok (.if_icmp .ge 25, 3) := by decide +kernel
theorem dX6_saysJust_32 : decode cX6_saysJust 32 = .ok (.aload_n 0, 1) := by decide +kernel
theorem dX6_saysJust_33 : decode cX6_saysJust 33 = .ok (.getfield 27, 3) := by decide +kernel
theorem dX6_saysJust_36 : decode cX6_saysJust 36 = .ok (.iload_n 2, 1) := by decide +kernel
theorem dX6_saysJust_37 : decode cX6_saysJust 37 = .ok (.iaload, 1) := by decide +kernel
theorem dX6_saysJust_38 : decode cX6_saysJust 38 = .ok (.aload_n 1, 1) := by decide +kernel
theorem dX6_saysJust_39 : decode cX6_saysJust 39 = .ok (.iload_n 2, 1) := by decide +kernel
theorem dX6_saysJust_40 : decode cX6_saysJust 40 = .ok (.invokevirtual 96, 3) := by decide +kernel
theorem dX6_saysJust_43 : decode cX6_saysJust 43 = .ok (.if_icmp .eq 5, 3) := by decide +kernel
theorem dX6_saysJust_46 : decode cX6_saysJust 46 = .ok (.iconst 0, 1) := by decide +kernel
theorem dX6_saysJust_47 : decode cX6_saysJust 47 = .ok (.ireturn, 1) := by decide +kernel
theorem dX6_saysJust_48 : decode cX6_saysJust 48 = .ok (.iinc 2 1, 3) := by decide +kernel
theorem dX6_saysJust_51 : decode cX6_saysJust 51 = .ok (.goto (-36), 3) := by decide +kernel
theorem dX6_saysJust_54 : decode cX6_saysJust 54 = .ok (.iconst 1, 1) := by decide +kernel
theorem dX6_saysJust_55 : decode cX6_saysJust 55 = .ok (.ireturn, 1) := by decide +kernel
def B6_saysJust_15 (h : Nat) (o1 : Nat) (k15 : Int32 → fkS → Option (Int32 × fkS)) (v2 : Int32) (st : fkS) : Option (Int32 × fkS) :=
 fk_let (gI st 124 h) <| fun x3 =>
 if x3 ≤ v2 then
 (some ((1 : Int32), st))
 else
 (if (16 : Int32) ≤ v2 then
 (some ((1 : Int32), st))
 else
 (fk_chk (fk_in v2 16) <| fk_let (gA st (h + 2) v2.toNatClampNeg) <| fun x4 =>
 fk_bind (F5_number o1 v2 st) <| fun x5 st6 =>
 if x4 = x5 then
 (k15 (v2 + (1 : Int32)) st6)
 else
 (some ((0 : Int32), st6))))
set_option maxHeartbeats 1000000 in
set_option maxRecDepth 20000 in
theorem T6_saysJust_15 {g : fkG} {k : fkK} (h : Nat) (o1 : Nat) (hh : kdC h = 6) (ho1 : kdC o1 = 5) (hk : fk_ok wC g k RX6 cX6_saysJust 3 (some (.boolean)) 2 42) (k15 : Int32 → fkS → Option (Int32 × fkS)) (H15 : ∀ (v2 : Int32) (st : fkS), fk_J wC g fk_eI k 15 [(0, fk_r g h), (1, fk_r g o1), (2, .int v2)] [] st (k15 v2 st)) : ∀ (v2 : Int32) (st : fkS), fk_J wC g fk_eI k 15 [(0, fk_r g h), (1, fk_r g o1), (2, .int v2)] [] st (B6_saysJust_15 h o1 k15 v2 st) := by
  intro v2 st
  unfold B6_saysJust_15
  refine j_iload_n (pc := 15) hk 2 rfl dX6_saysJust_15 ?_
  refine j_aload_n (pc := 16) hk 0 rfl ⟨_, rfl⟩ dX6_saysJust_16 ?_
  refine f_6_24 (pc := 17) hk (hh) dX6_saysJust_17 (fun x3 => ?_)
  refine j_icmp_ge (tgt := 54) (pc := 20) hk (by decide) dX6_saysJust_20 (fun _ => ?_) (fun _ => ?_)
  · refine j_iconst (pc := 54) hk dX6_saysJust_54 (v := 1) (by decide) ?_
    exact j_zret (pc := 55) hk rfl dX6_saysJust_55
  · refine j_iload_n (pc := 23) hk 2 rfl dX6_saysJust_23 ?_
    refine j_aload_n (pc := 24) hk 0 rfl ⟨_, rfl⟩ dX6_saysJust_24 ?_
    refine f_6_27 (pc := 25) hk (hh) dX6_saysJust_25 ?_
    refine a_ilen (pc := 28) hk (isI_6_5 (hh)) (v := 16) (by decide) dX6_saysJust_28 ?_
    refine j_icmp_ge (tgt := 54) (pc := 29) hk (by decide) dX6_saysJust_29 (fun _ => ?_) (fun _ => ?_)
    · refine j_iconst (pc := 54) hk dX6_saysJust_54 (v := 1) (by decide) ?_
      exact j_zret (pc := 55) hk rfl dX6_saysJust_55
    · refine j_aload_n (pc := 32) hk 0 rfl ⟨_, rfl⟩ dX6_saysJust_32 ?_
      refine f_6_27 (pc := 33) hk (hh) dX6_saysJust_33 ?_
      refine j_iload_n (pc := 36) hk 2 rfl dX6_saysJust_36 ?_
      refine a_iload (pc := 37) hk (isI_6_5 (hh)) dX6_saysJust_37 (fun x4 => ?_)
      refine j_aload_n (pc := 38) hk 1 rfl ⟨_, rfl⟩ dX6_saysJust_38 ?_
      refine j_iload_n (pc := 39) hk 2 rfl dX6_saysJust_39 ?_
      refine j_callVNi (pc := 40) hk [.int v2] [.int x4] rfl (fun l o hq9 => C5_number o1 (ho1) v2 st l o hq9) (rcv_5 (ho1)) yv_X5_number ml_6_96 rfl (Nat.le_of_ble_eq_true rfl) (Nat.le_of_ble_eq_true rfl) (Nat.le_of_ble_eq_true rfl) dX6_saysJust_40 (fun x5 st6 => ?_)
      refine j_icmp_eq (tgt := 48) (pc := 43) hk (by decide) dX6_saysJust_43 (fun _ => ?_) (fun _ => ?_)
      · refine j_iinc (dd := (1 : Int32)) (lv' := ((2, .int (v2 + (1 : Int32))) :: [(0, fk_r g h), (1, fk_r g o1)])) (pc := 48) hk 2 rfl (by decide) (by decide) rfl dX6_saysJust_48 ?_
        refine j_sub hk (lv' := [(0, fk_r g h), (1, fk_r g o1), (2, .int (v2 + (1 : Int32)))]) [1, 2, 0] rfl ?_
        refine j_goto (tgt := 15) (pc := 51) hk (by decide) dX6_saysJust_51 ?_
        exact j_sub hk [0, 1, 2] rfl (H15 (v2 + (1 : Int32)) st6)
      · refine j_iconst (pc := 46) hk dX6_saysJust_46 (v := 0) (by decide) ?_
        exact j_zret (pc := 47) hk rfl dX6_saysJust_47
set_option maxHeartbeats 1000000 in
set_option maxRecDepth 20000 in
theorem L6_saysJust_15 {g : fkG} {k : fkK} (h : Nat) (o1 : Nat) (hh : kdC h = 6) (ho1 : kdC o1 = 5) (hk : fk_ok wC g k RX6 cX6_saysJust 3 (some (.boolean)) 2 42) (fu : Nat) : ∀ (v2 : Int32) (st : fkS), fk_J wC g fk_eI k 15 [(0, fk_r g h), (1, fk_r g o1), (2, .int v2)] [] st (fk_lp1 (B6_saysJust_15 h o1) fu v2 st) := by
  induction fu with
  | zero =>
    intro v2 st
    exact j_none hk
  | succ fu ih =>
    exact T6_saysJust_15 h o1 hh ho1 hk _ ih
def F6_saysJust (h : Nat) (o1 : Nat) (st : fkS) : Option (Int32 × fkS) :=
 fk_let (gI st 124 h) <| fun x1 =>
 fk_let (gI st 103 o1) <| fun x2 =>
 if x1 = x2 then
 (fk_lp1 (B6_saysJust_15 h o1) fk_fuel (0 : Int32) st)
 else
 (some ((0 : Int32), st))
set_option maxHeartbeats 1000000 in
set_option maxRecDepth 20000 in
theorem C6_saysJust (h : Nat) (o1 : Nat) (hh : kdC h = 6) (ho1 : kdC o1 = 5) (st : fkS) {g : fkG} (l : Launch) (o : Int32 × fkS) (hF : F6_saysJust h o1 st = some o) : fk_C wC yX6_saysJust cX6_saysJust 3 (some (.boolean)) 2 42 l g [fk_r g h, fk_r g o1] st (fk_eI o.1) o.2 := by
  refine fk_begin rfl (Nat.le_of_ble_eq_true rfl) (fun k hk => ?_) o hF
  have hk : fk_ok wC g k RX6 cX6_saysJust 3 (some (.boolean)) 2 42 := hk
  show fk_J wC g fk_eI k 0 [(0, fk_r g h), (1, fk_r g o1)] [] st (F6_saysJust h o1 st)
  unfold F6_saysJust
  refine j_aload_n (pc := 0) hk 0 rfl ⟨_, rfl⟩ dX6_saysJust_0 ?_
  refine f_6_24 (pc := 1) hk (hh) dX6_saysJust_1 (fun x1 => ?_)
  refine j_aload_n (pc := 4) hk 1 rfl ⟨_, rfl⟩ dX6_saysJust_4 ?_
  refine f_6_91 (pc := 5) hk (ho1) dX6_saysJust_5 (fun x2 => ?_)
  refine j_icmp_eq (tgt := 13) (pc := 8) hk (by decide) dX6_saysJust_8 (fun _ => ?_) (fun _ => ?_)
  · refine j_iconst (pc := 13) hk dX6_saysJust_13 (v := 0) (by decide) ?_
    refine j_istore_n (lv' := ((2, .int (0 : Int32)) :: [(0, fk_r g h), (1, fk_r g o1)])) (pc := 14) hk rfl (by decide) rfl dX6_saysJust_14 ?_
    refine j_sub hk (lv' := [(0, fk_r g h), (1, fk_r g o1), (2, .int (0 : Int32))]) [1, 2, 0] rfl ?_
    exact j_sub hk [0, 1, 2] rfl (L6_saysJust_15 h o1 hh ho1 hk fk_fuel (0 : Int32) st)
  · refine j_iconst (pc := 11) hk dX6_saysJust_11 (v := 0) (by decide) ?_
    exact j_zret (pc := 12) hk rfl dX6_saysJust_12
theorem dX6_saysSame_0 : decode cX6_saysSame 0 = .ok (.aload_n 0, 1) := by decide +kernel
theorem dX6_saysSame_1 : decode cX6_saysSame 1 = .ok (.getfield 24, 3) := by decide +kernel
theorem dX6_saysSame_4 : decode cX6_saysSame 4 = .ok (.aload_n 1, 1) := by decide +kernel
theorem dX6_saysSame_5 : decode cX6_saysSame 5 = .ok (.getfield 24, 3) := by decide +kernel
theorem dX6_saysSame_8 : decode cX6_saysSame 8 = .ok (.if_icmp .eq 5, 3) := by decide +kernel
theorem dX6_saysSame_11 : decode cX6_saysSame 11 = .ok (.iconst 0, 1) := by decide +kernel
theorem dX6_saysSame_12 : decode cX6_saysSame 12 = .ok (.ireturn, 1) := by decide +kernel
theorem dX6_saysSame_13 : decode cX6_saysSame 13 = .ok (.iconst 0, 1) := by decide +kernel
theorem dX6_saysSame_14 : decode cX6_saysSame 14 = .ok (.istore_n 2, 1) := by decide +kernel
theorem dX6_saysSame_15 : decode cX6_saysSame 15 = .ok (.iload_n 2, 1) := by decide +kernel
theorem dX6_saysSame_16 : decode cX6_saysSame 16 = .ok (.aload_n 0, 1) := by decide +kernel
theorem dX6_saysSame_17 : decode cX6_saysSame 17 = .ok (.getfield 24, 3) := by decide +kernel
theorem dX6_saysSame_20 : decode cX6_saysSame 20 = .ok (.if_icmp .ge 44, 3) := by decide +kernel
theorem dX6_saysSame_23 : decode cX6_saysSame 23 = .ok (.iload_n 2, 1) := by decide +kernel
theorem dX6_saysSame_24 : decode cX6_saysSame 24 = .ok (.aload_n 0, 1) := by decide +kernel
theorem dX6_saysSame_25 : decode cX6_saysSame 25 = .ok (.getfield 27, 3) := by decide +kernel
theorem dX6_saysSame_28 : decode cX6_saysSame 28 = .ok (.arraylength, 1) := by decide +kernel
theorem dX6_saysSame_29 : decode cX6_saysSame 29 = .ok (.if_icmp .ge 35, 3) := by decide +kernel
theorem dX6_saysSame_32 : decode cX6_saysSame 32 = .ok (.iload_n 2, 1) := by decide +kernel
theorem dX6_saysSame_33 : decode cX6_saysSame 33 = .ok (.aload_n 1, 1) := by decide +kernel
theorem dX6_saysSame_34 : decode cX6_saysSame 34 = .ok (.getfield 27, 3) := by decide +kernel
theorem dX6_saysSame_37 : decode cX6_saysSame 37 = .ok (.arraylength, 1) := by decide +kernel
theorem dX6_saysSame_38 : decode cX6_saysSame 38 = .ok (.if_icmp .ge 26, 3) := by decide +kernel
theorem dX6_saysSame_41 : decode cX6_saysSame 41 = .ok (.aload_n 0, 1) := by decide +kernel
theorem dX6_saysSame_42 : decode cX6_saysSame 42 = .ok (.getfield 27, 3) := by decide +kernel
theorem dX6_saysSame_45 : decode cX6_saysSame 45 = .ok (.iload_n 2, 1) := by decide +kernel
theorem dX6_saysSame_46 : decode cX6_saysSame 46 = .ok (.iaload, 1) := by decide +kernel
theorem dX6_saysSame_47 : decode cX6_saysSame 47 = .ok (.aload_n 1, 1) := by decide +kernel
theorem dX6_saysSame_48 : decode cX6_saysSame 48 = .ok (.getfield 27, 3) := by decide +kernel
theorem dX6_saysSame_51 : decode cX6_saysSame 51 = .ok (.iload_n 2, 1) := by decide +kernel
theorem dX6_saysSame_52 : decode cX6_saysSame 52 = .ok (.iaload, 1) := by decide +kernel
theorem dX6_saysSame_53 : decode cX6_saysSame 53 = .ok (.if_icmp .eq 5, 3) := by decide +kernel
theorem dX6_saysSame_56 : decode cX6_saysSame 56 = .ok (.iconst 0, 1) := by decide +kernel
theorem dX6_saysSame_57 : decode cX6_saysSame 57 = .ok (.ireturn, 1) := by decide +kernel
theorem dX6_saysSame_58 : decode cX6_saysSame 58 = .ok (.iinc 2 1, 3) := by decide +kernel
theorem dX6_saysSame_61 : decode cX6_saysSame 61 = .ok (.goto (-46), 3) := by decide +kernel
theorem dX6_saysSame_64 : decode cX6_saysSame 64 = .ok (.iconst 1, 1) := by decide +kernel
theorem dX6_saysSame_65 : decode cX6_saysSame 65 = .ok (.ireturn, 1) := by decide +kernel
def B6_saysSame_15 (h : Nat) (o1 : Nat) (k15 : Int32 → fkS → Option (Int32 × fkS)) (v2 : Int32) (st : fkS) : Option (Int32 × fkS) :=
 fk_let (gI st 124 h) <| fun x3 =>
 if x3 ≤ v2 then
 (some ((1 : Int32), st))
 else
 (if (16 : Int32) ≤ v2 then
 (some ((1 : Int32), st))
 else
 (if (16 : Int32) ≤ v2 then
 (some ((1 : Int32), st))
 else
 (fk_chk (fk_in v2 16) <| fk_let (gA st (h + 2) v2.toNatClampNeg) <| fun x4 =>
 fk_chk (fk_in v2 16) <| fk_let (gA st (o1 + 2) v2.toNatClampNeg) <| fun x5 =>
 if x4 = x5 then
 (k15 (v2 + (1 : Int32)) st)
 else
 (some ((0 : Int32), st)))))
set_option maxHeartbeats 1000000 in
set_option maxRecDepth 20000 in
theorem T6_saysSame_15 {g : fkG} {k : fkK} (h : Nat) (o1 : Nat) (hh : kdC h = 6) (ho1 : kdC o1 = 6) (hk : fk_ok wC g k RX6 cX6_saysSame 3 (some (.boolean)) 0 0) (k15 : Int32 → fkS → Option (Int32 × fkS)) (H15 : ∀ (v2 : Int32) (st : fkS), fk_J wC g fk_eI k 15 [(0, fk_r g h), (1, fk_r g o1), (2, .int v2)] [] st (k15 v2 st)) : ∀ (v2 : Int32) (st : fkS), fk_J wC g fk_eI k 15 [(0, fk_r g h), (1, fk_r g o1), (2, .int v2)] [] st (B6_saysSame_15 h o1 k15 v2 st) := by
  intro v2 st
  unfold B6_saysSame_15
  refine j_iload_n (pc := 15) hk 2 rfl dX6_saysSame_15 ?_
  refine j_aload_n (pc := 16) hk 0 rfl ⟨_, rfl⟩ dX6_saysSame_16 ?_
  refine f_6_24 (pc := 17) hk (hh) dX6_saysSame_17 (fun x3 => ?_)
  refine j_icmp_ge (tgt := 64) (pc := 20) hk (by decide) dX6_saysSame_20 (fun _ => ?_) (fun _ => ?_)
  · refine j_iconst (pc := 64) hk dX6_saysSame_64 (v := 1) (by decide) ?_
    exact j_zret (pc := 65) hk rfl dX6_saysSame_65
  · refine j_iload_n (pc := 23) hk 2 rfl dX6_saysSame_23 ?_
    refine j_aload_n (pc := 24) hk 0 rfl ⟨_, rfl⟩ dX6_saysSame_24 ?_
    refine f_6_27 (pc := 25) hk (hh) dX6_saysSame_25 ?_
    refine a_ilen (pc := 28) hk (isI_6_5 (hh)) (v := 16) (by decide) dX6_saysSame_28 ?_
    refine j_icmp_ge (tgt := 64) (pc := 29) hk (by decide) dX6_saysSame_29 (fun _ => ?_) (fun _ => ?_)
    · refine j_iconst (pc := 64) hk dX6_saysSame_64 (v := 1) (by decide) ?_
      exact j_zret (pc := 65) hk rfl dX6_saysSame_65
    · refine j_iload_n (pc := 32) hk 2 rfl dX6_saysSame_32 ?_
      refine j_aload_n (pc := 33) hk 1 rfl ⟨_, rfl⟩ dX6_saysSame_33 ?_
      refine f_6_27 (pc := 34) hk (ho1) dX6_saysSame_34 ?_
      refine a_ilen (pc := 37) hk (isI_6_5 (ho1)) (v := 16) (by decide) dX6_saysSame_37 ?_
      refine j_icmp_ge (tgt := 64) (pc := 38) hk (by decide) dX6_saysSame_38 (fun _ => ?_) (fun _ => ?_)
      · refine j_iconst (pc := 64) hk dX6_saysSame_64 (v := 1) (by decide) ?_
        exact j_zret (pc := 65) hk rfl dX6_saysSame_65
      · refine j_aload_n (pc := 41) hk 0 rfl ⟨_, rfl⟩ dX6_saysSame_41 ?_
        refine f_6_27 (pc := 42) hk (hh) dX6_saysSame_42 ?_
        refine j_iload_n (pc := 45) hk 2 rfl dX6_saysSame_45 ?_
        refine a_iload (pc := 46) hk (isI_6_5 (hh)) dX6_saysSame_46 (fun x4 => ?_)
        refine j_aload_n (pc := 47) hk 1 rfl ⟨_, rfl⟩ dX6_saysSame_47 ?_
        refine f_6_27 (pc := 48) hk (ho1) dX6_saysSame_48 ?_
        refine j_iload_n (pc := 51) hk 2 rfl dX6_saysSame_51 ?_
        refine a_iload (pc := 52) hk (isI_6_5 (ho1)) dX6_saysSame_52 (fun x5 => ?_)
        refine j_icmp_eq (tgt := 58) (pc := 53) hk (by decide) dX6_saysSame_53 (fun _ => ?_) (fun _ => ?_)
        · refine j_iinc (dd := (1 : Int32)) (lv' := ((2, .int (v2 + (1 : Int32))) :: [(0, fk_r g h), (1, fk_r g o1)])) (pc := 58) hk 2 rfl (by decide) (by decide) rfl dX6_saysSame_58 ?_
          refine j_sub hk (lv' := [(0, fk_r g h), (1, fk_r g o1), (2, .int (v2 + (1 : Int32)))]) [1, 2, 0] rfl ?_
          refine j_goto (tgt := 15) (pc := 61) hk (by decide) dX6_saysSame_61 ?_
          exact j_sub hk [0, 1, 2] rfl (H15 (v2 + (1 : Int32)) st)
        · refine j_iconst (pc := 56) hk dX6_saysSame_56 (v := 0) (by decide) ?_
          exact j_zret (pc := 57) hk rfl dX6_saysSame_57
set_option maxHeartbeats 1000000 in
set_option maxRecDepth 20000 in
theorem L6_saysSame_15 {g : fkG} {k : fkK} (h : Nat) (o1 : Nat) (hh : kdC h = 6) (ho1 : kdC o1 = 6) (hk : fk_ok wC g k RX6 cX6_saysSame 3 (some (.boolean)) 0 0) (fu : Nat) : ∀ (v2 : Int32) (st : fkS), fk_J wC g fk_eI k 15 [(0, fk_r g h), (1, fk_r g o1), (2, .int v2)] [] st (fk_lp1 (B6_saysSame_15 h o1) fu v2 st) := by
  induction fu with
  | zero =>
    intro v2 st
    exact j_none hk
  | succ fu ih =>
    exact T6_saysSame_15 h o1 hh ho1 hk _ ih
def F6_saysSame (h : Nat) (o1 : Nat) (st : fkS) : Option (Int32 × fkS) :=
 fk_let (gI st 124 h) <| fun x1 =>
 fk_let (gI st 124 o1) <| fun x2 =>
 if x1 = x2 then
 (fk_lp1 (B6_saysSame_15 h o1) fk_fuel (0 : Int32) st)
 else
 (some ((0 : Int32), st))
set_option maxHeartbeats 1000000 in
set_option maxRecDepth 20000 in
theorem C6_saysSame (h : Nat) (o1 : Nat) (hh : kdC h = 6) (ho1 : kdC o1 = 6) (st : fkS) {g : fkG} (l : Launch) (o : Int32 × fkS) (hF : F6_saysSame h o1 st = some o) : fk_C wC yX6_saysSame cX6_saysSame 3 (some (.boolean)) 0 0 l g [fk_r g h, fk_r g o1] st (fk_eI o.1) o.2 := by
  refine fk_begin rfl (Nat.le_of_ble_eq_true rfl) (fun k hk => ?_) o hF
  have hk : fk_ok wC g k RX6 cX6_saysSame 3 (some (.boolean)) 0 0 := hk
  show fk_J wC g fk_eI k 0 [(0, fk_r g h), (1, fk_r g o1)] [] st (F6_saysSame h o1 st)
  unfold F6_saysSame
  refine j_aload_n (pc := 0) hk 0 rfl ⟨_, rfl⟩ dX6_saysSame_0 ?_
  refine f_6_24 (pc := 1) hk (hh) dX6_saysSame_1 (fun x1 => ?_)
  refine j_aload_n (pc := 4) hk 1 rfl ⟨_, rfl⟩ dX6_saysSame_4 ?_
  refine f_6_24 (pc := 5) hk (ho1) dX6_saysSame_5 (fun x2 => ?_)
  refine j_icmp_eq (tgt := 13) (pc := 8) hk (by decide) dX6_saysSame_8 (fun _ => ?_) (fun _ => ?_)
  · refine j_iconst (pc := 13) hk dX6_saysSame_13 (v := 0) (by decide) ?_
    refine j_istore_n (lv' := ((2, .int (0 : Int32)) :: [(0, fk_r g h), (1, fk_r g o1)])) (pc := 14) hk rfl (by decide) rfl dX6_saysSame_14 ?_
    refine j_sub hk (lv' := [(0, fk_r g h), (1, fk_r g o1), (2, .int (0 : Int32))]) [1, 2, 0] rfl ?_
    exact j_sub hk [0, 1, 2] rfl (L6_saysSame_15 h o1 hh ho1 hk fk_fuel (0 : Int32) st)
  · refine j_iconst (pc := 11) hk dX6_saysSame_11 (v := 0) (by decide) ?_
    exact j_zret (pc := 12) hk rfl dX6_saysSame_12
