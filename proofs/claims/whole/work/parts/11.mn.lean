theorem dX3_layer_0 : decode cX3_layer 0 = .ok (.iload_n 1, 1) := by decide +kernel
theorem dX3_layer_1 : decode cX3_layer 1 = .ok (.ifCond .lt 20, 3) := by decide +kernel
theorem dX3_layer_4 : decode cX3_layer 4 = .ok (.iload_n 1, 1) := by decide +kernel
theorem dX3_layer_5 : decode cX3_layer 5 = .ok (.aload_n 0, 1) := by decide +kernel
theorem dX3_layer_6 : decode cX3_layer 6 = .ok (.getfield 15, 3) := by decide +kernel
theorem dX3_layer_9 : decode cX3_layer 9 = .ok (.if_icmp .ge 12, 3) := by decide +kernel
theorem dX3_layer_12 : decode cX3_layer 12 = .ok (.iload_n 1, 1) := by decide +kernel
theorem dX3_layer_13 : decode cX3_layer 13 = .ok (.aload_n 0, 1) := by decide +kernel
theorem dX3_layer_14 : decode cX3_layer 14 = .ok (.getfield 9, 3) := by decide +kernel
theorem dX3_layer_17 : decode cX3_layer 17 = .ok (.arraylength, 1) := by decide +kernel
theorem dX3_layer_18 : decode cX3_layer 18 = .ok (.if_icmp .lt 7, 3) := by decide +kernel
theorem dX3_layer_21 : decode cX3_layer 21 = .ok (.iconst (-1), 1) := by decide +kernel
theorem dX3_layer_22 : decode cX3_layer 22 = .ok (.goto 9, 3) := by decide +kernel
theorem dX3_layer_25 : decode cX3_layer 25 = .ok (.aload_n 0, 1) := by decide +kernel
theorem dX3_layer_26 : decode cX3_layer 26 = .ok (.getfield 9, 3) := by decide +kernel
theorem dX3_layer_29 : decode cX3_layer 29 = .ok (.iload_n 1, 1) := by decide +kernel
theorem dX3_layer_30 : decode cX3_layer 30 = .ok (.iaload, 1) := by decide +kernel
theorem dX3_layer_31 : decode cX3_layer 31 = .ok (.ireturn, 1) := by decide +kernel
def F3_layer (p1 : Int32) (st : fkS) : Option (Int32 × fkS) :=
 if p1 < 0 then
 (some ((-1 : Int32), st))
 else
 (fk_let (gI st 61 38) <| fun x1 =>
 if x1 ≤ p1 then
 (some ((-1 : Int32), st))
 else
 (if p1 < (8 : Int32) then
 (fk_chk (fk_in p1 8) <| fk_let (gA st 39 p1.toNatClampNeg) <| fun x2 =>
 some (x2, st))
 else
 (some ((-1 : Int32), st))))
set_option maxHeartbeats 1000000 in
set_option maxRecDepth 20000 in
theorem C3_layer (p1 : Int32) (st : fkS) {g : fkG} (l : Launch) (o : Int32 × fkS) (hF : F3_layer p1 st = some o) : fk_C wC yX3_layer cX3_layer 2 (some (.int)) 0 0 l g [fk_r g 38, .int p1] st (fk_eI o.1) o.2 := by
  refine fk_begin rfl (Nat.le_of_ble_eq_true rfl) (fun k hk => ?_) o hF
  have hk : fk_ok wC g k RX3 cX3_layer 2 (some (.int)) 0 0 := hk
  show fk_J wC g fk_eI k 0 [(0, fk_r g 38), (1, .int p1)] [] st (F3_layer p1 st)
  unfold F3_layer
  refine j_iload_n (pc := 0) hk 1 rfl dX3_layer_0 ?_
  refine j_if_lt (tgt := 21) (pc := 1) hk (by decide) dX3_layer_1 (fun _ => ?_) (fun _ => ?_)
  · refine j_iconst (pc := 21) hk dX3_layer_21 (v := -1) (by decide) ?_
    refine j_goto (tgt := 31) (pc := 22) hk (by decide) dX3_layer_22 ?_
    exact j_iret (pc := 31) hk dX3_layer_31
  · refine j_iload_n (pc := 4) hk 1 rfl dX3_layer_4 ?_
    refine j_aload_n (pc := 5) hk 0 rfl ⟨_, rfl⟩ dX3_layer_5 ?_
    refine f_3_15 (pc := 6) hk (rfl) dX3_layer_6 (fun x1 => ?_)
    refine j_icmp_ge (tgt := 21) (pc := 9) hk (by decide) dX3_layer_9 (fun _ => ?_) (fun _ => ?_)
    · refine j_iconst (pc := 21) hk dX3_layer_21 (v := -1) (by decide) ?_
      refine j_goto (tgt := 31) (pc := 22) hk (by decide) dX3_layer_22 ?_
      exact j_iret (pc := 31) hk dX3_layer_31
    · refine j_iload_n (pc := 12) hk 1 rfl dX3_layer_12 ?_
      refine j_aload_n (pc := 13) hk 0 rfl ⟨_, rfl⟩ dX3_layer_13 ?_
      refine f_3_9 (pc := 14) hk (rfl) dX3_layer_14 ?_
      refine a_ilen (pc := 17) hk (isI_3_0 (rfl)) (v := 8) (by decide) dX3_layer_17 ?_
      refine j_icmp_lt (tgt := 25) (pc := 18) hk (by decide) dX3_layer_18 (fun _ => ?_) (fun _ => ?_)
      · refine j_aload_n (pc := 25) hk 0 rfl ⟨_, rfl⟩ dX3_layer_25 ?_
        refine f_3_9 (pc := 26) hk (rfl) dX3_layer_26 ?_
        refine j_iload_n (pc := 29) hk 1 rfl dX3_layer_29 ?_
        refine a_iload (pc := 30) hk (isI_3_0 (rfl)) dX3_layer_30 (fun x2 => ?_)
        exact j_iret (pc := 31) hk dX3_layer_31
      · refine j_iconst (pc := 21) hk dX3_layer_21 (v := -1) (by decide) ?_
        refine j_goto (tgt := 31) (pc := 22) hk (by decide) dX3_layer_22 ?_
        exact j_iret (pc := 31) hk dX3_layer_31
theorem dX3_setLayer_0 : decode cX3_setLayer 0 = .ok (.iload_n 1, 1) := by decide +kernel
theorem dX3_setLayer_1 : decode cX3_setLayer 1 = .ok (.ifCond .lt 27, 3) := by decide +kernel
theorem dX3_setLayer_4 : decode cX3_setLayer 4 = .ok (.iload_n 1, 1) := by decide +kernel
theorem dX3_setLayer_5 : decode cX3_setLayer 5 = .ok (.aload_n 0, 1) := by decide +kernel
theorem dX3_setLayer_6 : decode cX3_setLayer 6 = .ok (.getfield 15, 3) := by decide +kernel
theorem dX3_setLayer_9 : decode cX3_setLayer 9 = .ok (.if_icmp .ge 19, 3) := by decide +kernel
theorem dX3_setLayer_12 : decode cX3_setLayer 12 = .ok (.iload_n 1, 1) := by decide +kernel
theorem dX3_setLayer_13 : decode cX3_setLayer 13 = .ok (.aload_n 0, 1) := by decide +kernel
theorem dX3_setLayer_14 : decode cX3_setLayer 14 = .ok (.getfield 9, 3) := by decide +kernel
theorem dX3_setLayer_17 : decode cX3_setLayer 17 = .ok (.arraylength, 1) := by decide +kernel
theorem dX3_setLayer_18 : decode cX3_setLayer 18 = .ok (.if_icmp .ge 10, 3) := by decide +kernel
theorem dX3_setLayer_21 : decode cX3_setLayer 21 = .ok (.aload_n 0, 1) := by decide +kernel
theorem dX3_setLayer_22 : decode cX3_setLayer 22 = .ok (.getfield 9, 3) := by decide +kernel
theorem dX3_setLayer_25 : decode cX3_setLayer 25 = .ok (.iload_n 1, 1) := by decide +kernel
theorem dX3_setLayer_26 : decode cX3_setLayer 26 = .ok (.iload_n 2, 1) := by decide +kernel
theorem dX3_setLayer_27 : decode cX3_setLayer 27 = .ok (.iastore, 1) := by decide +kernel
theorem dX3_setLayer_28 : decode cX3_setLayer 28 = .ok (.return_, 1) := by decide +kernel
def F3_setLayer (p1 : Int32) (p2 : Int32) (st : fkS) : Option (Unit × fkS) :=
 if p1 < 0 then
 (some ((), st))
 else
 (fk_let (gI st 61 38) <| fun x1 =>
 if x1 ≤ p1 then
 (some ((), st))
 else
 (if (8 : Int32) ≤ p1 then
 (some ((), st))
 else
 (fk_chk (fk_in p1 8) <| fk_let (sA st 39 p1.toNatClampNeg p2) <| fun st2 =>
 some ((), st2))))
set_option maxHeartbeats 1000000 in
set_option maxRecDepth 20000 in
theorem C3_setLayer (p1 : Int32) (p2 : Int32) (st : fkS) {g : fkG} (l : Launch) (o : Unit × fkS) (hF : F3_setLayer p1 p2 st = some o) : fk_C wC yX3_setLayer cX3_setLayer 3 none 0 0 l g [fk_r g 38, .int p1, .int p2] st (fk_eU o.1) o.2 := by
  refine fk_begin rfl (Nat.le_of_ble_eq_true rfl) (fun k hk => ?_) o hF
  have hk : fk_ok wC g k RX3 cX3_setLayer 3 none 0 0 := hk
  show fk_J wC g fk_eU k 0 [(0, fk_r g 38), (1, .int p1), (2, .int p2)] [] st (F3_setLayer p1 p2 st)
  unfold F3_setLayer
  refine j_iload_n (pc := 0) hk 1 rfl dX3_setLayer_0 ?_
  refine j_if_lt (tgt := 28) (pc := 1) hk (by decide) dX3_setLayer_1 (fun _ => ?_) (fun _ => ?_)
  · exact j_vret (pc := 28) hk dX3_setLayer_28
  · refine j_iload_n (pc := 4) hk 1 rfl dX3_setLayer_4 ?_
    refine j_aload_n (pc := 5) hk 0 rfl ⟨_, rfl⟩ dX3_setLayer_5 ?_
    refine f_3_15 (pc := 6) hk (rfl) dX3_setLayer_6 (fun x1 => ?_)
    refine j_icmp_ge (tgt := 28) (pc := 9) hk (by decide) dX3_setLayer_9 (fun _ => ?_) (fun _ => ?_)
    · exact j_vret (pc := 28) hk dX3_setLayer_28
    · refine j_iload_n (pc := 12) hk 1 rfl dX3_setLayer_12 ?_
      refine j_aload_n (pc := 13) hk 0 rfl ⟨_, rfl⟩ dX3_setLayer_13 ?_
      refine f_3_9 (pc := 14) hk (rfl) dX3_setLayer_14 ?_
      refine a_ilen (pc := 17) hk (isI_3_0 (rfl)) (v := 8) (by decide) dX3_setLayer_17 ?_
      refine j_icmp_ge (tgt := 28) (pc := 18) hk (by decide) dX3_setLayer_18 (fun _ => ?_) (fun _ => ?_)
      · exact j_vret (pc := 28) hk dX3_setLayer_28
      · refine j_aload_n (pc := 21) hk 0 rfl ⟨_, rfl⟩ dX3_setLayer_21 ?_
        refine f_3_9 (pc := 22) hk (rfl) dX3_setLayer_22 ?_
        refine j_iload_n (pc := 25) hk 1 rfl dX3_setLayer_25 ?_
        refine j_iload_n (pc := 26) hk 2 rfl dX3_setLayer_26 ?_
        refine a_istore (pc := 27) hk (isI_3_0 (rfl)) dX3_setLayer_27 (fun st2 => ?_)
        exact j_vret (pc := 28) hk dX3_setLayer_28
theorem dX3_unknowns_0 : decode cX3_unknowns 0 = .ok (.iconst 0, 1) := by decide +kernel
theorem dX3_unknowns_1 : decode cX3_unknowns 1 = .ok (.istore_n 1, 1) := by decide +kernel
theorem dX3_unknowns_2 : decode cX3_unknowns 2 = .ok (.iconst 0, 1) := by decide +kernel
theorem dX3_unknowns_3 : decode cX3_unknowns 3 = .ok (.istore_n 2, 1) := by decide +kernel
theorem dX3_unknowns_4 : decode cX3_unknowns 4 = .ok (.iload_n 2, 1) := by decide +kernel
theorem dX3_unknowns_5 : decode cX3_unknowns 5 = .ok (.aload_n 0, 1) := by decide +kernel
theorem dX3_unknowns_6 : decode cX3_unknowns 6 = .ok (.getfield 15, 3) := by decide +kernel
theorem dX3_unknowns_9 : decode cX3_unknowns 9 = .ok (.if_icmp .ge 36, 3) := by decide +kernel
theorem dX3_unknowns_12 : decode cX3_unknowns 12 = .ok (.iload_n 2, 1) := by decide +kernel
theorem dX3_unknowns_13 : decode cX3_unknowns 13 = .ok (.aload_n 0, 1) := by decide +kernel
theorem dX3_unknowns_14 : decode cX3_unknowns 14 = .ok (.getfield 9, 3) := by decide +kernel
theorem dX3_unknowns_17 : decode cX3_unknowns 17 = .ok (.arraylength, 1) := by decide +kernel
theorem dX3_unknowns_18 : decode cX3_unknowns 18 = .ok (.if_icmp .ge 27, 3) := by decide +kernel
theorem dX3_unknowns_21 : decode cX3_unknowns 21 = .ok (.iload_n 1, 1) := by decide +kernel
theorem dX3_unknowns_22 : decode cX3_unknowns 22 = .ok (.aload_n 0, 1) := by decide +kernel
theorem dX3_unknowns_23 : decode cX3_unknowns 23 = .ok (.getfield 9, 3) := by decide +kernel
theorem dX3_unknowns_26 : decode cX3_unknowns 26 = .ok (.iload_n 2, 1) := by decide +kernel
theorem dX3_unknowns_27 : decode cX3_unknowns 27 = .ok (.iaload, 1) := by decide +kernel
theorem dX3_unknowns_28 : decode cX3_unknowns 28 = .ok (.iconst (-1), 1) := by decide +kernel
theorem dX3_unknowns_29 : decode cX3_unknowns 29 = .ok (.if_icmp .ne 7, 3) := by decide +kernel
theorem dX3_unknowns_32 : decode cX3_unknowns 32 = .ok (.iconst 1, 1) := by decide +kernel
theorem dX3_unknowns_33 : decode cX3_unknowns 33 = .ok (.goto 4, 3) := by decide +kernel
theorem dX3_unknowns_36 : decode cX3_unknowns 36 = .ok (.iconst 0, 1) := by decide +kernel
theorem dX3_unknowns_37 : decode cX3_unknowns 37 = .ok (.iadd, 1) := by decide +kernel
theorem dX3_unknowns_38 : decode cX3_unknowns 38 = .ok (.istore_n 1, 1) := by decide +kernel
theorem dX3_unknowns_39 : decode cX3_unknowns 39 = .ok (.iinc 2 1, 3) := by decide +kernel
theorem dX3_unknowns_42 : decode cX3_unknowns 42 = .ok (.goto (-38), 3) := by decide +kernel
theorem dX3_unknowns_45 : decode cX3_unknowns 45 = .ok (.iload_n 1, 1) := by decide +kernel
theorem dX3_unknowns_46 : decode cX3_unknowns 46 = .ok (.ireturn, 1) := by decide +kernel
def B3_unknowns_37 (k4 : Int32 → Int32 → fkS → Option (Int32 × fkS)) (v2 : Int32) (s0 : Int32) (s1 : Int32) (st : fkS) : Option (Int32 × fkS) :=
 k4 (s0 + s1) (v2 + (1 : Int32)) st
set_option maxHeartbeats 1000000 in
set_option maxRecDepth 20000 in
theorem T3_unknowns_37 {g : fkG} {k : fkK} (hk : fk_ok wC g k RX3 cX3_unknowns 3 (some (.int)) 0 0) (k4 : Int32 → Int32 → fkS → Option (Int32 × fkS)) (H4 : ∀ (v1 : Int32) (v2 : Int32) (st : fkS), fk_J wC g fk_eI k 4 [(0, fk_r g 38), (1, .int v1), (2, .int v2)] [] st (k4 v1 v2 st)) : ∀ (v2 : Int32) (s0 : Int32) (s1 : Int32) (st : fkS), fk_J wC g fk_eI k 37 [(0, fk_r g 38), (2, .int v2)] [.int s1, .int s0] st (B3_unknowns_37 k4 v2 s0 s1 st) := by
  intro v2 s0 s1 st
  unfold B3_unknowns_37
  refine j_iadd (pc := 37) hk dX3_unknowns_37 ?_
  refine j_istore_n (lv' := ((1, .int (s0 + s1)) :: [(0, fk_r g 38), (2, .int v2)])) (pc := 38) hk rfl (by decide) rfl dX3_unknowns_38 ?_
  refine j_sub hk (lv' := [(0, fk_r g 38), (1, .int (s0 + s1)), (2, .int v2)]) [1, 0, 2] rfl ?_
  refine j_iinc (dd := (1 : Int32)) (lv' := ((2, .int (v2 + (1 : Int32))) :: [(0, fk_r g 38), (1, .int (s0 + s1))])) (pc := 39) hk 2 rfl (by decide) (by decide) rfl dX3_unknowns_39 ?_
  refine j_sub hk (lv' := [(0, fk_r g 38), (1, .int (s0 + s1)), (2, .int (v2 + (1 : Int32)))]) [1, 2, 0] rfl ?_
  refine j_goto (tgt := 4) (pc := 42) hk (by decide) dX3_unknowns_42 ?_
  exact j_sub hk [0, 1, 2] rfl (H4 (s0 + s1) (v2 + (1 : Int32)) st)
def B3_unknowns_4 (k4 : Int32 → Int32 → fkS → Option (Int32 × fkS)) (v1 : Int32) (v2 : Int32) (st : fkS) : Option (Int32 × fkS) :=
 fk_let (gI st 61 38) <| fun x1 =>
 if x1 ≤ v2 then
 (some (v1, st))
 else
 (if (8 : Int32) ≤ v2 then
 (some (v1, st))
 else
 (fk_chk (fk_in v2 8) <| fk_let (gA st 39 v2.toNatClampNeg) <| fun x2 =>
 if x2 = (-1 : Int32) then
 (B3_unknowns_37 k4 v2 v1 (1 : Int32) st)
 else
 (B3_unknowns_37 k4 v2 v1 (0 : Int32) st)))
set_option maxHeartbeats 1000000 in
set_option maxRecDepth 20000 in
theorem T3_unknowns_4 {g : fkG} {k : fkK} (hk : fk_ok wC g k RX3 cX3_unknowns 3 (some (.int)) 0 0) (k4 : Int32 → Int32 → fkS → Option (Int32 × fkS)) (H4 : ∀ (v1 : Int32) (v2 : Int32) (st : fkS), fk_J wC g fk_eI k 4 [(0, fk_r g 38), (1, .int v1), (2, .int v2)] [] st (k4 v1 v2 st)) : ∀ (v1 : Int32) (v2 : Int32) (st : fkS), fk_J wC g fk_eI k 4 [(0, fk_r g 38), (1, .int v1), (2, .int v2)] [] st (B3_unknowns_4 k4 v1 v2 st) := by
  intro v1 v2 st
  unfold B3_unknowns_4
  refine j_iload_n (pc := 4) hk 2 rfl dX3_unknowns_4 ?_
  refine j_aload_n (pc := 5) hk 0 rfl ⟨_, rfl⟩ dX3_unknowns_5 ?_
  refine f_3_15 (pc := 6) hk (rfl) dX3_unknowns_6 (fun x1 => ?_)
  refine j_icmp_ge (tgt := 45) (pc := 9) hk (by decide) dX3_unknowns_9 (fun _ => ?_) (fun _ => ?_)
  · refine j_iload_n (pc := 45) hk 1 rfl dX3_unknowns_45 ?_
    exact j_iret (pc := 46) hk dX3_unknowns_46
  · refine j_iload_n (pc := 12) hk 2 rfl dX3_unknowns_12 ?_
    refine j_aload_n (pc := 13) hk 0 rfl ⟨_, rfl⟩ dX3_unknowns_13 ?_
    refine f_3_9 (pc := 14) hk (rfl) dX3_unknowns_14 ?_
    refine a_ilen (pc := 17) hk (isI_3_0 (rfl)) (v := 8) (by decide) dX3_unknowns_17 ?_
    refine j_icmp_ge (tgt := 45) (pc := 18) hk (by decide) dX3_unknowns_18 (fun _ => ?_) (fun _ => ?_)
    · refine j_iload_n (pc := 45) hk 1 rfl dX3_unknowns_45 ?_
      exact j_iret (pc := 46) hk dX3_unknowns_46
    · refine j_iload_n (pc := 21) hk 1 rfl dX3_unknowns_21 ?_
      refine j_aload_n (pc := 22) hk 0 rfl ⟨_, rfl⟩ dX3_unknowns_22 ?_
      refine f_3_9 (pc := 23) hk (rfl) dX3_unknowns_23 ?_
      refine j_iload_n (pc := 26) hk 2 rfl dX3_unknowns_26 ?_
      refine a_iload (pc := 27) hk (isI_3_0 (rfl)) dX3_unknowns_27 (fun x2 => ?_)
      refine j_iconst (pc := 28) hk dX3_unknowns_28 (v := -1) (by decide) ?_
      refine j_icmp_ne (tgt := 36) (pc := 29) hk (by decide) dX3_unknowns_29 (fun _ => ?_) (fun _ => ?_)
      · refine j_iconst (pc := 32) hk dX3_unknowns_32 (v := 1) (by decide) ?_
        refine j_goto (tgt := 37) (pc := 33) hk (by decide) dX3_unknowns_33 ?_
        exact j_sub hk [0, 2] rfl (T3_unknowns_37 hk k4 H4 v2 v1 (1 : Int32) st)
      · refine j_iconst (pc := 36) hk dX3_unknowns_36 (v := 0) (by decide) ?_
        exact j_sub hk [0, 2] rfl (T3_unknowns_37 hk k4 H4 v2 v1 (0 : Int32) st)
set_option maxHeartbeats 1000000 in
set_option maxRecDepth 20000 in
theorem L3_unknowns_4 {g : fkG} {k : fkK} (hk : fk_ok wC g k RX3 cX3_unknowns 3 (some (.int)) 0 0) (fu : Nat) : ∀ (v1 : Int32) (v2 : Int32) (st : fkS), fk_J wC g fk_eI k 4 [(0, fk_r g 38), (1, .int v1), (2, .int v2)] [] st (fk_lp2 (B3_unknowns_4) fu v1 v2 st) := by
  induction fu with
  | zero =>
    intro v1 v2 st
    exact j_none hk
  | succ fu ih =>
    exact T3_unknowns_4 hk _ ih
def F3_unknowns (st : fkS) : Option (Int32 × fkS) :=
 fk_lp2 (B3_unknowns_4) fk_fuel (0 : Int32) (0 : Int32) st
set_option maxHeartbeats 1000000 in
set_option maxRecDepth 20000 in
theorem C3_unknowns (st : fkS) {g : fkG} (l : Launch) (o : Int32 × fkS) (hF : F3_unknowns st = some o) : fk_C wC yX3_unknowns cX3_unknowns 3 (some (.int)) 0 0 l g [fk_r g 38] st (fk_eI o.1) o.2 := by
  refine fk_begin rfl (Nat.le_of_ble_eq_true rfl) (fun k hk => ?_) o hF
  have hk : fk_ok wC g k RX3 cX3_unknowns 3 (some (.int)) 0 0 := hk
  show fk_J wC g fk_eI k 0 [(0, fk_r g 38)] [] st (F3_unknowns st)
  unfold F3_unknowns
  refine j_iconst (pc := 0) hk dX3_unknowns_0 (v := 0) (by decide) ?_
  refine j_istore_n (lv' := ((1, .int (0 : Int32)) :: [(0, fk_r g 38)])) (pc := 1) hk rfl (by decide) rfl dX3_unknowns_1 ?_
  refine j_sub hk (lv' := [(0, fk_r g 38), (1, .int (0 : Int32))]) [1, 0] rfl ?_
  refine j_iconst (pc := 2) hk dX3_unknowns_2 (v := 0) (by decide) ?_
  refine j_istore_n (lv' := ((2, .int (0 : Int32)) :: [(0, fk_r g 38), (1, .int (0 : Int32))])) (pc := 3) hk rfl (by decide) rfl dX3_unknowns_3 ?_
  refine j_sub hk (lv' := [(0, fk_r g 38), (1, .int (0 : Int32)), (2, .int (0 : Int32))]) [1, 2, 0] rfl ?_
  exact j_sub hk [0, 1, 2] rfl (L3_unknowns_4 hk fk_fuel (0 : Int32) (0 : Int32) st)
theorem dX3_fillUnknowns_0 : decode cX3_fillUnknowns 0 = .ok (.iload_n 1, 1) := by decide +kernel
theorem dX3_fillUnknowns_1 : decode cX3_fillUnknowns 1 = .ok (.istore_n 2, 1) := by decide +kernel
theorem dX3_fillUnknowns_2 : decode cX3_fillUnknowns 2 = .ok (.iconst 0, 1) := by decide +kernel
theorem dX3_fillUnknowns_3 : decode cX3_fillUnknowns 3 = .ok (.istore_n 3, 1) := by decide +kernel
theorem dX3_fillUnknowns_4 : decode cX3_fillUnknowns 4 = .ok (.iload_n 3, 1) := by decide +kernel
theorem dX3_fillUnknowns_5 : decode cX3_fillUnknowns 5 = .ok (.aload_n 0, 1) := by decide +kernel
theorem dX3_fillUnknowns_6 : decode cX3_fillUnknowns 6 = .ok (.getfield 15, 3) := by decide +kernel
theorem dX3_fillUnknowns_9 : decode cX3_fillUnknowns 9 = .ok (.if_icmp .ge 43, 3) := by decide +kernel
theorem dX3_fillUnknowns_12 : decode cX3_fillUnknowns 12 = .ok (.iload_n 3, 1) := by decide +kernel
theorem dX3_fillUnknowns_13 : decode cX3_fillUnknowns 13 = .ok (.aload_n 0, 1) := by decide +kernel
theorem dX3_fillUnknowns_14 : decode cX3_fillUnknowns 14 = .ok (.getfield 9, 3) := by decide +kernel
theorem dX3_fillUnknowns_17 : decode cX3_fillUnknowns 17 = .ok (.arraylength, 1) := by decide +kernel
theorem dX3_fillUnknowns_18 : decode cX3_fillUnknowns 18 = .ok (.if_icmp .ge 34, 3) := by decide +kernel
theorem dX3_fillUnknowns_21 : decode cX3_fillUnknowns 21 = .ok (.aload_n 0, 1) := by decide +kernel
theorem dX3_fillUnknowns_22 : decode cX3_fillUnknowns 22 = .ok (.getfield 9, 3) := by decide +kernel
theorem dX3_fillUnknowns_25 : decode cX3_fillUnknowns 25 = .ok (.iload_n 3, 1) := by decide +kernel
theorem dX3_fillUnknowns_26 : decode cX3_fillUnknowns 26 = .ok (.iaload, 1) := by decide +kernel
theorem dX3_fillUnknowns_27 : decode cX3_fillUnknowns 27 = .ok (.iconst (-1), 1) := by decide +kernel
theorem dX3_fillUnknowns_28 : decode cX3_fillUnknowns 28 = .ok (.if_icmp .ne 18, 3) := by decide +kernel
theorem dX3_fillUnknowns_31 : decode cX3_fillUnknowns 31 = .ok (.aload_n 0, 1) := by decide +kernel
theorem dX3_fillUnknowns_32 : decode cX3_fillUnknowns 32 = .ok (.getfield 9, 3) := by decide +kernel
theorem dX3_fillUnknowns_35 : decode cX3_fillUnknowns 35 = .ok (.iload_n 3, 1) := by decide +kernel
theorem dX3_fillUnknowns_36 : decode cX3_fillUnknowns 36 = .ok (.iload_n 2, 1) := by decide +kernel
theorem dX3_fillUnknowns_37 : decode cX3_fillUnknowns 37 = .ok (.bipush 10, 2) := by decide +kernel
theorem dX3_fillUnknowns_39 : decode cX3_fillUnknowns 39 = .ok (.irem, 1) := by decide +kernel
theorem dX3_fillUnknowns_40 : decode cX3_fillUnknowns 40 = .ok (.iastore, 1) := by decide +kernel
theorem dX3_fillUnknowns_41 : decode cX3_fillUnknowns 41 = .ok (.iload_n 2, 1) := by decide +kernel
theorem dX3_fillUnknowns_42 : decode cX3_fillUnknowns 42 = .ok (.bipush 10, 2) := by decide +kernel
theorem dX3_fillUnknowns_44 : decode cX3_fillUnknowns 44 = .ok (.idiv, 1) := by decide +kernel
theorem dX3_fillUnknowns_45 : decode cX3_fillUnknowns 45 = .ok (.istore_n 2, 1) := by decide +kernel
theorem dX3_fillUnknowns_46 : decode cX3_fillUnknowns 46 = .ok (.iinc 3 1, 3) := by decide +kernel
theorem dX3_fillUnknowns_49 : decode cX3_fillUnknowns 49 = .ok (.goto (-45), 3) := by decide +kernel
theorem dX3_fillUnknowns_52 : decode cX3_fillUnknowns 52 = .ok (.return_, 1) := by decide +kernel
def B3_fillUnknowns_46 (k4 : Int32 → Int32 → fkS → Option (Unit × fkS)) (v2 : Int32) (v3 : Int32) (st : fkS) : Option (Unit × fkS) :=
 k4 v2 (v3 + (1 : Int32)) st
set_option maxHeartbeats 1000000 in
set_option maxRecDepth 20000 in
theorem T3_fillUnknowns_46 {g : fkG} {k : fkK} (hk : fk_ok wC g k RX3 cX3_fillUnknowns 4 none 0 0) (k4 : Int32 → Int32 → fkS → Option (Unit × fkS)) (H4 : ∀ (v2 : Int32) (v3 : Int32) (st : fkS), fk_J wC g fk_eU k 4 [(0, fk_r g 38), (2, .int v2), (3, .int v3)] [] st (k4 v2 v3 st)) : ∀ (v2 : Int32) (v3 : Int32) (st : fkS), fk_J wC g fk_eU k 46 [(0, fk_r g 38), (2, .int v2), (3, .int v3)] [] st (B3_fillUnknowns_46 k4 v2 v3 st) := by
  intro v2 v3 st
  unfold B3_fillUnknowns_46
  refine j_iinc (dd := (1 : Int32)) (lv' := ((3, .int (v3 + (1 : Int32))) :: [(0, fk_r g 38), (2, .int v2)])) (pc := 46) hk 2 rfl (by decide) (by decide) rfl dX3_fillUnknowns_46 ?_
  refine j_sub hk (lv' := [(0, fk_r g 38), (2, .int v2), (3, .int (v3 + (1 : Int32)))]) [1, 2, 0] rfl ?_
  refine j_goto (tgt := 4) (pc := 49) hk (by decide) dX3_fillUnknowns_49 ?_
  exact j_sub hk [0, 1, 2] rfl (H4 v2 (v3 + (1 : Int32)) st)
def B3_fillUnknowns_4 (k4 : Int32 → Int32 → fkS → Option (Unit × fkS)) (v2 : Int32) (v3 : Int32) (st : fkS) : Option (Unit × fkS) :=
 fk_let (gI st 61 38) <| fun x1 =>
 if x1 ≤ v3 then
 (some ((), st))
 else
 (if (8 : Int32) ≤ v3 then
 (some ((), st))
 else
 (fk_chk (fk_in v3 8) <| fk_let (gA st 39 v3.toNatClampNeg) <| fun x2 =>
 if x2 = (-1 : Int32) then
 (fk_chk (fk_in v3 8) <| fk_let (sA st 39 v3.toNatClampNeg (fk_rem v2 (10 : Int32))) <| fun st3 =>
 B3_fillUnknowns_46 k4 (v2 / (10 : Int32)) v3 st3)
 else
 (B3_fillUnknowns_46 k4 v2 v3 st)))
set_option maxHeartbeats 1000000 in
set_option maxRecDepth 20000 in
theorem T3_fillUnknowns_4 {g : fkG} {k : fkK} (hk : fk_ok wC g k RX3 cX3_fillUnknowns 4 none 0 0) (k4 : Int32 → Int32 → fkS → Option (Unit × fkS)) (H4 : ∀ (v2 : Int32) (v3 : Int32) (st : fkS), fk_J wC g fk_eU k 4 [(0, fk_r g 38), (2, .int v2), (3, .int v3)] [] st (k4 v2 v3 st)) : ∀ (v2 : Int32) (v3 : Int32) (st : fkS), fk_J wC g fk_eU k 4 [(0, fk_r g 38), (2, .int v2), (3, .int v3)] [] st (B3_fillUnknowns_4 k4 v2 v3 st) := by
  intro v2 v3 st
  unfold B3_fillUnknowns_4
  refine j_iload_n (pc := 4) hk 2 rfl dX3_fillUnknowns_4 ?_
  refine j_aload_n (pc := 5) hk 0 rfl ⟨_, rfl⟩ dX3_fillUnknowns_5 ?_
  refine f_3_15 (pc := 6) hk (rfl) dX3_fillUnknowns_6 (fun x1 => ?_)
  refine j_icmp_ge (tgt := 52) (pc := 9) hk (by decide) dX3_fillUnknowns_9 (fun _ => ?_) (fun _ => ?_)
  · exact j_vret (pc := 52) hk dX3_fillUnknowns_52
  · refine j_iload_n (pc := 12) hk 2 rfl dX3_fillUnknowns_12 ?_
    refine j_aload_n (pc := 13) hk 0 rfl ⟨_, rfl⟩ dX3_fillUnknowns_13 ?_
    refine f_3_9 (pc := 14) hk (rfl) dX3_fillUnknowns_14 ?_
    refine a_ilen (pc := 17) hk (isI_3_0 (rfl)) (v := 8) (by decide) dX3_fillUnknowns_17 ?_
    refine j_icmp_ge (tgt := 52) (pc := 18) hk (by decide) dX3_fillUnknowns_18 (fun _ => ?_) (fun _ => ?_)
    · exact j_vret (pc := 52) hk dX3_fillUnknowns_52
    · refine j_aload_n (pc := 21) hk 0 rfl ⟨_, rfl⟩ dX3_fillUnknowns_21 ?_
      refine f_3_9 (pc := 22) hk (rfl) dX3_fillUnknowns_22 ?_
      refine j_iload_n (pc := 25) hk 2 rfl dX3_fillUnknowns_25 ?_
      refine a_iload (pc := 26) hk (isI_3_0 (rfl)) dX3_fillUnknowns_26 (fun x2 => ?_)
      refine j_iconst (pc := 27) hk dX3_fillUnknowns_27 (v := -1) (by decide) ?_
      refine j_icmp_ne (tgt := 46) (pc := 28) hk (by decide) dX3_fillUnknowns_28 (fun _ => ?_) (fun _ => ?_)
      · refine j_aload_n (pc := 31) hk 0 rfl ⟨_, rfl⟩ dX3_fillUnknowns_31 ?_
        refine f_3_9 (pc := 32) hk (rfl) dX3_fillUnknowns_32 ?_
        refine j_iload_n (pc := 35) hk 2 rfl dX3_fillUnknowns_35 ?_
        refine j_iload_n (pc := 36) hk 1 rfl dX3_fillUnknowns_36 ?_
        refine j_bipush (pc := 37) hk dX3_fillUnknowns_37 (v := 10) (by decide) ?_
        refine j_irem (pc := 39) hk (show fk_nz (10 : Int32) = true from by decide) dX3_fillUnknowns_39 ?_
        refine a_istore (pc := 40) hk (isI_3_0 (rfl)) dX3_fillUnknowns_40 (fun st3 => ?_)
        refine j_iload_n (pc := 41) hk 1 rfl dX3_fillUnknowns_41 ?_
        refine j_bipush (pc := 42) hk dX3_fillUnknowns_42 (v := 10) (by decide) ?_
        refine j_idiv (pc := 44) hk (show fk_nz (10 : Int32) = true from by decide) dX3_fillUnknowns_44 ?_
        refine j_istore_n (lv' := ((2, .int (v2 / (10 : Int32))) :: [(0, fk_r g 38), (3, .int v3)])) (pc := 45) hk rfl (by decide) rfl dX3_fillUnknowns_45 ?_
        refine j_sub hk (lv' := [(0, fk_r g 38), (2, .int (v2 / (10 : Int32))), (3, .int v3)]) [1, 0, 2] rfl ?_
        exact j_sub hk [0, 1, 2] rfl (T3_fillUnknowns_46 hk k4 H4 (v2 / (10 : Int32)) v3 st3)
      · exact j_sub hk [0, 1, 2] rfl (T3_fillUnknowns_46 hk k4 H4 v2 v3 st)
set_option maxHeartbeats 1000000 in
set_option maxRecDepth 20000 in
theorem L3_fillUnknowns_4 {g : fkG} {k : fkK} (hk : fk_ok wC g k RX3 cX3_fillUnknowns 4 none 0 0) (fu : Nat) : ∀ (v2 : Int32) (v3 : Int32) (st : fkS), fk_J wC g fk_eU k 4 [(0, fk_r g 38), (2, .int v2), (3, .int v3)] [] st (fk_lp2 (B3_fillUnknowns_4) fu v2 v3 st) := by
  induction fu with
  | zero =>
    intro v2 v3 st
    exact j_none hk
  | succ fu ih =>
    exact T3_fillUnknowns_4 hk _ ih
def F3_fillUnknowns (p1 : Int32) (st : fkS) : Option (Unit × fkS) :=
 fk_lp2 (B3_fillUnknowns_4) fk_fuel p1 (0 : Int32) st
set_option maxHeartbeats 1000000 in
set_option maxRecDepth 20000 in
theorem C3_fillUnknowns (p1 : Int32) (st : fkS) {g : fkG} (l : Launch) (o : Unit × fkS) (hF : F3_fillUnknowns p1 st = some o) : fk_C wC yX3_fillUnknowns cX3_fillUnknowns 4 none 0 0 l g [fk_r g 38, .int p1] st (fk_eU o.1) o.2 := by
  refine fk_begin rfl (Nat.le_of_ble_eq_true rfl) (fun k hk => ?_) o hF
  have hk : fk_ok wC g k RX3 cX3_fillUnknowns 4 none 0 0 := hk
  show fk_J wC g fk_eU k 0 [(0, fk_r g 38), (1, .int p1)] [] st (F3_fillUnknowns p1 st)
  unfold F3_fillUnknowns
  refine j_iload_n (pc := 0) hk 1 rfl dX3_fillUnknowns_0 ?_
  refine j_istore_n (lv' := ((2, .int p1) :: [(0, fk_r g 38), (1, .int p1)])) (pc := 1) hk rfl (by decide) rfl dX3_fillUnknowns_1 ?_
  refine j_sub hk (lv' := [(0, fk_r g 38), (1, .int p1), (2, .int p1)]) [1, 2, 0] rfl ?_
  refine j_iconst (pc := 2) hk dX3_fillUnknowns_2 (v := 0) (by decide) ?_
  refine j_istore_n (lv' := ((3, .int (0 : Int32)) :: [(0, fk_r g 38), (1, .int p1), (2, .int p1)])) (pc := 3) hk rfl (by decide) rfl dX3_fillUnknowns_3 ?_
  refine j_sub hk (lv' := [(0, fk_r g 38), (1, .int p1), (2, .int p1), (3, .int (0 : Int32))]) [1, 2, 3, 0] rfl ?_
  exact j_sub hk [0, 2, 3] rfl (L3_fillUnknowns_4 hk fk_fuel p1 (0 : Int32) st)
theorem dX4_letter_0 : decode cX4_letter 0 = .ok (.aload_n 0, 1) := by decide +kernel
theorem dX4_letter_1 : decode cX4_letter 1 = .ok (.getfield 18, 3) := by decide +kernel
theorem dX4_letter_4 : decode cX4_letter 4 = .ok (.ifnull 24, 3) := by decide +kernel
theorem dX4_letter_7 : decode cX4_letter 7 = .ok (.aload_n 0, 1) := by decide +kernel
theorem dX4_letter_8 : decode cX4_letter 8 = .ok (.getfield 15, 3) := by decide +kernel
theorem dX4_letter_11 : decode cX4_letter 11 = .ok (.ifCond .lt 17, 3) := by decide +kernel
theorem dX4_letter_14 : decode cX4_letter 14 = .ok (.aload_n 0, 1) := by decide +kernel
theorem dX4_letter_15 : decode cX4_letter 15 = .ok (.getfield 15, 3) := by decide +kernel
theorem dX4_letter_18 : decode cX4_letter 18 = .ok (.aload_n 0, 1) := by decide +kernel
theorem dX4_letter_19 : decode cX4_letter 19 = .ok (.getfield 18, 3) := by decide +kernel
theorem dX4_letter_22 : decode cX4_letter 22 = .ok (.getfield 34, 3) := by decide +kernel
theorem dX4_letter_25 : decode cX4_letter 25 = .ok (.if_icmp .lt 5, 3) := by decide +kernel
theorem dX4_letter_28 : decode cX4_letter 28 = .ok (.iconst (-1), 1) := by decide +kernel
theorem dX4_letter_29 : decode cX4_letter 29 = .ok (.ireturn, 1) := by decide +kernel
theorem dX4_letter_30 : decode cX4_letter 30 = .ok (.aload_n 0, 1) := by decide +kernel
theorem dX4_letter_31 : decode cX4_letter 31 = .ok (.getfield 18, 3) := by decide +kernel
theorem dX4_letter_34 : decode cX4_letter 34 = .ok (.getfield 115, 3) := by decide +kernel
theorem dX4_letter_37 : decode cX4_letter 37 = .ok (.aload_n 0, 1) := by decide +kernel
theorem dX4_letter_38 : decode cX4_letter 38 = .ok (.getfield 15, 3) := by decide +kernel
theorem dX4_letter_41 : decode cX4_letter 41 = .ok (.laload, 1) := by decide +kernel
theorem dX4_letter_42 : decode cX4_letter 42 = .ok (.l2i, 1) := by decide +kernel
theorem dX4_letter_43 : decode cX4_letter 43 = .ok (.ireturn, 1) := by decide +kernel
def F4_letter (st : fkS) : Option (Int32 × fkS) :=
 fk_txt (gT st)
 (some ((-1 : Int32), st))
 (fun t1 => fk_let (gI st 81 34) <| fun x2 =>
 if x2 < 0 then
 (some ((-1 : Int32), st))
 else
 (fk_let (gI st 81 34) <| fun x3 =>
 fk_txt (gT st)
 (none)
 (fun t4 => fk_let (gI st 103 t4) <| fun x5 =>
 if x3 < x5 then
 (fk_txt (gT st)
 (none)
 (fun t6 => fk_let (gI st 81 34) <| fun x7 =>
 fk_chk (fk_in x7 160) <| fk_let (gL st (t6 + 8) x7.toNatClampNeg) <| fun x8 =>
 some (x8.toInt32, st)))
 else
 (some ((-1 : Int32), st)))))
set_option maxHeartbeats 1000000 in
set_option maxRecDepth 20000 in
theorem C4_letter (st : fkS) {g : fkG} (l : Launch) (o : Int32 × fkS) (hF : F4_letter st = some o) : fk_C wC yX4_letter cX4_letter 1 (some (.int)) 0 0 l g [fk_r g 34] st (fk_eI o.1) o.2 := by
  refine fk_begin rfl (Nat.le_of_ble_eq_true rfl) (fun k hk => ?_) o hF
  have hk : fk_ok wC g k RX4 cX4_letter 1 (some (.int)) 0 0 := hk
  show fk_J wC g fk_eI k 0 [(0, fk_r g 34)] [] st (F4_letter st)
  unfold F4_letter
  refine j_aload_n (pc := 0) hk 0 rfl ⟨_, rfl⟩ dX4_letter_0 ?_
  refine f_4_18 (pc := 1) hk dX4_letter_1 ?_ (fun t1 ht1 => ?_)
  · refine j_ifnullN (tgt := 28) (pc := 4) hk (by decide) dX4_letter_4 ?_
    refine j_iconst (pc := 28) hk dX4_letter_28 (v := -1) (by decide) ?_
    exact j_iret (pc := 29) hk dX4_letter_29
  · refine j_ifnullR (pc := 4) hk ⟨_, rfl⟩ dX4_letter_4 ?_
    refine j_aload_n (pc := 7) hk 0 rfl ⟨_, rfl⟩ dX4_letter_7 ?_
    refine f_4_15 (pc := 8) hk (rfl) dX4_letter_8 (fun x2 => ?_)
    refine j_if_lt (tgt := 28) (pc := 11) hk (by decide) dX4_letter_11 (fun _ => ?_) (fun _ => ?_)
    · refine j_iconst (pc := 28) hk dX4_letter_28 (v := -1) (by decide) ?_
      exact j_iret (pc := 29) hk dX4_letter_29
    · refine j_aload_n (pc := 14) hk 0 rfl ⟨_, rfl⟩ dX4_letter_14 ?_
      refine f_4_15 (pc := 15) hk (rfl) dX4_letter_15 (fun x3 => ?_)
      refine j_aload_n (pc := 18) hk 0 rfl ⟨_, rfl⟩ dX4_letter_18 ?_
      refine f_4_18 (pc := 19) hk dX4_letter_19 ?_ (fun t4 ht4 => ?_)
      · exact j_none hk
      · refine f_4_34 (pc := 22) hk (ht4) dX4_letter_22 (fun x5 => ?_)
        refine j_icmp_lt (tgt := 30) (pc := 25) hk (by decide) dX4_letter_25 (fun _ => ?_) (fun _ => ?_)
        · refine j_aload_n (pc := 30) hk 0 rfl ⟨_, rfl⟩ dX4_letter_30 ?_
          refine f_4_18 (pc := 31) hk dX4_letter_31 ?_ (fun t6 ht6 => ?_)
          · exact j_none hk
          · refine f_4_115 (pc := 34) hk (ht6) dX4_letter_34 ?_
            refine j_aload_n (pc := 37) hk 0 rfl ⟨_, rfl⟩ dX4_letter_37 ?_
            refine f_4_15 (pc := 38) hk (rfl) dX4_letter_38 (fun x7 => ?_)
            refine a_lload (pc := 41) hk (isL_5_4 (ht6)) dX4_letter_41 (fun x8 => ?_)
            refine j_l2i (pc := 42) hk dX4_letter_42 ?_
            exact j_iret (pc := 43) hk dX4_letter_43
        · refine j_iconst (pc := 28) hk dX4_letter_28 (v := -1) (by decide) ?_
          exact j_iret (pc := 29) hk dX4_letter_29
theorem dX4_fail_0 : decode cX4_fail 0 = .ok (.aload_n 0, 1) := by decide +kernel
theorem dX4_fail_1 : decode cX4_fail 1 = .ok (.getfield 9, 3) := by decide +kernel
theorem dX4_fail_4 : decode cX4_fail 4 = .ok (.iconst (-1), 1) := by decide +kernel
theorem dX4_fail_5 : decode cX4_fail 5 = .ok (.if_icmp .ne 8, 3) := by decide +kernel
theorem dX4_fail_8 : decode cX4_fail 8 = .ok (.aload_n 0, 1) := by decide +kernel
theorem dX4_fail_9 : decode cX4_fail 9 = .ok (.iload_n 1, 1) := by decide +kernel
theorem dX4_fail_10 : decode cX4_fail 10 = .ok (.putfield 9, 3) := by decide +kernel
theorem dX4_fail_13 : decode cX4_fail 13 = .ok (.return_, 1) := by decide +kernel
def F4_fail (p1 : Int32) (st : fkS) : Option (Unit × fkS) :=
 fk_let (gI st 80 34) <| fun x1 =>
 if x1 = (-1 : Int32) then
 (fk_let (sI st 80 34 p1) <| fun st2 =>
 some ((), st2))
 else
 (some ((), st))
set_option maxHeartbeats 1000000 in
set_option maxRecDepth 20000 in
theorem C4_fail (p1 : Int32) (st : fkS) {g : fkG} (l : Launch) (o : Unit × fkS) (hF : F4_fail p1 st = some o) : fk_C wC yX4_fail cX4_fail 2 none 0 0 l g [fk_r g 34, .int p1] st (fk_eU o.1) o.2 := by
  refine fk_begin rfl (Nat.le_of_ble_eq_true rfl) (fun k hk => ?_) o hF
  have hk : fk_ok wC g k RX4 cX4_fail 2 none 0 0 := hk
  show fk_J wC g fk_eU k 0 [(0, fk_r g 34), (1, .int p1)] [] st (F4_fail p1 st)
  unfold F4_fail
  refine j_aload_n (pc := 0) hk 0 rfl ⟨_, rfl⟩ dX4_fail_0 ?_
  refine f_4_9 (pc := 1) hk (rfl) dX4_fail_1 (fun x1 => ?_)
  refine j_iconst (pc := 4) hk dX4_fail_4 (v := -1) (by decide) ?_
  refine j_icmp_ne (tgt := 13) (pc := 5) hk (by decide) dX4_fail_5 (fun _ => ?_) (fun _ => ?_)
  · refine j_aload_n (pc := 8) hk 0 rfl ⟨_, rfl⟩ dX4_fail_8 ?_
    refine j_iload_n (pc := 9) hk 1 rfl dX4_fail_9 ?_
    refine p_4_9 (pc := 10) hk (rfl) dX4_fail_10 (fun st2 => ?_)
    exact j_vret (pc := 13) hk dX4_fail_13
  · exact j_vret (pc := 13) hk dX4_fail_13
theorem dX4_expect_0 : decode cX4_expect 0 = .ok (.aload_n 0, 1) := by decide +kernel
theorem dX4_expect_1 : decode cX4_expect 1 = .ok (.getfield 9, 3) := by decide +kernel
theorem dX4_expect_4 : decode cX4_expect 4 = .ok (.iconst (-1), 1) := by decide +kernel
theorem dX4_expect_5 : decode cX4_expect 5 = .ok (.if_icmp .eq 4, 3) := by decide +kernel
theorem dX4_expect_8 : decode cX4_expect 8 = .ok (.return_, 1) := by decide +kernel
theorem dX4_expect_9 : decode cX4_expect 9 = .ok (.aload_n 0, 1) := by decide +kernel
theorem dX4_expect_10 : decode cX4_expect 10 = .ok (.invokevirtual 39, 3) := by decide +kernel
theorem dX4_expect_13 : decode cX4_expect 13 = .ok (.iload_n 1, 1) := by decide +kernel
theorem dX4_expect_14 : decode cX4_expect 14 = .ok (.if_icmp .ne 16, 3) := by decide +kernel
theorem dX4_expect_17 : decode cX4_expect 17 = .ok (.aload_n 0, 1) := by decide +kernel
theorem dX4_expect_18 : decode cX4_expect 18 = .ok (.dup, 1) := by decide +kernel
theorem dX4_expect_19 : decode cX4_expect 19 = .ok (.getfield 15, 3) := by decide +kernel
theorem dX4_expect_22 : decode cX4_expect 22 = .ok (.iconst 1, 1) := by decide +kernel
theorem dX4_expect_23 : decode cX4_expect 23 = .ok (.iadd, 1) := by decide +kernel
theorem dX4_expect_24 : decode cX4_expect 24 = .ok (.putfield 15, 3) := by decide +kernel
theorem dX4_expect_27 : decode cX4_expect 27 = .ok (.goto 11, 3) := by decide +kernel
theorem dX4_expect_30 : decode cX4_expect 30 = .ok (.aload_n 0, 1) := by decide +kernel
theorem dX4_expect_31 : decode cX4_expect 31 = .ok (.aload_n 0, 1) := by decide +kernel
theorem dX4_expect_32 : decode cX4_expect 32 = .ok (.getfield 15, 3) := by decide +kernel
theorem dX4_expect_35 : decode cX4_expect 35 = .ok (.invokevirtual 60, 3) := by decide +kernel
theorem dX4_expect_38 : decode cX4_expect 38 = .ok (.return_, 1) := by decide +kernel
def F4_expect (p1 : Int32) (st : fkS) : Option (Unit × fkS) :=
 fk_let (gI st 80 34) <| fun x1 =>
 if x1 = (-1 : Int32) then
 (fk_bind (F4_letter st) <| fun x2 st3 =>
 if x2 = p1 then
 (fk_let (gI st3 81 34) <| fun x4 =>
 fk_let (sI st3 81 34 (x4 + (1 : Int32))) <| fun st5 =>
 some ((), st5))
 else
 (fk_let (gI st3 81 34) <| fun x6 =>
 fk_bind (F4_fail x6 st3) <| fun _ st7 =>
 some ((), st7)))
 else
 (some ((), st))
set_option maxHeartbeats 1000000 in
set_option maxRecDepth 20000 in
theorem C4_expect (p1 : Int32) (st : fkS) {g : fkG} (l : Launch) (o : Unit × fkS) (hF : F4_expect p1 st = some o) : fk_C wC yX4_expect cX4_expect 2 none 1 21 l g [fk_r g 34, .int p1] st (fk_eU o.1) o.2 := by
  refine fk_begin rfl (Nat.le_of_ble_eq_true rfl) (fun k hk => ?_) o hF
  have hk : fk_ok wC g k RX4 cX4_expect 2 none 1 21 := hk
  show fk_J wC g fk_eU k 0 [(0, fk_r g 34), (1, .int p1)] [] st (F4_expect p1 st)
  unfold F4_expect
  refine j_aload_n (pc := 0) hk 0 rfl ⟨_, rfl⟩ dX4_expect_0 ?_
  refine f_4_9 (pc := 1) hk (rfl) dX4_expect_1 (fun x1 => ?_)
  refine j_iconst (pc := 4) hk dX4_expect_4 (v := -1) (by decide) ?_
  refine j_icmp_eq (tgt := 9) (pc := 5) hk (by decide) dX4_expect_5 (fun _ => ?_) (fun _ => ?_)
  · refine j_aload_n (pc := 9) hk 0 rfl ⟨_, rfl⟩ dX4_expect_9 ?_
    refine j_callVi (pc := 10) hk [] [] rfl (fun l o hq9 => C4_letter st l o hq9) (rcv_4 (rfl)) yv_X4_letter ml_4_39 rfl (Nat.le_of_ble_eq_true rfl) (Nat.le_of_ble_eq_true rfl) (Nat.le_of_ble_eq_true rfl) dX4_expect_10 (fun x2 st3 => ?_)
    refine j_iload_n (pc := 13) hk 1 rfl dX4_expect_13 ?_
    refine j_icmp_ne (tgt := 30) (pc := 14) hk (by decide) dX4_expect_14 (fun _ => ?_) (fun _ => ?_)
    · refine j_aload_n (pc := 17) hk 0 rfl ⟨_, rfl⟩ dX4_expect_17 ?_
      refine j_dup (pc := 18) hk rfl dX4_expect_18 ?_
      refine f_4_15 (pc := 19) hk (rfl) dX4_expect_19 (fun x4 => ?_)
      refine j_iconst (pc := 22) hk dX4_expect_22 (v := 1) (by decide) ?_
      refine j_iadd (pc := 23) hk dX4_expect_23 ?_
      refine p_4_15 (pc := 24) hk (rfl) dX4_expect_24 (fun st5 => ?_)
      refine j_goto (tgt := 38) (pc := 27) hk (by decide) dX4_expect_27 ?_
      exact j_vret (pc := 38) hk dX4_expect_38
    · refine j_aload_n (pc := 30) hk 0 rfl ⟨_, rfl⟩ dX4_expect_30 ?_
      refine j_aload_n (pc := 31) hk 0 rfl ⟨_, rfl⟩ dX4_expect_31 ?_
      refine f_4_15 (pc := 32) hk (rfl) dX4_expect_32 (fun x6 => ?_)
      refine j_callVv (pc := 35) hk [.int x6] [] rfl (fun l o hq9 => C4_fail x6 st3 l o hq9) (rcv_4 (rfl)) yv_X4_fail ml_4_60 rfl (Nat.le_of_ble_eq_true rfl) (Nat.le_of_ble_eq_true rfl) (Nat.le_of_ble_eq_true rfl) dX4_expect_35 (fun _ st7 => ?_)
      exact j_vret (pc := 38) hk dX4_expect_38
  · exact j_vret (pc := 8) hk dX4_expect_8
theorem dX4_wordThatBeginsWith_0 : decode cX4_wordThatBeginsWith 0 = .ok (.iload_n 0, 1) := by decide +kernel
theorem dX4_wordThatBeginsWith_1 : decode cX4_wordThatBeginsWith 1 = .ok (.lookupswitch 77 #[(98, 59), (103, 68), (104, 62), (105, 71), (115, 65), (119, 74)], 59) := by decide +kernel
theorem dX4_wordThatBeginsWith_60 : decode cX4_wordThatBeginsWith 60 = .ok (.ldc 100, 2) := by decide +kernel
theorem dX4_wordThatBeginsWith_62 : decode cX4_wordThatBeginsWith 62 = .ok (.areturn, 1) := by decide +kernel
theorem dX4_wordThatBeginsWith_63 : decode cX4_wordThatBeginsWith 63 = .ok (.ldc 102, 2) := by decide +kernel
theorem dX4_wordThatBeginsWith_65 : decode cX4_wordThatBeginsWith 65 = .ok (.areturn, 1) := by decide +kernel
theorem dX4_wordThatBeginsWith_66 : decode cX4_wordThatBeginsWith 66 = .ok (.ldc 103, 2) := by decide +kernel
theorem dX4_wordThatBeginsWith_68 : decode cX4_wordThatBeginsWith 68 = .ok (.areturn, 1) := by decide +kernel
theorem dX4_wordThatBeginsWith_69 : decode cX4_wordThatBeginsWith 69 = .ok (.ldc 104, 2) := by decide +kernel
theorem dX4_wordThatBeginsWith_71 : decode cX4_wordThatBeginsWith 71 = .ok (.areturn, 1) := by decide +kernel
theorem dX4_wordThatBeginsWith_72 : decode cX4_wordThatBeginsWith 72 = .ok (.ldc 106, 2) := by decide +kernel
theorem dX4_wordThatBeginsWith_74 : decode cX4_wordThatBeginsWith 74 = .ok (.areturn, 1) := by decide +kernel
theorem dX4_wordThatBeginsWith_75 : decode cX4_wordThatBeginsWith 75 = .ok (.ldc 108, 2) := by decide +kernel
theorem dX4_wordThatBeginsWith_77 : decode cX4_wordThatBeginsWith 77 = .ok (.areturn, 1) := by decide +kernel
theorem dX4_wordThatBeginsWith_78 : decode cX4_wordThatBeginsWith 78 = .ok (.ldc 110, 2) := by decide +kernel
theorem dX4_wordThatBeginsWith_80 : decode cX4_wordThatBeginsWith 80 = .ok (.areturn, 1) := by decide +kernel
def F4_wordThatBeginsWith (p0 : Int32) (st : fkS) : Option (Nat × fkS) :=
 if p0 = (98 : Int32) then
 (some (0, st))
 else
 (if p0 = (103 : Int32) then
 (some (3, st))
 else
 (if p0 = (104 : Int32) then
 (some (1, st))
 else
 (if p0 = (105 : Int32) then
 (some (4, st))
 else
 (if p0 = (115 : Int32) then
 (some (2, st))
 else
 (if p0 = (119 : Int32) then
 (some (5, st))
 else
 (some (6, st)))))))
set_option maxHeartbeats 1000000 in
set_option maxRecDepth 20000 in
theorem C4_wordThatBeginsWith (p0 : Int32) (st : fkS) {g : fkG} (l : Launch) (o : Nat × fkS) (hF : F4_wordThatBeginsWith p0 st = some o) : fk_C wC yX4_wordThatBeginsWith cX4_wordThatBeginsWith 1 (some (.object "java/lang/String")) 0 0 l g [.int p0] st ((fk_eQ g) o.1) o.2 := by
  refine fk_begin rfl (Nat.le_of_ble_eq_true rfl) (fun k hk => ?_) o hF
  have hk : fk_ok wC g k RX4 cX4_wordThatBeginsWith 1 (some (.object "java/lang/String")) 0 0 := hk
  show fk_J wC g (fk_eQ g) k 0 [(0, .int p0)] [] st (F4_wordThatBeginsWith p0 st)
  unfold F4_wordThatBeginsWith
  refine j_iload_n (pc := 0) hk 0 rfl dX4_wordThatBeginsWith_0 ?_
  refine j_case (pc := 1) hk (fun n1 => ?_) (fun n1 => ?_)
  · refine j_lsw (off := 59) (tgt := 60) (pc := 1) hk (by decide) (by rw [n1]; decide) (by decide) dX4_wordThatBeginsWith_1 ?_
    refine j_ldcS (q := 0) (tx := "bird") (pc := 60) hk dX4_wordThatBeginsWith_60 (by decide +kernel) ?_
    exact j_qret (pc := 62) hk dX4_wordThatBeginsWith_62
  · refine j_case (pc := 1) hk (fun n2 => ?_) (fun n2 => ?_)
    · refine j_lsw (off := 68) (tgt := 69) (pc := 1) hk (by decide) (by rw [n2]; decide) (by decide) dX4_wordThatBeginsWith_1 ?_
      refine j_ldcS (q := 3) (tx := "goes") (pc := 69) hk dX4_wordThatBeginsWith_69 (by decide +kernel) ?_
      exact j_qret (pc := 71) hk dX4_wordThatBeginsWith_71
    · refine j_case (pc := 1) hk (fun n3 => ?_) (fun n3 => ?_)
      · refine j_lsw (off := 62) (tgt := 63) (pc := 1) hk (by decide) (by rw [n3]; decide) (by decide) dX4_wordThatBeginsWith_1 ?_
        refine j_ldcS (q := 1) (tx := "heat") (pc := 63) hk dX4_wordThatBeginsWith_63 (by decide +kernel) ?_
        exact j_qret (pc := 65) hk dX4_wordThatBeginsWith_65
      · refine j_case (pc := 1) hk (fun n4 => ?_) (fun n4 => ?_)
        · refine j_lsw (off := 71) (tgt := 72) (pc := 1) hk (by decide) (by rw [n4]; decide) (by decide) dX4_wordThatBeginsWith_1 ?_
          refine j_ldcS (q := 4) (tx := "ill") (pc := 72) hk dX4_wordThatBeginsWith_72 (by decide +kernel) ?_
          exact j_qret (pc := 74) hk dX4_wordThatBeginsWith_74
        · refine j_case (pc := 1) hk (fun n5 => ?_) (fun n5 => ?_)
          · refine j_lsw (off := 65) (tgt := 66) (pc := 1) hk (by decide) (by rw [n5]; decide) (by decide) dX4_wordThatBeginsWith_1 ?_
            refine j_ldcS (q := 2) (tx := "state") (pc := 66) hk dX4_wordThatBeginsWith_66 (by decide +kernel) ?_
            exact j_qret (pc := 68) hk dX4_wordThatBeginsWith_68
          · refine j_case (pc := 1) hk (fun n6 => ?_) (fun n6 => ?_)
            · refine j_lsw (off := 74) (tgt := 75) (pc := 1) hk (by decide) (by rw [n6]; decide) (by decide) dX4_wordThatBeginsWith_1 ?_
              refine j_ldcS (q := 5) (tx := "well") (pc := 75) hk dX4_wordThatBeginsWith_75 (by decide +kernel) ?_
              exact j_qret (pc := 77) hk dX4_wordThatBeginsWith_77
            · have mn1 := lv_neT (a := 98) n1 (by decide)
              have mn2 := lv_neT (a := 103) n2 (by decide)
              have mn3 := lv_neT (a := 104) n3 (by decide)
              have mn4 := lv_neT (a := 105) n4 (by decide)
              have mn5 := lv_neT (a := 115) n5 (by decide)
              have mn6 := lv_neT (a := 119) n6 (by decide)
              refine j_lsw (off := 77) (tgt := 78) (pc := 1) hk (by decide) (fk_lsw (by intro q hq; simp only [List.mem_cons, List.not_mem_nil, or_false] at hq; rcases hq with rfl | rfl | rfl | rfl | rfl | rfl <;> simpa using by assumption)) (by decide) dX4_wordThatBeginsWith_1 ?_
              refine j_ldcS (q := 6) (tx := "") (pc := 78) hk dX4_wordThatBeginsWith_78 (by decide +kernel) ?_
              exact j_qret (pc := 80) hk dX4_wordThatBeginsWith_80
theorem dX4_numbersBehind_0 : decode cX4_numbersBehind 0 = .ok (.iload_n 0, 1) := by decide +kernel
theorem dX4_numbersBehind_1 : decode cX4_numbersBehind 1 = .ok (.bipush 98, 2) := by decide +kernel
theorem dX4_numbersBehind_3 : decode cX4_numbersBehind 3 = .ok (.if_icmp .eq 9, 3) := by decide +kernel
theorem dX4_numbersBehind_6 : decode cX4_numbersBehind 6 = .ok (.iload_n 0, 1) := by decide +kernel
theorem dX4_numbersBehind_7 : decode cX4_numbersBehind 7 = .ok (.bipush 103, 2) := by decide +kernel
theorem dX4_numbersBehind_9 : decode cX4_numbersBehind 9 = .ok (.if_icmp .ne 7, 3) := by decide +kernel
theorem dX4_numbersBehind_12 : decode cX4_numbersBehind 12 = .ok (.iconst 3, 1) := by decide +kernel
theorem dX4_numbersBehind_13 : decode cX4_numbersBehind 13 = .ok (.goto 4, 3) := by decide +kernel
theorem dX4_numbersBehind_16 : decode cX4_numbersBehind 16 = .ok (.iconst 1, 1) := by decide +kernel
theorem dX4_numbersBehind_17 : decode cX4_numbersBehind 17 = .ok (.ireturn, 1) := by decide +kernel
def F4_numbersBehind (p0 : Int32) (st : fkS) : Option (Int32 × fkS) :=
 if p0 = (98 : Int32) then
 (some ((3 : Int32), st))
 else
 (if p0 = (103 : Int32) then
 (some ((3 : Int32), st))
 else
 (some ((1 : Int32), st)))
set_option maxHeartbeats 1000000 in
set_option maxRecDepth 20000 in
theorem C4_numbersBehind (p0 : Int32) (st : fkS) {g : fkG} (l : Launch) (o : Int32 × fkS) (hF : F4_numbersBehind p0 st = some o) : fk_C wC yX4_numbersBehind cX4_numbersBehind 1 (some (.int)) 0 0 l g [.int p0] st (fk_eI o.1) o.2 := by
  refine fk_begin rfl (Nat.le_of_ble_eq_true rfl) (fun k hk => ?_) o hF
  have hk : fk_ok wC g k RX4 cX4_numbersBehind 1 (some (.int)) 0 0 := hk
  show fk_J wC g fk_eI k 0 [(0, .int p0)] [] st (F4_numbersBehind p0 st)
  unfold F4_numbersBehind
  refine j_iload_n (pc := 0) hk 0 rfl dX4_numbersBehind_0 ?_
  refine j_bipush (pc := 1) hk dX4_numbersBehind_1 (v := 98) (by decide) ?_
  refine j_icmp_eq (tgt := 12) (pc := 3) hk (by decide) dX4_numbersBehind_3 (fun _ => ?_) (fun _ => ?_)
  · refine j_iconst (pc := 12) hk dX4_numbersBehind_12 (v := 3) (by decide) ?_
    refine j_goto (tgt := 17) (pc := 13) hk (by decide) dX4_numbersBehind_13 ?_
    exact j_iret (pc := 17) hk dX4_numbersBehind_17
  · refine j_iload_n (pc := 6) hk 0 rfl dX4_numbersBehind_6 ?_
    refine j_bipush (pc := 7) hk dX4_numbersBehind_7 (v := 103) (by decide) ?_
    refine j_icmp_ne (tgt := 16) (pc := 9) hk (by decide) dX4_numbersBehind_9 (fun _ => ?_) (fun _ => ?_)
    · refine j_iconst (pc := 12) hk dX4_numbersBehind_12 (v := 3) (by decide) ?_
      refine j_goto (tgt := 17) (pc := 13) hk (by decide) dX4_numbersBehind_13 ?_
      exact j_iret (pc := 17) hk dX4_numbersBehind_17
    · refine j_iconst (pc := 16) hk dX4_numbersBehind_16 (v := 1) (by decide) ?_
      exact j_iret (pc := 17) hk dX4_numbersBehind_17
theorem dX4_most_0 : decode cX4_most 0 = .ok (.iload_n 0, 1) := by decide +kernel
theorem dX4_most_1 : decode cX4_most 1 = .ok (.lookupswitch 72 #[(98, 35), (103, 57), (104, 69)], 35) := by decide +kernel
theorem dX4_most_36 : decode cX4_most 36 = .ok (.iload_n 1, 1) := by decide +kernel
theorem dX4_most_37 : decode cX4_most 37 = .ok (.ifCond .ne 8, 3) := by decide +kernel
theorem dX4_most_40 : decode cX4_most 40 = .ok (.bipush 6, 2) := by decide +kernel
theorem dX4_most_42 : decode cX4_most 42 = .ok (.goto 15, 3) := by decide +kernel
theorem dX4_most_45 : decode cX4_most 45 = .ok (.iload_n 1, 1) := by decide +kernel
theorem dX4_most_46 : decode cX4_most 46 = .ok (.iconst 1, 1) := by decide +kernel
theorem dX4_most_47 : decode cX4_most 47 = .ok (.if_icmp .ne 8, 3) := by decide +kernel
theorem dX4_most_50 : decode cX4_most 50 = .ok (.bipush 9, 2) := by decide +kernel
theorem dX4_most_52 : decode cX4_most 52 = .ok (.goto 5, 3) := by decide +kernel
theorem dX4_most_55 : decode cX4_most 55 = .ok (.bipush 19, 2) := by decide +kernel
theorem dX4_most_57 : decode cX4_most 57 = .ok (.ireturn, 1) := by decide +kernel
theorem dX4_most_58 : decode cX4_most 58 = .ok (.iload_n 1, 1) := by decide +kernel
theorem dX4_most_59 : decode cX4_most 59 = .ok (.iconst 1, 1) := by decide +kernel
theorem dX4_most_60 : decode cX4_most 60 = .ok (.if_icmp .ne 7, 3) := by decide +kernel
theorem dX4_most_63 : decode cX4_most 63 = .ok (.iconst 4, 1) := by decide +kernel
theorem dX4_most_64 : decode cX4_most 64 = .ok (.goto 5, 3) := by decide +kernel
theorem dX4_most_67 : decode cX4_most 67 = .ok (.bipush 7, 2) := by decide +kernel
theorem dX4_most_69 : decode cX4_most 69 = .ok (.ireturn, 1) := by decide +kernel
theorem dX4_most_70 : decode cX4_most 70 = .ok (.bipush 9, 2) := by decide +kernel
theorem dX4_most_72 : decode cX4_most 72 = .ok (.ireturn, 1) := by decide +kernel
theorem dX4_most_73 : decode cX4_most 73 = .ok (.bipush 7, 2) := by decide +kernel
theorem dX4_most_75 : decode cX4_most 75 = .ok (.ireturn, 1) := by decide +kernel
def F4_most (p0 : Int32) (p1 : Int32) (st : fkS) : Option (Int32 × fkS) :=
 if p0 = (98 : Int32) then
 (if p1 = 0 then
 (some ((6 : Int32), st))
 else
 (if p1 = (1 : Int32) then
 (some ((9 : Int32), st))
 else
 (some ((19 : Int32), st))))
 else
 (if p0 = (103 : Int32) then
 (if p1 = (1 : Int32) then
 (some ((4 : Int32), st))
 else
 (some ((7 : Int32), st)))
 else
 (if p0 = (104 : Int32) then
 (some ((9 : Int32), st))
 else
 (some ((7 : Int32), st))))
set_option maxHeartbeats 1000000 in
set_option maxRecDepth 20000 in
theorem C4_most (p0 : Int32) (p1 : Int32) (st : fkS) {g : fkG} (l : Launch) (o : Int32 × fkS) (hF : F4_most p0 p1 st = some o) : fk_C wC yX4_most cX4_most 2 (some (.int)) 0 0 l g [.int p0, .int p1] st (fk_eI o.1) o.2 := by
  refine fk_begin rfl (Nat.le_of_ble_eq_true rfl) (fun k hk => ?_) o hF
  have hk : fk_ok wC g k RX4 cX4_most 2 (some (.int)) 0 0 := hk
  show fk_J wC g fk_eI k 0 [(0, .int p0), (1, .int p1)] [] st (F4_most p0 p1 st)
  unfold F4_most
  refine j_iload_n (pc := 0) hk 0 rfl dX4_most_0 ?_
  refine j_case (pc := 1) hk (fun n1 => ?_) (fun n1 => ?_)
  · refine j_lsw (off := 35) (tgt := 36) (pc := 1) hk (by decide) (by rw [n1]; decide) (by decide) dX4_most_1 ?_
    refine j_iload_n (pc := 36) hk 1 rfl dX4_most_36 ?_
    refine j_if_ne (tgt := 45) (pc := 37) hk (by decide) dX4_most_37 (fun _ => ?_) (fun _ => ?_)
    · refine j_bipush (pc := 40) hk dX4_most_40 (v := 6) (by decide) ?_
      refine j_goto (tgt := 57) (pc := 42) hk (by decide) dX4_most_42 ?_
      exact j_iret (pc := 57) hk dX4_most_57
    · refine j_iload_n (pc := 45) hk 1 rfl dX4_most_45 ?_
      refine j_iconst (pc := 46) hk dX4_most_46 (v := 1) (by decide) ?_
      refine j_icmp_ne (tgt := 55) (pc := 47) hk (by decide) dX4_most_47 (fun _ => ?_) (fun _ => ?_)
      · refine j_bipush (pc := 50) hk dX4_most_50 (v := 9) (by decide) ?_
        refine j_goto (tgt := 57) (pc := 52) hk (by decide) dX4_most_52 ?_
        exact j_iret (pc := 57) hk dX4_most_57
      · refine j_bipush (pc := 55) hk dX4_most_55 (v := 19) (by decide) ?_
        exact j_iret (pc := 57) hk dX4_most_57
  · refine j_case (pc := 1) hk (fun n2 => ?_) (fun n2 => ?_)
    · refine j_lsw (off := 57) (tgt := 58) (pc := 1) hk (by decide) (by rw [n2]; decide) (by decide) dX4_most_1 ?_
      refine j_iload_n (pc := 58) hk 1 rfl dX4_most_58 ?_
      refine j_iconst (pc := 59) hk dX4_most_59 (v := 1) (by decide) ?_
      refine j_icmp_ne (tgt := 67) (pc := 60) hk (by decide) dX4_most_60 (fun _ => ?_) (fun _ => ?_)
      · refine j_iconst (pc := 63) hk dX4_most_63 (v := 4) (by decide) ?_
        refine j_goto (tgt := 69) (pc := 64) hk (by decide) dX4_most_64 ?_
        exact j_iret (pc := 69) hk dX4_most_69
      · refine j_bipush (pc := 67) hk dX4_most_67 (v := 7) (by decide) ?_
        exact j_iret (pc := 69) hk dX4_most_69
    · refine j_case (pc := 1) hk (fun n3 => ?_) (fun n3 => ?_)
      · refine j_lsw (off := 69) (tgt := 70) (pc := 1) hk (by decide) (by rw [n3]; decide) (by decide) dX4_most_1 ?_
        refine j_bipush (pc := 70) hk dX4_most_70 (v := 9) (by decide) ?_
        exact j_iret (pc := 72) hk dX4_most_72
      · have mn1 := lv_neT (a := 98) n1 (by decide)
        have mn2 := lv_neT (a := 103) n2 (by decide)
        have mn3 := lv_neT (a := 104) n3 (by decide)
        refine j_lsw (off := 72) (tgt := 73) (pc := 1) hk (by decide) (fk_lsw (by intro q hq; simp only [List.mem_cons, List.not_mem_nil, or_false] at hq; rcases hq with rfl | rfl | rfl <;> simpa using by assumption)) (by decide) dX4_most_1 ?_
        refine j_bipush (pc := 73) hk dX4_most_73 (v := 7) (by decide) ?_
        exact j_iret (pc := 75) hk dX4_most_75
theorem dX4_digit_0 : decode cX4_digit 0 = .ok (.aload_n 0, 1) := by decide +kernel
theorem dX4_digit_1 : decode cX4_digit 1 = .ok (.invokevirtual 39, 3) := by decide +kernel
theorem dX4_digit_4 : decode cX4_digit 4 = .ok (.istore_n 1, 1) := by decide +kernel
theorem dX4_digit_5 : decode cX4_digit 5 = .ok (.iload_n 1, 1) := by decide +kernel
theorem dX4_digit_6 : decode cX4_digit 6 = .ok (.bipush 48, 2) := by decide +kernel
theorem dX4_digit_8 : decode cX4_digit 8 = .ok (.if_icmp .lt 9, 3) := by decide +kernel
theorem dX4_digit_11 : decode cX4_digit 11 = .ok (.iload_n 1, 1) := by decide +kernel
theorem dX4_digit_12 : decode cX4_digit 12 = .ok (.bipush 57, 2) := by decide +kernel
theorem dX4_digit_14 : decode cX4_digit 14 = .ok (.if_icmp .le 7, 3) := by decide +kernel
theorem dX4_digit_17 : decode cX4_digit 17 = .ok (.iconst (-1), 1) := by decide +kernel
theorem dX4_digit_18 : decode cX4_digit 18 = .ok (.goto 7, 3) := by decide +kernel
theorem dX4_digit_21 : decode cX4_digit 21 = .ok (.iload_n 1, 1) := by decide +kernel
theorem dX4_digit_22 : decode cX4_digit 22 = .ok (.bipush 48, 2) := by decide +kernel
theorem dX4_digit_24 : decode cX4_digit 24 = .ok (.isub, 1) := by decide +kernel
theorem dX4_digit_25 : decode cX4_digit 25 = .ok (.ireturn, 1) := by decide +kernel
def F4_digit (st : fkS) : Option (Int32 × fkS) :=
 fk_bind (F4_letter st) <| fun x1 st2 =>
 if x1 < (48 : Int32) then
 (some ((-1 : Int32), st2))
 else
 (if x1 ≤ (57 : Int32) then
 (some ((x1 - (48 : Int32)), st2))
 else
 (some ((-1 : Int32), st2)))
set_option maxHeartbeats 1000000 in
set_option maxRecDepth 20000 in
theorem C4_digit (st : fkS) {g : fkG} (l : Launch) (o : Int32 × fkS) (hF : F4_digit st = some o) : fk_C wC yX4_digit cX4_digit 2 (some (.int)) 1 20 l g [fk_r g 34] st (fk_eI o.1) o.2 := by
  refine fk_begin rfl (Nat.le_of_ble_eq_true rfl) (fun k hk => ?_) o hF
  have hk : fk_ok wC g k RX4 cX4_digit 2 (some (.int)) 1 20 := hk
  show fk_J wC g fk_eI k 0 [(0, fk_r g 34)] [] st (F4_digit st)
  unfold F4_digit
  refine j_aload_n (pc := 0) hk 0 rfl ⟨_, rfl⟩ dX4_digit_0 ?_
  refine j_callVi (pc := 1) hk [] [] rfl (fun l o hq9 => C4_letter st l o hq9) (rcv_4 (rfl)) yv_X4_letter ml_4_39 rfl (Nat.le_of_ble_eq_true rfl) (Nat.le_of_ble_eq_true rfl) (Nat.le_of_ble_eq_true rfl) dX4_digit_1 (fun x1 st2 => ?_)
  refine j_istore_n (lv' := ((1, .int x1) :: [(0, fk_r g 34)])) (pc := 4) hk rfl (by decide) rfl dX4_digit_4 ?_
  refine j_sub hk (lv' := [(0, fk_r g 34), (1, .int x1)]) [1, 0] rfl ?_
  refine j_iload_n (pc := 5) hk 1 rfl dX4_digit_5 ?_
  refine j_bipush (pc := 6) hk dX4_digit_6 (v := 48) (by decide) ?_
  refine j_icmp_lt (tgt := 17) (pc := 8) hk (by decide) dX4_digit_8 (fun _ => ?_) (fun _ => ?_)
  · refine j_iconst (pc := 17) hk dX4_digit_17 (v := -1) (by decide) ?_
    refine j_goto (tgt := 25) (pc := 18) hk (by decide) dX4_digit_18 ?_
    exact j_iret (pc := 25) hk dX4_digit_25
  · refine j_iload_n (pc := 11) hk 1 rfl dX4_digit_11 ?_
    refine j_bipush (pc := 12) hk dX4_digit_12 (v := 57) (by decide) ?_
    refine j_icmp_le (tgt := 21) (pc := 14) hk (by decide) dX4_digit_14 (fun _ => ?_) (fun _ => ?_)
    · refine j_iload_n (pc := 21) hk 1 rfl dX4_digit_21 ?_
      refine j_bipush (pc := 22) hk dX4_digit_22 (v := 48) (by decide) ?_
      refine j_isub (pc := 24) hk dX4_digit_24 ?_
      exact j_iret (pc := 25) hk dX4_digit_25
    · refine j_iconst (pc := 17) hk dX4_digit_17 (v := -1) (by decide) ?_
      refine j_goto (tgt := 25) (pc := 18) hk (by decide) dX4_digit_18 ?_
      exact j_iret (pc := 25) hk dX4_digit_25
theorem dX4_readNumber_0 : decode cX4_readNumber 0 = .ok (.aload_n 0, 1) := by decide +kernel
theorem dX4_readNumber_1 : decode cX4_readNumber 1 = .ok (.getfield 15, 3) := by decide +kernel
theorem dX4_readNumber_4 : decode cX4_readNumber 4 = .ok (.istore_n 2, 1) := by decide +kernel
theorem dX4_readNumber_5 : decode cX4_readNumber 5 = .ok (.aload_n 0, 1) := by decide +kernel
theorem dX4_readNumber_6 : decode cX4_readNumber 6 = .ok (.invokevirtual 112, 3) := by decide +kernel
theorem dX4_readNumber_9 : decode cX4_readNumber 9 = .ok (.istore_n 3, 1) := by decide +kernel
theorem dX4_readNumber_10 : decode cX4_readNumber 10 = .ok (.iload_n 3, 1) := by decide +kernel
theorem dX4_readNumber_11 : decode cX4_readNumber 11 = .ok (.iconst (-1), 1) := by decide +kernel
theorem dX4_readNumber_12 : decode cX4_readNumber 12 = .ok (.if_icmp .ne 13, 3) := by decide +kernel
theorem dX4_readNumber_15 : decode cX4_readNumber 15 = .ok (.aload_n 0, 1) := by decide +kernel
theorem dX4_readNumber_16 : decode cX4_readNumber 16 = .ok (.aload_n 0, 1) := by decide +kernel
theorem dX4_readNumber_17 : decode cX4_readNumber 17 = .ok (.getfield 15, 3) := by decide +kernel
theorem dX4_readNumber_20 : decode cX4_readNumber 20 = .ok (.invokevirtual 60, 3) := by decide +kernel
theorem dX4_readNumber_23 : decode cX4_readNumber 23 = .ok (.iconst 0, 1) := by decide +kernel
theorem dX4_readNumber_24 : decode cX4_readNumber 24 = .ok (.ireturn, 1) := by decide +kernel
theorem dX4_readNumber_25 : decode cX4_readNumber 25 = .ok (.aload_n 0, 1) := by decide +kernel
theorem dX4_readNumber_26 : decode cX4_readNumber 26 = .ok (.dup, 1) := by decide +kernel
theorem dX4_readNumber_27 : decode cX4_readNumber 27 = .ok (.getfield 15, 3) := by decide +kernel
theorem dX4_readNumber_30 : decode cX4_readNumber 30 = .ok (.iconst 1, 1) := by decide +kernel
theorem dX4_readNumber_31 : decode cX4_readNumber 31 = .ok (.iadd, 1) := by decide +kernel
theorem dX4_readNumber_32 : decode cX4_readNumber 32 = .ok (.putfield 15, 3) := by decide +kernel
theorem dX4_readNumber_35 : decode cX4_readNumber 35 = .ok (.aload_n 0, 1) := by decide +kernel
theorem dX4_readNumber_36 : decode cX4_readNumber 36 = .ok (.invokevirtual 112, 3) := by decide +kernel
theorem dX4_readNumber_39 : decode cX4_readNumber 39 = .ok (.istore 4, 2) := by decide +kernel
theorem dX4_readNumber_41 : decode cX4_readNumber 41 = .ok (.iload 4, 2) := by decide +kernel
theorem dX4_readNumber_43 : decode cX4_readNumber 43 = .ok (.iconst (-1), 1) := by decide +kernel
theorem dX4_readNumber_44 : decode cX4_readNumber 44 = .ok (.if_icmp .eq 21, 3) := by decide +kernel
theorem dX4_readNumber_47 : decode cX4_readNumber 47 = .ok (.aload_n 0, 1) := by decide +kernel
theorem dX4_readNumber_48 : decode cX4_readNumber 48 = .ok (.dup, 1) := by decide +kernel
theorem dX4_readNumber_49 : decode cX4_readNumber 49 = .ok (.getfield 15, 3) := by decide +kernel
theorem dX4_readNumber_52 : decode cX4_readNumber 52 = .ok (.iconst 1, 1) := by decide +kernel
theorem dX4_readNumber_53 : decode cX4_readNumber 53 = .ok (.iadd, 1) := by decide +kernel
theorem dX4_readNumber_54 : decode cX4_readNumber 54 = .ok (.putfield 15, 3) := by decide +kernel
theorem dX4_readNumber_57 : decode cX4_readNumber 57 = .ok (.bipush 10, 2) := by decide +kernel
theorem dX4_readNumber_59 : decode cX4_readNumber 59 = .ok (.iload_n 3, 1) := by decide +kernel
theorem dX4_readNumber_60 : decode cX4_readNumber 60 = .ok (.imul, 1) := by decide +kernel
theorem dX4_readNumber_61 : decode cX4_readNumber 61 = .ok (.iload 4, 2) := by decide +kernel
theorem dX4_readNumber_63 : decode cX4_readNumber 63 = .ok (.iadd, 1) := by decide +kernel
theorem dX4_readNumber_64 : decode cX4_readNumber 64 = .ok (.istore_n 3, 1) := by decide +kernel
theorem dX4_readNumber_65 : decode cX4_readNumber 65 = .ok (.iload_n 3, 1) := by decide +kernel
theorem dX4_readNumber_66 : decode cX4_readNumber 66 = .ok (.iload_n 1, 1) := by decide +kernel
theorem dX4_readNumber_67 : decode cX4_readNumber 67 = .ok (.if_icmp .le 8, 3) := by decide +kernel
theorem dX4_readNumber_70 : decode cX4_readNumber 70 = .ok (.aload_n 0, 1) := by decide +kernel
theorem dX4_readNumber_71 : decode cX4_readNumber 71 = .ok (.iload_n 2, 1) := by decide +kernel
theorem dX4_readNumber_72 : decode cX4_readNumber 72 = .ok (.invokevirtual 60, 3) := by decide +kernel
theorem dX4_readNumber_75 : decode cX4_readNumber 75 = .ok (.iload_n 3, 1) := by decide +kernel
theorem dX4_readNumber_76 : decode cX4_readNumber 76 = .ok (.ireturn, 1) := by decide +kernel
def B4_readNumber_65 (v1 : Int32) (v2 : Int32) (v3 : Int32) (st : fkS) : Option (Int32 × fkS) :=
 if v3 ≤ v1 then
 (some (v3, st))
 else
 (fk_bind (F4_fail v2 st) <| fun _ st12 =>
 some (v3, st12))
set_option maxHeartbeats 1000000 in
set_option maxRecDepth 20000 in
theorem T4_readNumber_65 {g : fkG} {k : fkK} (hk : fk_ok wC g k RX4 cX4_readNumber 5 (some (.int)) 2 41) : ∀ (v1 : Int32) (v2 : Int32) (v3 : Int32) (st : fkS), fk_J wC g fk_eI k 65 [(0, fk_r g 34), (1, .int v1), (2, .int v2), (3, .int v3)] [] st (B4_readNumber_65 v1 v2 v3 st) := by
  intro v1 v2 v3 st
  unfold B4_readNumber_65
  refine j_iload_n (pc := 65) hk 3 rfl dX4_readNumber_65 ?_
  refine j_iload_n (pc := 66) hk 1 rfl dX4_readNumber_66 ?_
  refine j_icmp_le (tgt := 75) (pc := 67) hk (by decide) dX4_readNumber_67 (fun _ => ?_) (fun _ => ?_)
  · refine j_iload_n (pc := 75) hk 3 rfl dX4_readNumber_75 ?_
    exact j_iret (pc := 76) hk dX4_readNumber_76
  · refine j_aload_n (pc := 70) hk 0 rfl ⟨_, rfl⟩ dX4_readNumber_70 ?_
    refine j_iload_n (pc := 71) hk 2 rfl dX4_readNumber_71 ?_
    refine j_callVv (pc := 72) hk [.int v2] [] rfl (fun l o hq9 => C4_fail v2 st l o hq9) (rcv_4 (rfl)) yv_X4_fail ml_4_60 rfl (Nat.le_of_ble_eq_true rfl) (Nat.le_of_ble_eq_true rfl) (Nat.le_of_ble_eq_true rfl) dX4_readNumber_72 (fun _ st12 => ?_)
    refine j_iload_n (pc := 75) hk 3 rfl dX4_readNumber_75 ?_
    exact j_iret (pc := 76) hk dX4_readNumber_76
def F4_readNumber (p1 : Int32) (st : fkS) : Option (Int32 × fkS) :=
 fk_let (gI st 81 34) <| fun x1 =>
 fk_bind (F4_digit st) <| fun x2 st3 =>
 if x2 = (-1 : Int32) then
 (fk_let (gI st3 81 34) <| fun x4 =>
 fk_bind (F4_fail x4 st3) <| fun _ st5 =>
 some ((0 : Int32), st5))
 else
 (fk_let (gI st3 81 34) <| fun x6 =>
 fk_let (sI st3 81 34 (x6 + (1 : Int32))) <| fun st7 =>
 fk_bind (F4_digit st7) <| fun x8 st9 =>
 if x8 = (-1 : Int32) then
 (B4_readNumber_65 p1 x1 x2 st9)
 else
 (fk_let (gI st9 81 34) <| fun x10 =>
 fk_let (sI st9 81 34 (x10 + (1 : Int32))) <| fun st11 =>
 B4_readNumber_65 p1 x1 (((10 : Int32) * x2) + x8) st11))
set_option maxHeartbeats 1000000 in
set_option maxRecDepth 20000 in
theorem C4_readNumber (p1 : Int32) (st : fkS) {g : fkG} (l : Launch) (o : Int32 × fkS) (hF : F4_readNumber p1 st = some o) : fk_C wC yX4_readNumber cX4_readNumber 5 (some (.int)) 2 41 l g [fk_r g 34, .int p1] st (fk_eI o.1) o.2 := by
  refine fk_begin rfl (Nat.le_of_ble_eq_true rfl) (fun k hk => ?_) o hF
  have hk : fk_ok wC g k RX4 cX4_readNumber 5 (some (.int)) 2 41 := hk
  show fk_J wC g fk_eI k 0 [(0, fk_r g 34), (1, .int p1)] [] st (F4_readNumber p1 st)
  unfold F4_readNumber
  refine j_aload_n (pc := 0) hk 0 rfl ⟨_, rfl⟩ dX4_readNumber_0 ?_
  refine f_4_15 (pc := 1) hk (rfl) dX4_readNumber_1 (fun x1 => ?_)
  refine j_istore_n (lv' := ((2, .int x1) :: [(0, fk_r g 34), (1, .int p1)])) (pc := 4) hk rfl (by decide) rfl dX4_readNumber_4 ?_
  refine j_sub hk (lv' := [(0, fk_r g 34), (1, .int p1), (2, .int x1)]) [1, 2, 0] rfl ?_
  refine j_aload_n (pc := 5) hk 0 rfl ⟨_, rfl⟩ dX4_readNumber_5 ?_
  refine j_callVi (pc := 6) hk [] [] rfl (fun l o hq9 => C4_digit st l o hq9) (rcv_4 (rfl)) yv_X4_digit ml_4_112 rfl (Nat.le_of_ble_eq_true rfl) (Nat.le_of_ble_eq_true rfl) (Nat.le_of_ble_eq_true rfl) dX4_readNumber_6 (fun x2 st3 => ?_)
  refine j_istore_n (lv' := ((3, .int x2) :: [(0, fk_r g 34), (1, .int p1), (2, .int x1)])) (pc := 9) hk rfl (by decide) rfl dX4_readNumber_9 ?_
  refine j_sub hk (lv' := [(0, fk_r g 34), (1, .int p1), (2, .int x1), (3, .int x2)]) [1, 2, 3, 0] rfl ?_
  refine j_iload_n (pc := 10) hk 3 rfl dX4_readNumber_10 ?_
  refine j_iconst (pc := 11) hk dX4_readNumber_11 (v := -1) (by decide) ?_
  refine j_icmp_ne (tgt := 25) (pc := 12) hk (by decide) dX4_readNumber_12 (fun _ => ?_) (fun _ => ?_)
  · refine j_aload_n (pc := 15) hk 0 rfl ⟨_, rfl⟩ dX4_readNumber_15 ?_
    refine j_aload_n (pc := 16) hk 0 rfl ⟨_, rfl⟩ dX4_readNumber_16 ?_
    refine f_4_15 (pc := 17) hk (rfl) dX4_readNumber_17 (fun x4 => ?_)
    refine j_callVv (pc := 20) hk [.int x4] [] rfl (fun l o hq9 => C4_fail x4 st3 l o hq9) (rcv_4 (rfl)) yv_X4_fail ml_4_60 rfl (Nat.le_of_ble_eq_true rfl) (Nat.le_of_ble_eq_true rfl) (Nat.le_of_ble_eq_true rfl) dX4_readNumber_20 (fun _ st5 => ?_)
    refine j_iconst (pc := 23) hk dX4_readNumber_23 (v := 0) (by decide) ?_
    exact j_iret (pc := 24) hk dX4_readNumber_24
  · refine j_aload_n (pc := 25) hk 0 rfl ⟨_, rfl⟩ dX4_readNumber_25 ?_
    refine j_dup (pc := 26) hk rfl dX4_readNumber_26 ?_
    refine f_4_15 (pc := 27) hk (rfl) dX4_readNumber_27 (fun x6 => ?_)
    refine j_iconst (pc := 30) hk dX4_readNumber_30 (v := 1) (by decide) ?_
    refine j_iadd (pc := 31) hk dX4_readNumber_31 ?_
    refine p_4_15 (pc := 32) hk (rfl) dX4_readNumber_32 (fun st7 => ?_)
    refine j_aload_n (pc := 35) hk 0 rfl ⟨_, rfl⟩ dX4_readNumber_35 ?_
    refine j_callVi (pc := 36) hk [] [] rfl (fun l o hq9 => C4_digit st7 l o hq9) (rcv_4 (rfl)) yv_X4_digit ml_4_112 rfl (Nat.le_of_ble_eq_true rfl) (Nat.le_of_ble_eq_true rfl) (Nat.le_of_ble_eq_true rfl) dX4_readNumber_36 (fun x8 st9 => ?_)
    refine j_istore (lv' := ((4, .int x8) :: [(0, fk_r g 34), (1, .int p1), (2, .int x1), (3, .int x2)])) (pc := 39) hk (by decide) rfl dX4_readNumber_39 ?_
    refine j_sub hk (lv' := [(0, fk_r g 34), (1, .int p1), (2, .int x1), (3, .int x2), (4, .int x8)]) [1, 2, 3, 4, 0] rfl ?_
    refine j_iload (pc := 41) hk 4 rfl dX4_readNumber_41 ?_
    refine j_iconst (pc := 43) hk dX4_readNumber_43 (v := -1) (by decide) ?_
    refine j_icmp_eq (tgt := 65) (pc := 44) hk (by decide) dX4_readNumber_44 (fun _ => ?_) (fun _ => ?_)
    · exact j_sub hk [0, 1, 2, 3] rfl (T4_readNumber_65 hk p1 x1 x2 st9)
    · refine j_aload_n (pc := 47) hk 0 rfl ⟨_, rfl⟩ dX4_readNumber_47 ?_
      refine j_dup (pc := 48) hk rfl dX4_readNumber_48 ?_
      refine f_4_15 (pc := 49) hk (rfl) dX4_readNumber_49 (fun x10 => ?_)
      refine j_iconst (pc := 52) hk dX4_readNumber_52 (v := 1) (by decide) ?_
      refine j_iadd (pc := 53) hk dX4_readNumber_53 ?_
      refine p_4_15 (pc := 54) hk (rfl) dX4_readNumber_54 (fun st11 => ?_)
      refine j_bipush (pc := 57) hk dX4_readNumber_57 (v := 10) (by decide) ?_
      refine j_iload_n (pc := 59) hk 3 rfl dX4_readNumber_59 ?_
      refine j_imul (pc := 60) hk dX4_readNumber_60 ?_
      refine j_iload (pc := 61) hk 4 rfl dX4_readNumber_61 ?_
      refine j_iadd (pc := 63) hk dX4_readNumber_63 ?_
      refine j_istore_n (lv' := ((3, .int (((10 : Int32) * x2) + x8)) :: [(0, fk_r g 34), (1, .int p1), (2, .int x1), (4, .int x8)])) (pc := 64) hk rfl (by decide) rfl dX4_readNumber_64 ?_
      refine j_sub hk (lv' := [(0, fk_r g 34), (1, .int p1), (2, .int x1), (3, .int (((10 : Int32) * x2) + x8)), (4, .int x8)]) [1, 2, 3, 0, 4] rfl ?_
      exact j_sub hk [0, 1, 2, 3] rfl (T4_readNumber_65 hk p1 x1 (((10 : Int32) * x2) + x8) st11)
theorem dX4_tell_0 : decode cX4_tell 0 = .ok (.iload_n 2, 1) := by decide +kernel
theorem dX4_tell_1 : decode cX4_tell 1 = .ok (.lookupswitch 147 #[(98, 51), (103, 102), (104, 76), (105, 127), (115, 89)], 51) := by decide +kernel
theorem dX4_tell_52 : decode cX4_tell 52 = .ok (.aload_n 1, 1) := by decide +kernel
theorem dX4_tell_53 : decode cX4_tell 53 = .ok (.aload_n 0, 1) := by decide +kernel
theorem dX4_tell_54 : decode cX4_tell 54 = .ok (.getfield 22, 3) := by decide +kernel
theorem dX4_tell_57 : decode cX4_tell 57 = .ok (.iconst 0, 1) := by decide +kernel
theorem dX4_tell_58 : decode cX4_tell 58 = .ok (.iaload, 1) := by decide +kernel
theorem dX4_tell_59 : decode cX4_tell 59 = .ok (.aload_n 0, 1) := by decide +kernel
theorem dX4_tell_60 : decode cX4_tell 60 = .ok (.getfield 22, 3) := by decide +kernel
theorem dX4_tell_63 : decode cX4_tell 63 = .ok (.iconst 1, 1) := by decide +kernel
theorem dX4_tell_64 : decode cX4_tell 64 = .ok (.iaload, 1) := by decide +kernel
theorem dX4_tell_65 : decode cX4_tell 65 = .ok (.aload_n 0, 1) := by decide +kernel
theorem dX4_tell_66 : decode cX4_tell 66 = .ok (.getfield 22, 3) := by decide +kernel
theorem dX4_tell_69 : decode cX4_tell 69 = .ok (.iconst 2, 1) := by decide +kernel
theorem dX4_tell_70 : decode cX4_tell 70 = .ok (.iaload, 1) := by decide +kernel
theorem dX4_tell_71 : decode cX4_tell 71 = .ok (.invokevirtual 84, 3) := by decide +kernel
theorem dX4_tell_74 : decode cX4_tell 74 = .ok (.goto 93, 3) := by decide +kernel
theorem dX4_tell_77 : decode cX4_tell 77 = .ok (.aload_n 1, 1) := by decide +kernel
theorem dX4_tell_78 : decode cX4_tell 78 = .ok (.aload_n 0, 1) := by decide +kernel
theorem dX4_tell_79 : decode cX4_tell 79 = .ok (.getfield 22, 3) := by decide +kernel
theorem dX4_tell_82 : decode cX4_tell 82 = .ok (.iconst 0, 1) := by decide +kernel
theorem dX4_tell_83 : decode cX4_tell 83 = .ok (.iaload, 1) := by decide +kernel
theorem dX4_tell_84 : decode cX4_tell 84 = .ok (.putfield 88, 3) := by decide +kernel
theorem dX4_tell_87 : decode cX4_tell 87 = .ok (.goto 80, 3) := by decide +kernel
theorem dX4_tell_90 : decode cX4_tell 90 = .ok (.aload_n 1, 1) := by decide +kernel
theorem dX4_tell_91 : decode cX4_tell 91 = .ok (.aload_n 0, 1) := by decide +kernel
theorem dX4_tell_92 : decode cX4_tell 92 = .ok (.getfield 22, 3) := by decide +kernel
theorem dX4_tell_95 : decode cX4_tell 95 = .ok (.iconst 0, 1) := by decide +kernel
theorem dX4_tell_96 : decode cX4_tell 96 = .ok (.iaload, 1) := by decide +kernel
theorem dX4_tell_97 : decode cX4_tell 97 = .ok (.putfield 91, 3) := by decide +kernel
theorem dX4_tell_100 : decode cX4_tell 100 = .ok (.goto 67, 3) := by decide +kernel
theorem dX4_tell_103 : decode cX4_tell 103 = .ok (.aload_n 1, 1) := by decide +kernel
theorem dX4_tell_104 : decode cX4_tell 104 = .ok (.aload_n 0, 1) := by decide +kernel
theorem dX4_tell_105 : decode cX4_tell 105 = .ok (.getfield 22, 3) := by decide +kernel
theorem dX4_tell_108 : decode cX4_tell 108 = .ok (.iconst 0, 1) := by decide +kernel
theorem dX4_tell_109 : decode cX4_tell 109 = .ok (.iaload, 1) := by decide +kernel
theorem dX4_tell_110 : decode cX4_tell 110 = .ok (.aload_n 0, 1) := by decide +kernel
theorem dX4_tell_111 : decode cX4_tell 111 = .ok (.getfield 22, 3) := by decide +kernel
theorem dX4_tell_114 : decode cX4_tell 114 = .ok (.iconst 1, 1) := by decide +kernel
theorem dX4_tell_115 : decode cX4_tell 115 = .ok (.iaload, 1) := by decide +kernel
theorem dX4_tell_116 : decode cX4_tell 116 = .ok (.aload_n 0, 1) := by decide +kernel
theorem dX4_tell_117 : decode cX4_tell 117 = .ok (.getfield 22, 3) := by decide +kernel
theorem dX4_tell_120 : decode cX4_tell 120 = .ok (.iconst 2, 1) := by decide +kernel
theorem dX4_tell_121 : decode cX4_tell 121 = .ok (.iaload, 1) := by decide +kernel
theorem dX4_tell_122 : decode cX4_tell 122 = .ok (.invokevirtual 94, 3) := by decide +kernel
theorem dX4_tell_125 : decode cX4_tell 125 = .ok (.goto 42, 3) := by decide +kernel
theorem dX4_tell_128 : decode cX4_tell 128 = .ok (.aload_n 1, 1) := by decide +kernel
theorem dX4_tell_129 : decode cX4_tell 129 = .ok (.dup, 1) := by decide +kernel
theorem dX4_tell_130 : decode cX4_tell 130 = .ok (.getfield 97, 3) := by decide +kernel
theorem dX4_tell_133 : decode cX4_tell 133 = .ok (.iconst 1, 1) := by decide +kernel
theorem dX4_tell_134 : decode cX4_tell 134 = .ok (.aload_n 0, 1) := by decide +kernel
theorem dX4_tell_135 : decode cX4_tell 135 = .ok (.getfield 22, 3) := by decide +kernel
theorem dX4_tell_138 : decode cX4_tell 138 = .ok (.iconst 0, 1) := by decide +kernel
theorem dX4_tell_139 : decode cX4_tell 139 = .ok (.iaload, 1) := by decide +kernel
theorem dX4_tell_140 : decode cX4_tell 140 = .ok (.ishl, 1) := by decide +kernel
theorem dX4_tell_141 : decode cX4_tell 141 = .ok (.ior, 1) := by decide +kernel
theorem dX4_tell_142 : decode cX4_tell 142 = .ok (.putfield 97, 3) := by decide +kernel
theorem dX4_tell_145 : decode cX4_tell 145 = .ok (.goto 22, 3) := by decide +kernel
theorem dX4_tell_148 : decode cX4_tell 148 = .ok (.aload_n 1, 1) := by decide +kernel
theorem dX4_tell_149 : decode cX4_tell 149 = .ok (.dup, 1) := by decide +kernel
theorem dX4_tell_150 : decode cX4_tell 150 = .ok (.getfield 97, 3) := by decide +kernel
theorem dX4_tell_153 : decode cX4_tell 153 = .ok (.iconst 1, 1) := by decide +kernel
theorem dX4_tell_154 : decode cX4_tell 154 = .ok (.aload_n 0, 1) := by decide +kernel
theorem dX4_tell_155 : decode cX4_tell 155 = .ok (.getfield 22, 3) := by decide +kernel
theorem dX4_tell_158 : decode cX4_tell 158 = .ok (.iconst 0, 1) := by decide +kernel
theorem dX4_tell_159 : decode cX4_tell 159 = .ok (.iaload, 1) := by decide +kernel
theorem dX4_tell_160 : decode cX4_tell 160 = .ok (.ishl, 1) := by decide +kernel
theorem dX4_tell_161 : decode cX4_tell 161 = .ok (.iconst (-1), 1) := by decide +kernel
theorem dX4_tell_162 : decode cX4_tell 162 = .ok (.ixor, 1) := by decide +kernel
theorem dX4_tell_163 : decode cX4_tell 163 = .ok (.iand, 1) := by decide +kernel
theorem dX4_tell_164 : decode cX4_tell 164 = .ok (.putfield 97, 3) := by decide +kernel
theorem dX4_tell_167 : decode cX4_tell 167 = .ok (.return_, 1) := by decide +kernel
def F4_tell (o1 : Nat) (p2 : Int32) (st : fkS) : Option (Unit × fkS) :=
 if p2 = (98 : Int32) then
 (fk_chk (fk_in (0 : Int32) 3) <| fk_let (gA st 35 (0 : Int32).toNatClampNeg) <| fun x2 =>
 fk_chk (fk_in (1 : Int32) 3) <| fk_let (gA st 35 (1 : Int32).toNatClampNeg) <| fun x3 =>
 fk_chk (fk_in (2 : Int32) 3) <| fk_let (gA st 35 (2 : Int32).toNatClampNeg) <| fun x4 =>
 fk_bind (F0_add o1 x2 x3 x4 st) <| fun _ st5 =>
 some ((), st5))
 else
 (if p2 = (103 : Int32) then
 (fk_chk (fk_in (0 : Int32) 3) <| fk_let (gA st 35 (0 : Int32).toNatClampNeg) <| fun x7 =>
 fk_chk (fk_in (1 : Int32) 3) <| fk_let (gA st 35 (1 : Int32).toNatClampNeg) <| fun x8 =>
 fk_chk (fk_in (2 : Int32) 3) <| fk_let (gA st 35 (2 : Int32).toNatClampNeg) <| fun x9 =>
 fk_bind (F0_setComing o1 x7 x8 x9 st) <| fun _ st10 =>
 some ((), st10))
 else
 (if p2 = (104 : Int32) then
 (fk_chk (fk_in (0 : Int32) 3) <| fk_let (gA st 35 (0 : Int32).toNatClampNeg) <| fun x12 =>
 fk_let (sI st 5 o1 x12) <| fun st13 =>
 some ((), st13))
 else
 (if p2 = (105 : Int32) then
 (fk_let (gI st 7 o1) <| fun x15 =>
 fk_chk (fk_in (0 : Int32) 3) <| fk_let (gA st 35 (0 : Int32).toNatClampNeg) <| fun x16 =>
 fk_let (sI st 7 o1 (x15 ||| ((1 : Int32) <<< (x16 &&& 31)))) <| fun st17 =>
 some ((), st17))
 else
 (if p2 = (115 : Int32) then
 (fk_chk (fk_in (0 : Int32) 3) <| fk_let (gA st 35 (0 : Int32).toNatClampNeg) <| fun x19 =>
 fk_let (sI st 6 o1 x19) <| fun st20 =>
 some ((), st20))
 else
 (fk_let (gI st 7 o1) <| fun x21 =>
 fk_chk (fk_in (0 : Int32) 3) <| fk_let (gA st 35 (0 : Int32).toNatClampNeg) <| fun x22 =>
 fk_let (sI st 7 o1 (x21 &&& (((1 : Int32) <<< (x22 &&& 31)) ^^^ (-1 : Int32)))) <| fun st23 =>
 some ((), st23))))))
set_option maxHeartbeats 1000000 in
set_option maxRecDepth 20000 in
theorem C4_tell (o1 : Nat) (ho1 : kdC o1 = 0) (p2 : Int32) (st : fkS) {g : fkG} (l : Launch) (o : Unit × fkS) (hF : F4_tell o1 p2 st = some o) : fk_C wC yX4_tell cX4_tell 3 none 2 45 l g [fk_r g 34, fk_r g o1, .int p2] st (fk_eU o.1) o.2 := by
  refine fk_begin rfl (Nat.le_of_ble_eq_true rfl) (fun k hk => ?_) o hF
  have hk : fk_ok wC g k RX4 cX4_tell 3 none 2 45 := hk
  show fk_J wC g fk_eU k 0 [(0, fk_r g 34), (1, fk_r g o1), (2, .int p2)] [] st (F4_tell o1 p2 st)
  unfold F4_tell
  refine j_iload_n (pc := 0) hk 2 rfl dX4_tell_0 ?_
  refine j_case (pc := 1) hk (fun n1 => ?_) (fun n1 => ?_)
  · refine j_lsw (off := 51) (tgt := 52) (pc := 1) hk (by decide) (by rw [n1]; decide) (by decide) dX4_tell_1 ?_
    refine j_aload_n (pc := 52) hk 1 rfl ⟨_, rfl⟩ dX4_tell_52 ?_
    refine j_aload_n (pc := 53) hk 0 rfl ⟨_, rfl⟩ dX4_tell_53 ?_
    refine f_4_22 (pc := 54) hk (rfl) dX4_tell_54 ?_
    refine j_iconst (pc := 57) hk dX4_tell_57 (v := 0) (by decide) ?_
    refine a_iload (pc := 58) hk (isI_4_3 (rfl)) dX4_tell_58 (fun x2 => ?_)
    refine j_aload_n (pc := 59) hk 0 rfl ⟨_, rfl⟩ dX4_tell_59 ?_
    refine f_4_22 (pc := 60) hk (rfl) dX4_tell_60 ?_
    refine j_iconst (pc := 63) hk dX4_tell_63 (v := 1) (by decide) ?_
    refine a_iload (pc := 64) hk (isI_4_3 (rfl)) dX4_tell_64 (fun x3 => ?_)
    refine j_aload_n (pc := 65) hk 0 rfl ⟨_, rfl⟩ dX4_tell_65 ?_
    refine f_4_22 (pc := 66) hk (rfl) dX4_tell_66 ?_
    refine j_iconst (pc := 69) hk dX4_tell_69 (v := 2) (by decide) ?_
    refine a_iload (pc := 70) hk (isI_4_3 (rfl)) dX4_tell_70 (fun x4 => ?_)
    refine j_callVNv (pc := 71) hk [.int x2, .int x3, .int x4] [] rfl (fun l o hq9 => C0_add o1 (ho1) x2 x3 x4 st l o hq9) (rcv_0 (ho1)) yv_X0_add ml_4_84 rfl (Nat.le_of_ble_eq_true rfl) (Nat.le_of_ble_eq_true rfl) (Nat.le_of_ble_eq_true rfl) dX4_tell_71 (fun _ st5 => ?_)
    refine j_goto (tgt := 167) (pc := 74) hk (by decide) dX4_tell_74 ?_
    exact j_vret (pc := 167) hk dX4_tell_167
  · refine j_case (pc := 1) hk (fun n6 => ?_) (fun n6 => ?_)
    · refine j_lsw (off := 102) (tgt := 103) (pc := 1) hk (by decide) (by rw [n6]; decide) (by decide) dX4_tell_1 ?_
      refine j_aload_n (pc := 103) hk 1 rfl ⟨_, rfl⟩ dX4_tell_103 ?_
      refine j_aload_n (pc := 104) hk 0 rfl ⟨_, rfl⟩ dX4_tell_104 ?_
      refine f_4_22 (pc := 105) hk (rfl) dX4_tell_105 ?_
      refine j_iconst (pc := 108) hk dX4_tell_108 (v := 0) (by decide) ?_
      refine a_iload (pc := 109) hk (isI_4_3 (rfl)) dX4_tell_109 (fun x7 => ?_)
      refine j_aload_n (pc := 110) hk 0 rfl ⟨_, rfl⟩ dX4_tell_110 ?_
      refine f_4_22 (pc := 111) hk (rfl) dX4_tell_111 ?_
      refine j_iconst (pc := 114) hk dX4_tell_114 (v := 1) (by decide) ?_
      refine a_iload (pc := 115) hk (isI_4_3 (rfl)) dX4_tell_115 (fun x8 => ?_)
      refine j_aload_n (pc := 116) hk 0 rfl ⟨_, rfl⟩ dX4_tell_116 ?_
      refine f_4_22 (pc := 117) hk (rfl) dX4_tell_117 ?_
      refine j_iconst (pc := 120) hk dX4_tell_120 (v := 2) (by decide) ?_
      refine a_iload (pc := 121) hk (isI_4_3 (rfl)) dX4_tell_121 (fun x9 => ?_)
      refine j_callVNv (pc := 122) hk [.int x7, .int x8, .int x9] [] rfl (fun l o hq9 => C0_setComing o1 (ho1) x7 x8 x9 st l o hq9) (rcv_0 (ho1)) yv_X0_setComing ml_4_94 rfl (Nat.le_of_ble_eq_true rfl) (Nat.le_of_ble_eq_true rfl) (Nat.le_of_ble_eq_true rfl) dX4_tell_122 (fun _ st10 => ?_)
      refine j_goto (tgt := 167) (pc := 125) hk (by decide) dX4_tell_125 ?_
      exact j_vret (pc := 167) hk dX4_tell_167
    · refine j_case (pc := 1) hk (fun n11 => ?_) (fun n11 => ?_)
      · refine j_lsw (off := 76) (tgt := 77) (pc := 1) hk (by decide) (by rw [n11]; decide) (by decide) dX4_tell_1 ?_
        refine j_aload_n (pc := 77) hk 1 rfl ⟨_, rfl⟩ dX4_tell_77 ?_
        refine j_aload_n (pc := 78) hk 0 rfl ⟨_, rfl⟩ dX4_tell_78 ?_
        refine f_4_22 (pc := 79) hk (rfl) dX4_tell_79 ?_
        refine j_iconst (pc := 82) hk dX4_tell_82 (v := 0) (by decide) ?_
        refine a_iload (pc := 83) hk (isI_4_3 (rfl)) dX4_tell_83 (fun x12 => ?_)
        refine p_4_88 (pc := 84) hk (ho1) dX4_tell_84 (fun st13 => ?_)
        refine j_goto (tgt := 167) (pc := 87) hk (by decide) dX4_tell_87 ?_
        exact j_vret (pc := 167) hk dX4_tell_167
      · refine j_case (pc := 1) hk (fun n14 => ?_) (fun n14 => ?_)
        · refine j_lsw (off := 127) (tgt := 128) (pc := 1) hk (by decide) (by rw [n14]; decide) (by decide) dX4_tell_1 ?_
          refine j_aload_n (pc := 128) hk 1 rfl ⟨_, rfl⟩ dX4_tell_128 ?_
          refine j_dup (pc := 129) hk rfl dX4_tell_129 ?_
          refine f_4_97 (pc := 130) hk (ho1) dX4_tell_130 (fun x15 => ?_)
          refine j_iconst (pc := 133) hk dX4_tell_133 (v := 1) (by decide) ?_
          refine j_aload_n (pc := 134) hk 0 rfl ⟨_, rfl⟩ dX4_tell_134 ?_
          refine f_4_22 (pc := 135) hk (rfl) dX4_tell_135 ?_
          refine j_iconst (pc := 138) hk dX4_tell_138 (v := 0) (by decide) ?_
          refine a_iload (pc := 139) hk (isI_4_3 (rfl)) dX4_tell_139 (fun x16 => ?_)
          refine j_ishl (pc := 140) hk dX4_tell_140 ?_
          refine j_ior (pc := 141) hk dX4_tell_141 ?_
          refine p_4_97 (pc := 142) hk (ho1) dX4_tell_142 (fun st17 => ?_)
          refine j_goto (tgt := 167) (pc := 145) hk (by decide) dX4_tell_145 ?_
          exact j_vret (pc := 167) hk dX4_tell_167
        · refine j_case (pc := 1) hk (fun n18 => ?_) (fun n18 => ?_)
          · refine j_lsw (off := 89) (tgt := 90) (pc := 1) hk (by decide) (by rw [n18]; decide) (by decide) dX4_tell_1 ?_
            refine j_aload_n (pc := 90) hk 1 rfl ⟨_, rfl⟩ dX4_tell_90 ?_
            refine j_aload_n (pc := 91) hk 0 rfl ⟨_, rfl⟩ dX4_tell_91 ?_
            refine f_4_22 (pc := 92) hk (rfl) dX4_tell_92 ?_
            refine j_iconst (pc := 95) hk dX4_tell_95 (v := 0) (by decide) ?_
            refine a_iload (pc := 96) hk (isI_4_3 (rfl)) dX4_tell_96 (fun x19 => ?_)
            refine p_4_91 (pc := 97) hk (ho1) dX4_tell_97 (fun st20 => ?_)
            refine j_goto (tgt := 167) (pc := 100) hk (by decide) dX4_tell_100 ?_
            exact j_vret (pc := 167) hk dX4_tell_167
          · have mn1 := lv_neT (a := 98) n1 (by decide)
            have mn6 := lv_neT (a := 103) n6 (by decide)
            have mn11 := lv_neT (a := 104) n11 (by decide)
            have mn14 := lv_neT (a := 105) n14 (by decide)
            have mn18 := lv_neT (a := 115) n18 (by decide)
            refine j_lsw (off := 147) (tgt := 148) (pc := 1) hk (by decide) (fk_lsw (by intro q hq; simp only [List.mem_cons, List.not_mem_nil, or_false] at hq; rcases hq with rfl | rfl | rfl | rfl | rfl <;> simpa using by assumption)) (by decide) dX4_tell_1 ?_
            refine j_aload_n (pc := 148) hk 1 rfl ⟨_, rfl⟩ dX4_tell_148 ?_
            refine j_dup (pc := 149) hk rfl dX4_tell_149 ?_
            refine f_4_97 (pc := 150) hk (ho1) dX4_tell_150 (fun x21 => ?_)
            refine j_iconst (pc := 153) hk dX4_tell_153 (v := 1) (by decide) ?_
            refine j_aload_n (pc := 154) hk 0 rfl ⟨_, rfl⟩ dX4_tell_154 ?_
            refine f_4_22 (pc := 155) hk (rfl) dX4_tell_155 ?_
            refine j_iconst (pc := 158) hk dX4_tell_158 (v := 0) (by decide) ?_
            refine a_iload (pc := 159) hk (isI_4_3 (rfl)) dX4_tell_159 (fun x22 => ?_)
            refine j_ishl (pc := 160) hk dX4_tell_160 ?_
            refine j_iconst (pc := 161) hk dX4_tell_161 (v := -1) (by decide) ?_
            refine j_ixor (pc := 162) hk dX4_tell_162 ?_
            refine j_iand (pc := 163) hk dX4_tell_163 ?_
            refine p_4_97 (pc := 164) hk (ho1) dX4_tell_164 (fun st23 => ?_)
            exact j_vret (pc := 167) hk dX4_tell_167
theorem dX4_readItem_0 : decode cX4_readItem 0 = .ok (.aload_n 0, 1) := by decide +kernel
theorem dX4_readItem_1 : decode cX4_readItem 1 = .ok (.getfield 15, 3) := by decide +kernel
theorem dX4_readItem_4 : decode cX4_readItem 4 = .ok (.istore_n 2, 1) := by decide +kernel
theorem dX4_readItem_5 : decode cX4_readItem 5 = .ok (.aload_n 0, 1) := by decide +kernel
theorem dX4_readItem_6 : decode cX4_readItem 6 = .ok (.invokevirtual 39, 3) := by decide +kernel
theorem dX4_readItem_9 : decode cX4_readItem 9 = .ok (.istore_n 3, 1) := by decide +kernel
theorem dX4_readItem_10 : decode cX4_readItem 10 = .ok (.iload_n 3, 1) := by decide +kernel
theorem dX4_readItem_11 : decode cX4_readItem 11 = .ok (.invokestatic 43, 3) := by decide +kernel
theorem dX4_readItem_14 : decode cX4_readItem 14 = .ok (.astore 4, 2) := by decide +kernel
theorem dX4_readItem_16 : decode cX4_readItem 16 = .ok (.iconst 0, 1) := by decide +kernel
theorem dX4_readItem_17 : decode cX4_readItem 17 = .ok (.istore 5, 2) := by decide +kernel
theorem dX4_readItem_19 : decode cX4_readItem 19 = .ok (.iload 5, 2) := by decide +kernel
theorem dX4_readItem_21 : decode cX4_readItem 21 = .ok (.aload 4, 2) := by decide +kernel
theorem dX4_readItem_23 : decode cX4_readItem 23 = .ok (.invokevirtual 47, 3) := by decide +kernel
theorem dX4_readItem_26 : decode cX4_readItem 26 = .ok (.if_icmp .ge 20, 3) := by decide +kernel
theorem dX4_readItem_29 : decode cX4_readItem 29 = .ok (.aload_n 0, 1) := by decide +kernel
theorem dX4_readItem_30 : decode cX4_readItem 30 = .ok (.aload 4, 2) := by decide +kernel
theorem dX4_readItem_32 : decode cX4_readItem 32 = .ok (.iload 5, 2) := by decide +kernel
theorem dX4_readItem_34 : decode cX4_readItem 34 = .ok (.invokevirtual 52, 3) := by decide +kernel
theorem dX4_readItem_37 : decode cX4_readItem 37 = .ok (.invokevirtual 26, 3) := by decide +kernel
theorem dX4_readItem_40 : decode cX4_readItem 40 = .ok (.iinc 5 1, 3) := by decide +kernel
theorem dX4_readItem_43 : decode cX4_readItem 43 = .ok (.goto (-24), 3) := by decide +kernel
theorem dX4_readItem_46 : decode cX4_readItem 46 = .ok (.aload 4, 2) := by decide +kernel
theorem dX4_readItem_48 : decode cX4_readItem 48 = .ok (.invokevirtual 56, 3) := by decide +kernel
theorem dX4_readItem_51 : decode cX4_readItem 51 = .ok (.ifCond .eq 11, 3) := by decide +kernel
theorem dX4_readItem_54 : decode cX4_readItem 54 = .ok (.aload_n 0, 1) := by decide +kernel
theorem dX4_readItem_55 : decode cX4_readItem 55 = .ok (.aload_n 0, 1) := by decide +kernel
theorem dX4_readItem_56 : decode cX4_readItem 56 = .ok (.getfield 15, 3) := by decide +kernel
theorem dX4_readItem_59 : decode cX4_readItem 59 = .ok (.invokevirtual 60, 3) := by decide +kernel
theorem dX4_readItem_62 : decode cX4_readItem 62 = .ok (.iload_n 3, 1) := by decide +kernel
theorem dX4_readItem_63 : decode cX4_readItem 63 = .ok (.bipush 98, 2) := by decide +kernel
theorem dX4_readItem_65 : decode cX4_readItem 65 = .ok (.if_icmp .ne 17, 3) := by decide +kernel
theorem dX4_readItem_68 : decode cX4_readItem 68 = .ok (.aload_n 1, 1) := by decide +kernel
theorem dX4_readItem_69 : decode cX4_readItem 69 = .ok (.getfield 64, 3) := by decide +kernel
theorem dX4_readItem_72 : decode cX4_readItem 72 = .ok (.bipush 7, 2) := by decide +kernel
theorem dX4_readItem_74 : decode cX4_readItem 74 = .ok (.if_icmp .lt 8, 3) := by decide +kernel
theorem dX4_readItem_77 : decode cX4_readItem 77 = .ok (.aload_n 0, 1) := by decide +kernel
theorem dX4_readItem_78 : decode cX4_readItem 78 = .ok (.iload_n 2, 1) := by decide +kernel
theorem dX4_readItem_79 : decode cX4_readItem 79 = .ok (.invokevirtual 60, 3) := by decide +kernel
theorem dX4_readItem_82 : decode cX4_readItem 82 = .ok (.iconst 0, 1) := by decide +kernel
theorem dX4_readItem_83 : decode cX4_readItem 83 = .ok (.istore 5, 2) := by decide +kernel
theorem dX4_readItem_85 : decode cX4_readItem 85 = .ok (.iload 5, 2) := by decide +kernel
theorem dX4_readItem_87 : decode cX4_readItem 87 = .ok (.iload_n 3, 1) := by decide +kernel
theorem dX4_readItem_88 : decode cX4_readItem 88 = .ok (.invokestatic 69, 3) := by decide +kernel
theorem dX4_readItem_91 : decode cX4_readItem 91 = .ok (.if_icmp .ge 42, 3) := by decide +kernel
theorem dX4_readItem_94 : decode cX4_readItem 94 = .ok (.iload 5, 2) := by decide +kernel
theorem dX4_readItem_96 : decode cX4_readItem 96 = .ok (.aload_n 0, 1) := by decide +kernel
theorem dX4_readItem_97 : decode cX4_readItem 97 = .ok (.getfield 22, 3) := by decide +kernel
theorem dX4_readItem_100 : decode cX4_readItem 100 = .ok (.arraylength, 1) := by decide +kernel
theorem dX4_readItem_101 : decode cX4_readItem 101 = .ok (.if_icmp .ge 32, 3) := by decide +kernel
theorem dX4_readItem_104 : decode cX4_readItem 104 = .ok (.aload_n 0, 1) := by decide +kernel
theorem dX4_readItem_105 : decode cX4_readItem 105 = .ok (.bipush 32, 2) := by decide +kernel
theorem dX4_readItem_107 : decode cX4_readItem 107 = .ok (.invokevirtual 26, 3) := by decide +kernel
theorem dX4_readItem_110 : decode cX4_readItem 110 = .ok (.aload_n 0, 1) := by decide +kernel
theorem dX4_readItem_111 : decode cX4_readItem 111 = .ok (.getfield 22, 3) := by decide +kernel
theorem dX4_readItem_114 : decode cX4_readItem 114 = .ok (.iload 5, 2) := by decide +kernel
theorem dX4_readItem_116 : decode cX4_readItem 116 = .ok (.aload_n 0, 1) := by decide +kernel
theorem dX4_readItem_117 : decode cX4_readItem 117 = .ok (.iload_n 3, 1) := by decide +kernel
theorem dX4_readItem_118 : decode cX4_readItem 118 = .ok (.iload 5, 2) := by decide +kernel
theorem dX4_readItem_120 : decode cX4_readItem 120 = .ok (.invokestatic 73, 3) := by decide +kernel
theorem dX4_readItem_123 : decode cX4_readItem 123 = .ok (.invokevirtual 77, 3) := by decide +kernel
theorem dX4_readItem_126 : decode cX4_readItem 126 = .ok (.iastore, 1) := by decide +kernel
theorem dX4_readItem_127 : decode cX4_readItem 127 = .ok (.iinc 5 1, 3) := by decide +kernel
theorem dX4_readItem_130 : decode cX4_readItem 130 = .ok (.goto (-45), 3) := by decide +kernel
theorem dX4_readItem_133 : decode cX4_readItem 133 = .ok (.aload_n 0, 1) := by decide +kernel
theorem dX4_readItem_134 : decode cX4_readItem 134 = .ok (.getfield 9, 3) := by decide +kernel
theorem dX4_readItem_137 : decode cX4_readItem 137 = .ok (.iconst (-1), 1) := by decide +kernel
theorem dX4_readItem_138 : decode cX4_readItem 138 = .ok (.if_icmp .ne 9, 3) := by decide +kernel
theorem dX4_readItem_141 : decode cX4_readItem 141 = .ok (.aload_n 0, 1) := by decide +kernel
theorem dX4_readItem_142 : decode cX4_readItem 142 = .ok (.aload_n 1, 1) := by decide +kernel
theorem dX4_readItem_143 : decode cX4_readItem 143 = .ok (.iload_n 3, 1) := by decide +kernel
theorem dX4_readItem_144 : decode cX4_readItem 144 = .ok (.invokevirtual 80, 3) := by decide +kernel
theorem dX4_readItem_147 : decode cX4_readItem 147 = .ok (.return_, 1) := by decide +kernel
def B4_readItem_133 (o1 : Nat) (v3 : Int32) (st : fkS) : Option (Unit × fkS) :=
 fk_let (gI st 80 34) <| fun x26 =>
 if x26 = (-1 : Int32) then
 (fk_bind (F4_tell o1 v3 st) <| fun _ st27 =>
 some ((), st27))
 else
 (some ((), st))
set_option maxHeartbeats 1000000 in
set_option maxRecDepth 20000 in
theorem T4_readItem_133 {g : fkG} {k : fkK} (o1 : Nat) (ho1 : kdC o1 = 0) (hk : fk_ok wC g k RX4 cX4_readItem 6 none 7 324) : ∀ (v3 : Int32) (st : fkS), fk_J wC g fk_eU k 133 [(0, fk_r g 34), (1, fk_r g o1), (3, .int v3)] [] st (B4_readItem_133 o1 v3 st) := by
  intro v3 st
  unfold B4_readItem_133
  refine j_aload_n (pc := 133) hk 0 rfl ⟨_, rfl⟩ dX4_readItem_133 ?_
  refine f_4_9 (pc := 134) hk (rfl) dX4_readItem_134 (fun x26 => ?_)
  refine j_iconst (pc := 137) hk dX4_readItem_137 (v := -1) (by decide) ?_
  refine j_icmp_ne (tgt := 147) (pc := 138) hk (by decide) dX4_readItem_138 (fun _ => ?_) (fun _ => ?_)
  · refine j_aload_n (pc := 141) hk 0 rfl ⟨_, rfl⟩ dX4_readItem_141 ?_
    refine j_aload_n (pc := 142) hk 1 rfl ⟨_, rfl⟩ dX4_readItem_142 ?_
    refine j_iload_n (pc := 143) hk 2 rfl dX4_readItem_143 ?_
    refine j_callVv (pc := 144) hk [fk_r g o1, .int v3] [] rfl (fun l o hq9 => C4_tell o1 (ho1) v3 st l o hq9) (rcv_4 (rfl)) yv_X4_tell ml_4_80 rfl (Nat.le_of_ble_eq_true rfl) (Nat.le_of_ble_eq_true rfl) (Nat.le_of_ble_eq_true rfl) dX4_readItem_144 (fun _ st27 => ?_)
    exact j_vret (pc := 147) hk dX4_readItem_147
  · exact j_vret (pc := 147) hk dX4_readItem_147
def B4_readItem_85 (o1 : Nat) (k85 : Int32 → Int32 → fkS → Option (Unit × fkS)) (v3 : Int32) (v5 : Int32) (st : fkS) : Option (Unit × fkS) :=
 fk_bind (F4_numbersBehind v3 st) <| fun x18 st19 =>
 if x18 ≤ v5 then
 (B4_readItem_133 o1 v3 st19)
 else
 (if (3 : Int32) ≤ v5 then
 (B4_readItem_133 o1 v3 st19)
 else
 (fk_bind (F4_expect (32 : Int32) st19) <| fun _ st20 =>
 fk_bind (F4_most v3 v5 st20) <| fun x21 st22 =>
 fk_bind (F4_readNumber x21 st22) <| fun x23 st24 =>
 fk_chk (fk_in v5 3) <| fk_let (sA st24 35 v5.toNatClampNeg x23) <| fun st25 =>
 k85 v3 (v5 + (1 : Int32)) st25))
set_option maxHeartbeats 1000000 in
set_option maxRecDepth 20000 in
theorem T4_readItem_85 {g : fkG} {k : fkK} (o1 : Nat) (ho1 : kdC o1 = 0) (hk : fk_ok wC g k RX4 cX4_readItem 6 none 7 324) (k85 : Int32 → Int32 → fkS → Option (Unit × fkS)) (H85 : ∀ (v3 : Int32) (v5 : Int32) (st : fkS), fk_J wC g fk_eU k 85 [(0, fk_r g 34), (1, fk_r g o1), (3, .int v3), (5, .int v5)] [] st (k85 v3 v5 st)) : ∀ (v3 : Int32) (v5 : Int32) (st : fkS), fk_J wC g fk_eU k 85 [(0, fk_r g 34), (1, fk_r g o1), (3, .int v3), (5, .int v5)] [] st (B4_readItem_85 o1 k85 v3 v5 st) := by
  intro v3 v5 st
  unfold B4_readItem_85
  refine j_iload (pc := 85) hk 3 rfl dX4_readItem_85 ?_
  refine j_iload_n (pc := 87) hk 2 rfl dX4_readItem_87 ?_
  refine j_callSi (pc := 88) hk [.int v3] [.int v5] rfl (fun l o hq9 => C4_numbersBehind v3 st l o hq9) yv_X4_numbersBehind ml_4_69 rfl (Nat.le_of_ble_eq_true rfl) (Nat.le_of_ble_eq_true rfl) (Nat.le_of_ble_eq_true rfl) dX4_readItem_88 (fun x18 st19 => ?_)
  refine j_icmp_ge (tgt := 133) (pc := 91) hk (by decide) dX4_readItem_91 (fun _ => ?_) (fun _ => ?_)
  · exact j_sub hk [0, 1, 2] rfl (T4_readItem_133 o1 ho1 hk v3 st19)
  · refine j_iload (pc := 94) hk 3 rfl dX4_readItem_94 ?_
    refine j_aload_n (pc := 96) hk 0 rfl ⟨_, rfl⟩ dX4_readItem_96 ?_
    refine f_4_22 (pc := 97) hk (rfl) dX4_readItem_97 ?_
    refine a_ilen (pc := 100) hk (isI_4_3 (rfl)) (v := 3) (by decide) dX4_readItem_100 ?_
    refine j_icmp_ge (tgt := 133) (pc := 101) hk (by decide) dX4_readItem_101 (fun _ => ?_) (fun _ => ?_)
    · exact j_sub hk [0, 1, 2] rfl (T4_readItem_133 o1 ho1 hk v3 st19)
    · refine j_aload_n (pc := 104) hk 0 rfl ⟨_, rfl⟩ dX4_readItem_104 ?_
      refine j_bipush (pc := 105) hk dX4_readItem_105 (v := 32) (by decide) ?_
      refine j_callVv (pc := 107) hk [.int (32 : Int32)] [] rfl (fun l o hq9 => C4_expect (32 : Int32) st19 l o hq9) (rcv_4 (rfl)) yv_X4_expect ml_4_26 rfl (Nat.le_of_ble_eq_true rfl) (Nat.le_of_ble_eq_true rfl) (Nat.le_of_ble_eq_true rfl) dX4_readItem_107 (fun _ st20 => ?_)
      refine j_aload_n (pc := 110) hk 0 rfl ⟨_, rfl⟩ dX4_readItem_110 ?_
      refine f_4_22 (pc := 111) hk (rfl) dX4_readItem_111 ?_
      refine j_iload (pc := 114) hk 3 rfl dX4_readItem_114 ?_
      refine j_aload_n (pc := 116) hk 0 rfl ⟨_, rfl⟩ dX4_readItem_116 ?_
      refine j_iload_n (pc := 117) hk 2 rfl dX4_readItem_117 ?_
      refine j_iload (pc := 118) hk 3 rfl dX4_readItem_118 ?_
      refine j_callSi (pc := 120) hk [.int v3, .int v5] [fk_r g 34, .int v5, fk_r g 35] rfl (fun l o hq9 => C4_most v3 v5 st20 l o hq9) yv_X4_most ml_4_73 rfl (Nat.le_of_ble_eq_true rfl) (Nat.le_of_ble_eq_true rfl) (Nat.le_of_ble_eq_true rfl) dX4_readItem_120 (fun x21 st22 => ?_)
      refine j_callVi (pc := 123) hk [.int x21] [.int v5, fk_r g 35] rfl (fun l o hq9 => C4_readNumber x21 st22 l o hq9) (rcv_4 (rfl)) yv_X4_readNumber ml_4_77 rfl (Nat.le_of_ble_eq_true rfl) (Nat.le_of_ble_eq_true rfl) (Nat.le_of_ble_eq_true rfl) dX4_readItem_123 (fun x23 st24 => ?_)
      refine a_istore (pc := 126) hk (isI_4_3 (rfl)) dX4_readItem_126 (fun st25 => ?_)
      refine j_iinc (dd := (1 : Int32)) (lv' := ((5, .int (v5 + (1 : Int32))) :: [(0, fk_r g 34), (1, fk_r g o1), (3, .int v3)])) (pc := 127) hk 3 rfl (by decide) (by decide) rfl dX4_readItem_127 ?_
      refine j_sub hk (lv' := [(0, fk_r g 34), (1, fk_r g o1), (3, .int v3), (5, .int (v5 + (1 : Int32)))]) [1, 2, 3, 0] rfl ?_
      refine j_goto (tgt := 85) (pc := 130) hk (by decide) dX4_readItem_130 ?_
      exact j_sub hk [0, 1, 2, 3] rfl (H85 v3 (v5 + (1 : Int32)) st25)
set_option maxHeartbeats 1000000 in
set_option maxRecDepth 20000 in
theorem L4_readItem_85 {g : fkG} {k : fkK} (o1 : Nat) (ho1 : kdC o1 = 0) (hk : fk_ok wC g k RX4 cX4_readItem 6 none 7 324) (fu : Nat) : ∀ (v3 : Int32) (v5 : Int32) (st : fkS), fk_J wC g fk_eU k 85 [(0, fk_r g 34), (1, fk_r g o1), (3, .int v3), (5, .int v5)] [] st (fk_lp2 (B4_readItem_85 o1) fu v3 v5 st) := by
  induction fu with
  | zero =>
    intro v3 v5 st
    exact j_none hk
  | succ fu ih =>
    exact T4_readItem_85 o1 ho1 hk _ ih
def B4_readItem_82 (o1 : Nat) (v3 : Int32) (st : fkS) : Option (Unit × fkS) :=
 fk_lp2 (B4_readItem_85 o1) fk_fuel v3 (0 : Int32) st
set_option maxHeartbeats 1000000 in
set_option maxRecDepth 20000 in
theorem T4_readItem_82 {g : fkG} {k : fkK} (o1 : Nat) (ho1 : kdC o1 = 0) (hk : fk_ok wC g k RX4 cX4_readItem 6 none 7 324) : ∀ (v3 : Int32) (st : fkS), fk_J wC g fk_eU k 82 [(0, fk_r g 34), (1, fk_r g o1), (3, .int v3)] [] st (B4_readItem_82 o1 v3 st) := by
  intro v3 st
  unfold B4_readItem_82
  refine j_iconst (pc := 82) hk dX4_readItem_82 (v := 0) (by decide) ?_
  refine j_istore (lv' := ((5, .int (0 : Int32)) :: [(0, fk_r g 34), (1, fk_r g o1), (3, .int v3)])) (pc := 83) hk (by decide) rfl dX4_readItem_83 ?_
  refine j_sub hk (lv' := [(0, fk_r g 34), (1, fk_r g o1), (3, .int v3), (5, .int (0 : Int32))]) [1, 2, 3, 0] rfl ?_
  exact j_sub hk [0, 1, 2, 3] rfl (L4_readItem_85 o1 ho1 hk fk_fuel v3 (0 : Int32) st)
def B4_readItem_62 (o1 : Nat) (v2 : Int32) (v3 : Int32) (st : fkS) : Option (Unit × fkS) :=
 if v3 = (98 : Int32) then
 (fk_let (gI st 0 o1) <| fun x16 =>
 if x16 < (7 : Int32) then
 (B4_readItem_82 o1 v3 st)
 else
 (fk_bind (F4_fail v2 st) <| fun _ st17 =>
 B4_readItem_82 o1 v3 st17))
 else
 (B4_readItem_82 o1 v3 st)
set_option maxHeartbeats 1000000 in
set_option maxRecDepth 20000 in
theorem T4_readItem_62 {g : fkG} {k : fkK} (o1 : Nat) (ho1 : kdC o1 = 0) (hk : fk_ok wC g k RX4 cX4_readItem 6 none 7 324) : ∀ (v2 : Int32) (v3 : Int32) (st : fkS), fk_J wC g fk_eU k 62 [(0, fk_r g 34), (1, fk_r g o1), (2, .int v2), (3, .int v3)] [] st (B4_readItem_62 o1 v2 v3 st) := by
  intro v2 v3 st
  unfold B4_readItem_62
  refine j_iload_n (pc := 62) hk 3 rfl dX4_readItem_62 ?_
  refine j_bipush (pc := 63) hk dX4_readItem_63 (v := 98) (by decide) ?_
  refine j_icmp_ne (tgt := 82) (pc := 65) hk (by decide) dX4_readItem_65 (fun _ => ?_) (fun _ => ?_)
  · refine j_aload_n (pc := 68) hk 1 rfl ⟨_, rfl⟩ dX4_readItem_68 ?_
    refine f_4_64 (pc := 69) hk (ho1) dX4_readItem_69 (fun x16 => ?_)
    refine j_bipush (pc := 72) hk dX4_readItem_72 (v := 7) (by decide) ?_
    refine j_icmp_lt (tgt := 82) (pc := 74) hk (by decide) dX4_readItem_74 (fun _ => ?_) (fun _ => ?_)
    · exact j_sub hk [0, 1, 3] rfl (T4_readItem_82 o1 ho1 hk v3 st)
    · refine j_aload_n (pc := 77) hk 0 rfl ⟨_, rfl⟩ dX4_readItem_77 ?_
      refine j_iload_n (pc := 78) hk 2 rfl dX4_readItem_78 ?_
      refine j_callVv (pc := 79) hk [.int v2] [] rfl (fun l o hq9 => C4_fail v2 st l o hq9) (rcv_4 (rfl)) yv_X4_fail ml_4_60 rfl (Nat.le_of_ble_eq_true rfl) (Nat.le_of_ble_eq_true rfl) (Nat.le_of_ble_eq_true rfl) dX4_readItem_79 (fun _ st17 => ?_)
      exact j_sub hk [0, 1, 3] rfl (T4_readItem_82 o1 ho1 hk v3 st17)
  · exact j_sub hk [0, 1, 3] rfl (T4_readItem_82 o1 ho1 hk v3 st)
def B4_readItem_19 (o1 : Nat) (k19 : Int32 → Int32 → Nat → Int32 → fkS → Option (Unit × fkS)) (v2 : Int32) (v3 : Int32) (v4 : Nat) (v5 : Int32) (st : fkS) : Option (Unit × fkS) :=
 fk_bind (FS_len v4 st) <| fun x7 st8 =>
 if x7 ≤ v5 then
 (fk_bind (FS_empty v4 st8) <| fun x9 st10 =>
 if x9 = 0 then
 (B4_readItem_62 o1 v2 v3 st10)
 else
 (fk_let (gI st10 81 34) <| fun x11 =>
 fk_bind (F4_fail x11 st10) <| fun _ st12 =>
 B4_readItem_62 o1 v2 v3 st12))
 else
 (fk_bind (FS_char v4 v5 st8) <| fun x13 st14 =>
 fk_bind (F4_expect x13 st14) <| fun _ st15 =>
 k19 v2 v3 v4 (v5 + (1 : Int32)) st15)
set_option maxHeartbeats 1000000 in
set_option maxRecDepth 20000 in
theorem T4_readItem_19 {g : fkG} {k : fkK} (o1 : Nat) (ho1 : kdC o1 = 0) (hk : fk_ok wC g k RX4 cX4_readItem 6 none 7 324) (k19 : Int32 → Int32 → Nat → Int32 → fkS → Option (Unit × fkS)) (H19 : ∀ (v2 : Int32) (v3 : Int32) (v4 : Nat) (hv4 : v4 < 7) (v5 : Int32) (st : fkS), fk_J wC g fk_eU k 19 [(0, fk_r g 34), (1, fk_r g o1), (2, .int v2), (3, .int v3), (4, fk_q g v4), (5, .int v5)] [] st (k19 v2 v3 v4 v5 st)) : ∀ (v2 : Int32) (v3 : Int32) (v4 : Nat) (hv4 : v4 < 7) (v5 : Int32) (st : fkS), fk_J wC g fk_eU k 19 [(0, fk_r g 34), (1, fk_r g o1), (2, .int v2), (3, .int v3), (4, fk_q g v4), (5, .int v5)] [] st (B4_readItem_19 o1 k19 v2 v3 v4 v5 st) := by
  intro v2 v3 v4 hv4 v5 st
  unfold B4_readItem_19
  refine j_iload (pc := 19) hk 5 rfl dX4_readItem_19 ?_
  refine j_aload (pc := 21) hk 4 rfl ⟨_, rfl⟩ dX4_readItem_21 ?_
  refine j_slen (pc := 23) hk (hv4) ml_4_47 (Nat.le_of_ble_eq_true rfl) (Nat.le_of_ble_eq_true rfl) (Nat.le_of_ble_eq_true rfl) dX4_readItem_23 (fun x7 st8 => ?_)
  refine j_icmp_ge (tgt := 46) (pc := 26) hk (by decide) dX4_readItem_26 (fun _ => ?_) (fun _ => ?_)
  · refine j_aload (pc := 46) hk 4 rfl ⟨_, rfl⟩ dX4_readItem_46 ?_
    refine j_sempty (pc := 48) hk (hv4) ml_4_56 (Nat.le_of_ble_eq_true rfl) (Nat.le_of_ble_eq_true rfl) (Nat.le_of_ble_eq_true rfl) dX4_readItem_48 (fun x9 st10 => ?_)
    refine j_if_eq (tgt := 62) (pc := 51) hk (by decide) dX4_readItem_51 (fun _ => ?_) (fun _ => ?_)
    · exact j_sub hk [0, 1, 2, 3] rfl (T4_readItem_62 o1 ho1 hk v2 v3 st10)
    · refine j_aload_n (pc := 54) hk 0 rfl ⟨_, rfl⟩ dX4_readItem_54 ?_
      refine j_aload_n (pc := 55) hk 0 rfl ⟨_, rfl⟩ dX4_readItem_55 ?_
      refine f_4_15 (pc := 56) hk (rfl) dX4_readItem_56 (fun x11 => ?_)
      refine j_callVv (pc := 59) hk [.int x11] [] rfl (fun l o hq9 => C4_fail x11 st10 l o hq9) (rcv_4 (rfl)) yv_X4_fail ml_4_60 rfl (Nat.le_of_ble_eq_true rfl) (Nat.le_of_ble_eq_true rfl) (Nat.le_of_ble_eq_true rfl) dX4_readItem_59 (fun _ st12 => ?_)
      exact j_sub hk [0, 1, 2, 3] rfl (T4_readItem_62 o1 ho1 hk v2 v3 st12)
  · refine j_aload_n (pc := 29) hk 0 rfl ⟨_, rfl⟩ dX4_readItem_29 ?_
    refine j_aload (pc := 30) hk 4 rfl ⟨_, rfl⟩ dX4_readItem_30 ?_
    refine j_iload (pc := 32) hk 5 rfl dX4_readItem_32 ?_
    refine j_schar (pc := 34) hk (hv4) ml_4_52 (Nat.le_of_ble_eq_true rfl) (Nat.le_of_ble_eq_true rfl) (Nat.le_of_ble_eq_true rfl) dX4_readItem_34 (fun x13 st14 => ?_)
    refine j_callVv (pc := 37) hk [.int x13] [] rfl (fun l o hq9 => C4_expect x13 st14 l o hq9) (rcv_4 (rfl)) yv_X4_expect ml_4_26 rfl (Nat.le_of_ble_eq_true rfl) (Nat.le_of_ble_eq_true rfl) (Nat.le_of_ble_eq_true rfl) dX4_readItem_37 (fun _ st15 => ?_)
    refine j_iinc (dd := (1 : Int32)) (lv' := ((5, .int (v5 + (1 : Int32))) :: [(0, fk_r g 34), (1, fk_r g o1), (2, .int v2), (3, .int v3), (4, fk_q g v4)])) (pc := 40) hk 5 rfl (by decide) (by decide) rfl dX4_readItem_40 ?_
    refine j_sub hk (lv' := [(0, fk_r g 34), (1, fk_r g o1), (2, .int v2), (3, .int v3), (4, fk_q g v4), (5, .int (v5 + (1 : Int32)))]) [1, 2, 3, 4, 5, 0] rfl ?_
    refine j_goto (tgt := 19) (pc := 43) hk (by decide) dX4_readItem_43 ?_
    exact j_sub hk [0, 1, 2, 3, 4, 5] rfl (H19 v2 v3 v4 (hv4) (v5 + (1 : Int32)) st15)
set_option maxHeartbeats 1000000 in
set_option maxRecDepth 20000 in
theorem L4_readItem_19 {g : fkG} {k : fkK} (o1 : Nat) (ho1 : kdC o1 = 0) (hk : fk_ok wC g k RX4 cX4_readItem 6 none 7 324) (fu : Nat) : ∀ (v2 : Int32) (v3 : Int32) (v4 : Nat) (hv4 : v4 < 7) (v5 : Int32) (st : fkS), fk_J wC g fk_eU k 19 [(0, fk_r g 34), (1, fk_r g o1), (2, .int v2), (3, .int v3), (4, fk_q g v4), (5, .int v5)] [] st (fk_lp4 (B4_readItem_19 o1) fu v2 v3 v4 v5 st) := by
  induction fu with
  | zero =>
    intro v2 v3 v4 hv4 v5 st
    exact j_none hk
  | succ fu ih =>
    exact T4_readItem_19 o1 ho1 hk _ ih
def F4_readItem (o1 : Nat) (st : fkS) : Option (Unit × fkS) :=
 fk_let (gI st 81 34) <| fun x1 =>
 fk_bind (F4_letter st) <| fun x2 st3 =>
 fk_bind (F4_wordThatBeginsWith x2 st3) <| fun x4 st5 =>
 fk_chk (decide (x4 < 7)) <|
 fk_lp4 (B4_readItem_19 o1) fk_fuel x1 x2 x4 (0 : Int32) st5
set_option maxHeartbeats 1000000 in
set_option maxRecDepth 20000 in
theorem C4_readItem (o1 : Nat) (ho1 : kdC o1 = 0) (st : fkS) {g : fkG} (l : Launch) (o : Unit × fkS) (hF : F4_readItem o1 st = some o) : fk_C wC yX4_readItem cX4_readItem 6 none 7 324 l g [fk_r g 34, fk_r g o1] st (fk_eU o.1) o.2 := by
  refine fk_begin rfl (Nat.le_of_ble_eq_true rfl) (fun k hk => ?_) o hF
  have hk : fk_ok wC g k RX4 cX4_readItem 6 none 7 324 := hk
  show fk_J wC g fk_eU k 0 [(0, fk_r g 34), (1, fk_r g o1)] [] st (F4_readItem o1 st)
  unfold F4_readItem
  refine j_aload_n (pc := 0) hk 0 rfl ⟨_, rfl⟩ dX4_readItem_0 ?_
  refine f_4_15 (pc := 1) hk (rfl) dX4_readItem_1 (fun x1 => ?_)
  refine j_istore_n (lv' := ((2, .int x1) :: [(0, fk_r g 34), (1, fk_r g o1)])) (pc := 4) hk rfl (by decide) rfl dX4_readItem_4 ?_
  refine j_sub hk (lv' := [(0, fk_r g 34), (1, fk_r g o1), (2, .int x1)]) [1, 2, 0] rfl ?_
  refine j_aload_n (pc := 5) hk 0 rfl ⟨_, rfl⟩ dX4_readItem_5 ?_
  refine j_callVi (pc := 6) hk [] [] rfl (fun l o hq9 => C4_letter st l o hq9) (rcv_4 (rfl)) yv_X4_letter ml_4_39 rfl (Nat.le_of_ble_eq_true rfl) (Nat.le_of_ble_eq_true rfl) (Nat.le_of_ble_eq_true rfl) dX4_readItem_6 (fun x2 st3 => ?_)
  refine j_istore_n (lv' := ((3, .int x2) :: [(0, fk_r g 34), (1, fk_r g o1), (2, .int x1)])) (pc := 9) hk rfl (by decide) rfl dX4_readItem_9 ?_
  refine j_sub hk (lv' := [(0, fk_r g 34), (1, fk_r g o1), (2, .int x1), (3, .int x2)]) [1, 2, 3, 0] rfl ?_
  refine j_iload_n (pc := 10) hk 3 rfl dX4_readItem_10 ?_
  refine j_callSq (pc := 11) hk [.int x2] [] rfl (fun l o hq9 => C4_wordThatBeginsWith x2 st3 l o hq9) yv_X4_wordThatBeginsWith ml_4_43 rfl (Nat.le_of_ble_eq_true rfl) (Nat.le_of_ble_eq_true rfl) (Nat.le_of_ble_eq_true rfl) dX4_readItem_11 (fun x4 st5 => ?_)
  refine j_chk (pc := 14) hk (fun hq6 => ?_)
  refine j_astore (lv' := ((4, fk_q g x4) :: [(0, fk_r g 34), (1, fk_r g o1), (2, .int x1), (3, .int x2)])) (pc := 14) hk ⟨_, rfl⟩ (by decide) rfl dX4_readItem_14 ?_
  refine j_sub hk (lv' := [(0, fk_r g 34), (1, fk_r g o1), (2, .int x1), (3, .int x2), (4, fk_q g x4)]) [1, 2, 3, 4, 0] rfl ?_
  refine j_iconst (pc := 16) hk dX4_readItem_16 (v := 0) (by decide) ?_
  refine j_istore (lv' := ((5, .int (0 : Int32)) :: [(0, fk_r g 34), (1, fk_r g o1), (2, .int x1), (3, .int x2), (4, fk_q g x4)])) (pc := 17) hk (by decide) rfl dX4_readItem_17 ?_
  refine j_sub hk (lv' := [(0, fk_r g 34), (1, fk_r g o1), (2, .int x1), (3, .int x2), (4, fk_q g x4), (5, .int (0 : Int32))]) [1, 2, 3, 4, 5, 0] rfl ?_
  exact j_sub hk [0, 1, 2, 3, 4, 5] rfl (L4_readItem_19 o1 ho1 hk fk_fuel x1 x2 x4 (of_decide_eq_true hq6) (0 : Int32) st5)
theorem dX4_read_0 : decode cX4_read 0 = .ok (.aload_n 0, 1) := by decide +kernel
theorem dX4_read_1 : decode cX4_read 1 = .ok (.aload_n 1, 1) := by decide +kernel
theorem dX4_read_2 : decode cX4_read 2 = .ok (.putfield 18, 3) := by decide +kernel
theorem dX4_read_5 : decode cX4_read 5 = .ok (.aload_n 0, 1) := by decide +kernel
theorem dX4_read_6 : decode cX4_read 6 = .ok (.iconst 0, 1) := by decide +kernel
theorem dX4_read_7 : decode cX4_read 7 = .ok (.putfield 15, 3) := by decide +kernel
theorem dX4_read_10 : decode cX4_read 10 = .ok (.aload_n 0, 1) := by decide +kernel
theorem dX4_read_11 : decode cX4_read 11 = .ok (.iconst (-1), 1) := by decide +kernel
theorem dX4_read_12 : decode cX4_read 12 = .ok (.putfield 9, 3) := by decide +kernel
theorem dX4_read_15 : decode cX4_read 15 = .ok (.iconst 0, 1) := by decide +kernel
theorem dX4_read_16 : decode cX4_read 16 = .ok (.istore_n 3, 1) := by decide +kernel
theorem dX4_read_17 : decode cX4_read 17 = .ok (.iload_n 3, 1) := by decide +kernel
theorem dX4_read_18 : decode cX4_read 18 = .ok (.ifCond .le 9, 3) := by decide +kernel
theorem dX4_read_21 : decode cX4_read 21 = .ok (.aload_n 0, 1) := by decide +kernel
theorem dX4_read_22 : decode cX4_read 22 = .ok (.bipush 59, 2) := by decide +kernel
theorem dX4_read_24 : decode cX4_read 24 = .ok (.invokevirtual 26, 3) := by decide +kernel
theorem dX4_read_27 : decode cX4_read 27 = .ok (.aload_n 0, 1) := by decide +kernel
theorem dX4_read_28 : decode cX4_read 28 = .ok (.aload_n 2, 1) := by decide +kernel
theorem dX4_read_29 : decode cX4_read 29 = .ok (.invokevirtual 30, 3) := by decide +kernel
theorem dX4_read_32 : decode cX4_read 32 = .ok (.iinc 3 1, 3) := by decide +kernel
theorem dX4_read_35 : decode cX4_read 35 = .ok (.aload_n 0, 1) := by decide +kernel
theorem dX4_read_36 : decode cX4_read 36 = .ok (.getfield 9, 3) := by decide +kernel
theorem dX4_read_39 : decode cX4_read 39 = .ok (.iconst (-1), 1) := by decide +kernel
theorem dX4_read_40 : decode cX4_read 40 = .ok (.if_icmp .ne 21, 3) := by decide +kernel
theorem dX4_read_43 : decode cX4_read 43 = .ok (.aload_n 0, 1) := by decide +kernel
theorem dX4_read_44 : decode cX4_read 44 = .ok (.getfield 15, 3) := by decide +kernel
theorem dX4_read_47 : decode cX4_read 47 = .ok (.aload_n 1, 1) := by decide +kernel
theorem dX4_read_48 : decode cX4_read 48 = .ok (.getfield 34, 3) := by decide +kernel
theorem dX4_read_51 : decode cX4_read 51 = .ok (.if_icmp .ge 10, 3) := by decide +kernel
theorem dX4_read_54 : decode cX4_read 54 = .ok (.iload_n 3, 1) := by decide +kernel
theorem dX4_read_55 : decode cX4_read 55 = .ok (.sipush 160, 3) := by decide +kernel
theorem dX4_read_58 : decode cX4_read 58 = .ok (.if_icmp .lt (-41), 3) := by decide +kernel
theorem dX4_read_61 : decode cX4_read 61 = .ok (.iload_n 3, 1) := by decide +kernel
theorem dX4_read_62 : decode cX4_read 62 = .ok (.ireturn, 1) := by decide +kernel
def B4_read_27 (o1 : Nat) (o2 : Nat) (k17 : Int32 → fkS → Option (Int32 × fkS)) (v3 : Int32) (st : fkS) : Option (Int32 × fkS) :=
 fk_bind (F4_readItem o2 st) <| fun _ st5 =>
 fk_let (gI st5 80 34) <| fun x6 =>
 if x6 = (-1 : Int32) then
 (fk_let (gI st5 81 34) <| fun x7 =>
 fk_let (gI st5 103 o1) <| fun x8 =>
 if x8 ≤ x7 then
 (some ((v3 + (1 : Int32)), st5))
 else
 (if (v3 + (1 : Int32)) < (160 : Int32) then
 (k17 (v3 + (1 : Int32)) st5)
 else
 (some ((v3 + (1 : Int32)), st5))))
 else
 (some ((v3 + (1 : Int32)), st5))
set_option maxHeartbeats 1000000 in
set_option maxRecDepth 20000 in
theorem T4_read_27 {g : fkG} {k : fkK} (o1 : Nat) (o2 : Nat) (ho1 : kdC o1 = 5) (ho2 : kdC o2 = 0) (hk : fk_ok wC g k RX4 cX4_read 4 (some (.int)) 8 349) (k17 : Int32 → fkS → Option (Int32 × fkS)) (H17 : ∀ (v3 : Int32) (st : fkS), fk_J wC g fk_eI k 17 [(0, fk_r g 34), (1, fk_r g o1), (2, fk_r g o2), (3, .int v3)] [] st (k17 v3 st)) : ∀ (v3 : Int32) (st : fkS), fk_J wC g fk_eI k 27 [(0, fk_r g 34), (1, fk_r g o1), (2, fk_r g o2), (3, .int v3)] [] st (B4_read_27 o1 o2 k17 v3 st) := by
  intro v3 st
  unfold B4_read_27
  refine j_aload_n (pc := 27) hk 0 rfl ⟨_, rfl⟩ dX4_read_27 ?_
  refine j_aload_n (pc := 28) hk 2 rfl ⟨_, rfl⟩ dX4_read_28 ?_
  refine j_callVv (pc := 29) hk [fk_r g o2] [] rfl (fun l o hq9 => C4_readItem o2 (ho2) st l o hq9) (rcv_4 (rfl)) yv_X4_readItem ml_4_30 rfl (Nat.le_of_ble_eq_true rfl) (Nat.le_of_ble_eq_true rfl) (Nat.le_of_ble_eq_true rfl) dX4_read_29 (fun _ st5 => ?_)
  refine j_iinc (dd := (1 : Int32)) (lv' := ((3, .int (v3 + (1 : Int32))) :: [(0, fk_r g 34), (1, fk_r g o1), (2, fk_r g o2)])) (pc := 32) hk 3 rfl (by decide) (by decide) rfl dX4_read_32 ?_
  refine j_sub hk (lv' := [(0, fk_r g 34), (1, fk_r g o1), (2, fk_r g o2), (3, .int (v3 + (1 : Int32)))]) [1, 2, 3, 0] rfl ?_
  refine j_aload_n (pc := 35) hk 0 rfl ⟨_, rfl⟩ dX4_read_35 ?_
  refine f_4_9 (pc := 36) hk (rfl) dX4_read_36 (fun x6 => ?_)
  refine j_iconst (pc := 39) hk dX4_read_39 (v := -1) (by decide) ?_
  refine j_icmp_ne (tgt := 61) (pc := 40) hk (by decide) dX4_read_40 (fun _ => ?_) (fun _ => ?_)
  · refine j_aload_n (pc := 43) hk 0 rfl ⟨_, rfl⟩ dX4_read_43 ?_
    refine f_4_15 (pc := 44) hk (rfl) dX4_read_44 (fun x7 => ?_)
    refine j_aload_n (pc := 47) hk 1 rfl ⟨_, rfl⟩ dX4_read_47 ?_
    refine f_4_34 (pc := 48) hk (ho1) dX4_read_48 (fun x8 => ?_)
    refine j_icmp_ge (tgt := 61) (pc := 51) hk (by decide) dX4_read_51 (fun _ => ?_) (fun _ => ?_)
    · refine j_iload_n (pc := 61) hk 3 rfl dX4_read_61 ?_
      exact j_iret (pc := 62) hk dX4_read_62
    · refine j_iload_n (pc := 54) hk 3 rfl dX4_read_54 ?_
      refine j_sipush (pc := 55) hk dX4_read_55 (v := 160) (by decide) ?_
      refine j_icmp_lt (tgt := 17) (pc := 58) hk (by decide) dX4_read_58 (fun _ => ?_) (fun _ => ?_)
      · exact j_sub hk [0, 1, 2, 3] rfl (H17 (v3 + (1 : Int32)) st5)
      · refine j_iload_n (pc := 61) hk 3 rfl dX4_read_61 ?_
        exact j_iret (pc := 62) hk dX4_read_62
  · refine j_iload_n (pc := 61) hk 3 rfl dX4_read_61 ?_
    exact j_iret (pc := 62) hk dX4_read_62
def B4_read_17 (o1 : Nat) (o2 : Nat) (k17 : Int32 → fkS → Option (Int32 × fkS)) (v3 : Int32) (st : fkS) : Option (Int32 × fkS) :=
 if v3 ≤ 0 then
 (B4_read_27 o1 o2 k17 v3 st)
 else
 (fk_bind (F4_expect (59 : Int32) st) <| fun _ st4 =>
 B4_read_27 o1 o2 k17 v3 st4)
set_option maxHeartbeats 1000000 in
set_option maxRecDepth 20000 in
theorem T4_read_17 {g : fkG} {k : fkK} (o1 : Nat) (o2 : Nat) (ho1 : kdC o1 = 5) (ho2 : kdC o2 = 0) (hk : fk_ok wC g k RX4 cX4_read 4 (some (.int)) 8 349) (k17 : Int32 → fkS → Option (Int32 × fkS)) (H17 : ∀ (v3 : Int32) (st : fkS), fk_J wC g fk_eI k 17 [(0, fk_r g 34), (1, fk_r g o1), (2, fk_r g o2), (3, .int v3)] [] st (k17 v3 st)) : ∀ (v3 : Int32) (st : fkS), fk_J wC g fk_eI k 17 [(0, fk_r g 34), (1, fk_r g o1), (2, fk_r g o2), (3, .int v3)] [] st (B4_read_17 o1 o2 k17 v3 st) := by
  intro v3 st
  unfold B4_read_17
  refine j_iload_n (pc := 17) hk 3 rfl dX4_read_17 ?_
  refine j_if_le (tgt := 27) (pc := 18) hk (by decide) dX4_read_18 (fun _ => ?_) (fun _ => ?_)
  · exact j_sub hk [0, 1, 2, 3] rfl (T4_read_27 o1 o2 ho1 ho2 hk k17 H17 v3 st)
  · refine j_aload_n (pc := 21) hk 0 rfl ⟨_, rfl⟩ dX4_read_21 ?_
    refine j_bipush (pc := 22) hk dX4_read_22 (v := 59) (by decide) ?_
    refine j_callVv (pc := 24) hk [.int (59 : Int32)] [] rfl (fun l o hq9 => C4_expect (59 : Int32) st l o hq9) (rcv_4 (rfl)) yv_X4_expect ml_4_26 rfl (Nat.le_of_ble_eq_true rfl) (Nat.le_of_ble_eq_true rfl) (Nat.le_of_ble_eq_true rfl) dX4_read_24 (fun _ st4 => ?_)
    exact j_sub hk [0, 1, 2, 3] rfl (T4_read_27 o1 o2 ho1 ho2 hk k17 H17 v3 st4)
set_option maxHeartbeats 1000000 in
set_option maxRecDepth 20000 in
theorem L4_read_17 {g : fkG} {k : fkK} (o1 : Nat) (o2 : Nat) (ho1 : kdC o1 = 5) (ho2 : kdC o2 = 0) (hk : fk_ok wC g k RX4 cX4_read 4 (some (.int)) 8 349) (fu : Nat) : ∀ (v3 : Int32) (st : fkS), fk_J wC g fk_eI k 17 [(0, fk_r g 34), (1, fk_r g o1), (2, fk_r g o2), (3, .int v3)] [] st (fk_lp1 (B4_read_17 o1 o2) fu v3 st) := by
  induction fu with
  | zero =>
    intro v3 st
    exact j_none hk
  | succ fu ih =>
    exact T4_read_17 o1 o2 ho1 ho2 hk _ ih
def F4_read (o1 : Nat) (o2 : Nat) (st : fkS) : Option (Int32 × fkS) :=
 fk_let (sT st (some o1)) <| fun st1 =>
 fk_let (sI st1 81 34 (0 : Int32)) <| fun st2 =>
 fk_let (sI st2 80 34 (-1 : Int32)) <| fun st3 =>
 fk_lp1 (B4_read_17 o1 o2) fk_fuel (0 : Int32) st3
set_option maxHeartbeats 1000000 in
set_option maxRecDepth 20000 in
theorem C4_read (o1 : Nat) (o2 : Nat) (ho1 : kdC o1 = 5) (ho2 : kdC o2 = 0) (st : fkS) {g : fkG} (l : Launch) (o : Int32 × fkS) (hF : F4_read o1 o2 st = some o) : fk_C wC yX4_read cX4_read 4 (some (.int)) 8 349 l g [fk_r g 34, fk_r g o1, fk_r g o2] st (fk_eI o.1) o.2 := by
  refine fk_begin rfl (Nat.le_of_ble_eq_true rfl) (fun k hk => ?_) o hF
  have hk : fk_ok wC g k RX4 cX4_read 4 (some (.int)) 8 349 := hk
  show fk_J wC g fk_eI k 0 [(0, fk_r g 34), (1, fk_r g o1), (2, fk_r g o2)] [] st (F4_read o1 o2 st)
  unfold F4_read
  refine j_aload_n (pc := 0) hk 0 rfl ⟨_, rfl⟩ dX4_read_0 ?_
  refine j_aload_n (pc := 1) hk 1 rfl ⟨_, rfl⟩ dX4_read_1 ?_
  refine p_4_18 (pc := 2) hk dX4_read_2 (fun st1 => ?_)
  refine j_aload_n (pc := 5) hk 0 rfl ⟨_, rfl⟩ dX4_read_5 ?_
  refine j_iconst (pc := 6) hk dX4_read_6 (v := 0) (by decide) ?_
  refine p_4_15 (pc := 7) hk (rfl) dX4_read_7 (fun st2 => ?_)
  refine j_aload_n (pc := 10) hk 0 rfl ⟨_, rfl⟩ dX4_read_10 ?_
  refine j_iconst (pc := 11) hk dX4_read_11 (v := -1) (by decide) ?_
  refine p_4_9 (pc := 12) hk (rfl) dX4_read_12 (fun st3 => ?_)
  refine j_iconst (pc := 15) hk dX4_read_15 (v := 0) (by decide) ?_
  refine j_istore_n (lv' := ((3, .int (0 : Int32)) :: [(0, fk_r g 34), (1, fk_r g o1), (2, fk_r g o2)])) (pc := 16) hk rfl (by decide) rfl dX4_read_16 ?_
  refine j_sub hk (lv' := [(0, fk_r g 34), (1, fk_r g o1), (2, fk_r g o2), (3, .int (0 : Int32))]) [1, 2, 3, 0] rfl ?_
  exact j_sub hk [0, 1, 2, 3] rfl (L4_read_17 o1 o2 ho1 ho2 hk fk_fuel (0 : Int32) st3)
theorem dX5_holdNothing_0 : decode cX5_holdNothing 0 = .ok (.aload_n 0, 1) := by decide +kernel
theorem dX5_holdNothing_1 : decode cX5_holdNothing 1 = .ok (.iconst 0, 1) := by decide +kernel
theorem dX5_holdNothing_2 : decode cX5_holdNothing 2 = .ok (.putfield 11, 3) := by decide +kernel
theorem dX5_holdNothing_5 : decode cX5_holdNothing 5 = .ok (.aload_n 0, 1) := by decide +kernel
theorem dX5_holdNothing_6 : decode cX5_holdNothing 6 = .ok (.iconst 0, 1) := by decide +kernel
theorem dX5_holdNothing_7 : decode cX5_holdNothing 7 = .ok (.putfield 21, 3) := by decide +kernel
theorem dX5_holdNothing_10 : decode cX5_holdNothing 10 = .ok (.return_, 1) := by decide +kernel
def F5_holdNothing (h : Nat) (st : fkS) : Option (Unit × fkS) :=
 fk_let (sI st 100 h (0 : Int32)) <| fun st1 =>
 fk_let (sI st1 103 h (0 : Int32)) <| fun st2 =>
 some ((), st2)
set_option maxHeartbeats 1000000 in
set_option maxRecDepth 20000 in
theorem C5_holdNothing (h : Nat) (hh : kdC h = 5) (st : fkS) {g : fkG} (l : Launch) (o : Unit × fkS) (hF : F5_holdNothing h st = some o) : fk_C wC yX5_holdNothing cX5_holdNothing 1 none 0 0 l g [fk_r g h] st (fk_eU o.1) o.2 := by
  refine fk_begin rfl (Nat.le_of_ble_eq_true rfl) (fun k hk => ?_) o hF
  have hk : fk_ok wC g k RX5 cX5_holdNothing 1 none 0 0 := hk
  show fk_J wC g fk_eU k 0 [(0, fk_r g h)] [] st (F5_holdNothing h st)
  unfold F5_holdNothing
  refine j_aload_n (pc := 0) hk 0 rfl ⟨_, rfl⟩ dX5_holdNothing_0 ?_
  refine j_iconst (pc := 1) hk dX5_holdNothing_1 (v := 0) (by decide) ?_
  refine p_5_11 (pc := 2) hk (hh) dX5_holdNothing_2 (fun st1 => ?_)
  refine j_aload_n (pc := 5) hk 0 rfl ⟨_, rfl⟩ dX5_holdNothing_5 ?_
  refine j_iconst (pc := 6) hk dX5_holdNothing_6 (v := 0) (by decide) ?_
  refine p_5_21 (pc := 7) hk (hh) dX5_holdNothing_7 (fun st2 => ?_)
  exact j_vret (pc := 10) hk dX5_holdNothing_10
theorem dX5_holdBird_0 : decode cX5_holdBird 0 = .ok (.aload_n 0, 1) := by decide +kernel
theorem dX5_holdBird_1 : decode cX5_holdBird 1 = .ok (.iconst 1, 1) := by decide +kernel
theorem dX5_holdBird_2 : decode cX5_holdBird 2 = .ok (.putfield 11, 3) := by decide +kernel
theorem dX5_holdBird_5 : decode cX5_holdBird 5 = .ok (.aload_n 0, 1) := by decide +kernel
theorem dX5_holdBird_6 : decode cX5_holdBird 6 = .ok (.iload_n 1, 1) := by decide +kernel
theorem dX5_holdBird_7 : decode cX5_holdBird 7 = .ok (.putfield 15, 3) := by decide +kernel
theorem dX5_holdBird_10 : decode cX5_holdBird 10 = .ok (.aload_n 0, 1) := by decide +kernel
theorem dX5_holdBird_11 : decode cX5_holdBird 11 = .ok (.iconst 0, 1) := by decide +kernel
theorem dX5_holdBird_12 : decode cX5_holdBird 12 = .ok (.putfield 21, 3) := by decide +kernel
theorem dX5_holdBird_15 : decode cX5_holdBird 15 = .ok (.return_, 1) := by decide +kernel
def F5_holdBird (h : Nat) (p1 : Int32) (st : fkS) : Option (Unit × fkS) :=
 fk_let (sI st 100 h (1 : Int32)) <| fun st1 =>
 fk_let (sI st1 101 h p1) <| fun st2 =>
 fk_let (sI st2 103 h (0 : Int32)) <| fun st3 =>
 some ((), st3)
set_option maxHeartbeats 1000000 in
set_option maxRecDepth 20000 in
theorem C5_holdBird (h : Nat) (hh : kdC h = 5) (p1 : Int32) (st : fkS) {g : fkG} (l : Launch) (o : Unit × fkS) (hF : F5_holdBird h p1 st = some o) : fk_C wC yX5_holdBird cX5_holdBird 2 none 0 0 l g [fk_r g h, .int p1] st (fk_eU o.1) o.2 := by
  refine fk_begin rfl (Nat.le_of_ble_eq_true rfl) (fun k hk => ?_) o hF
  have hk : fk_ok wC g k RX5 cX5_holdBird 2 none 0 0 := hk
  show fk_J wC g fk_eU k 0 [(0, fk_r g h), (1, .int p1)] [] st (F5_holdBird h p1 st)
  unfold F5_holdBird
  refine j_aload_n (pc := 0) hk 0 rfl ⟨_, rfl⟩ dX5_holdBird_0 ?_
  refine j_iconst (pc := 1) hk dX5_holdBird_1 (v := 1) (by decide) ?_
  refine p_5_11 (pc := 2) hk (hh) dX5_holdBird_2 (fun st1 => ?_)
  refine j_aload_n (pc := 5) hk 0 rfl ⟨_, rfl⟩ dX5_holdBird_5 ?_
  refine j_iload_n (pc := 6) hk 1 rfl dX5_holdBird_6 ?_
  refine p_5_15 (pc := 7) hk (hh) dX5_holdBird_7 (fun st2 => ?_)
  refine j_aload_n (pc := 10) hk 0 rfl ⟨_, rfl⟩ dX5_holdBird_10 ?_
  refine j_iconst (pc := 11) hk dX5_holdBird_11 (v := 0) (by decide) ?_
  refine p_5_21 (pc := 12) hk (hh) dX5_holdBird_12 (fun st3 => ?_)
  exact j_vret (pc := 15) hk dX5_holdBird_15
theorem dX5_holdRow_0 : decode cX5_holdRow 0 = .ok (.aload_n 0, 1) := by decide +kernel
theorem dX5_holdRow_1 : decode cX5_holdRow 1 = .ok (.iconst 2, 1) := by decide +kernel
theorem dX5_holdRow_2 : decode cX5_holdRow 2 = .ok (.putfield 11, 3) := by decide +kernel
theorem dX5_holdRow_5 : decode cX5_holdRow 5 = .ok (.aload_n 0, 1) := by decide +kernel
theorem dX5_holdRow_6 : decode cX5_holdRow 6 = .ok (.iload_n 1, 1) := by decide +kernel
theorem dX5_holdRow_7 : decode cX5_holdRow 7 = .ok (.putfield 18, 3) := by decide +kernel
theorem dX5_holdRow_10 : decode cX5_holdRow 10 = .ok (.aload_n 0, 1) := by decide +kernel
theorem dX5_holdRow_11 : decode cX5_holdRow 11 = .ok (.iconst 0, 1) := by decide +kernel
theorem dX5_holdRow_12 : decode cX5_holdRow 12 = .ok (.iload_n 2, 1) := by decide +kernel
theorem dX5_holdRow_13 : decode cX5_holdRow 13 = .ok (.sipush 160, 3) := by decide +kernel
theorem dX5_holdRow_16 : decode cX5_holdRow 16 = .ok (.invokestatic 28, 3) := by decide +kernel
theorem dX5_holdRow_19 : decode cX5_holdRow 19 = .ok (.invokestatic 34, 3) := by decide +kernel
theorem dX5_holdRow_22 : decode cX5_holdRow 22 = .ok (.putfield 21, 3) := by decide +kernel
theorem dX5_holdRow_25 : decode cX5_holdRow 25 = .ok (.iconst 0, 1) := by decide +kernel
theorem dX5_holdRow_26 : decode cX5_holdRow 26 = .ok (.istore_n 3, 1) := by decide +kernel
theorem dX5_holdRow_27 : decode cX5_holdRow 27 = .ok (.iload_n 3, 1) := by decide +kernel
theorem dX5_holdRow_28 : decode cX5_holdRow 28 = .ok (.aload_n 0, 1) := by decide +kernel
theorem dX5_holdRow_29 : decode cX5_holdRow 29 = .ok (.getfield 21, 3) := by decide +kernel
theorem dX5_holdRow_32 : decode cX5_holdRow 32 = .ok (.if_icmp .ge 16, 3) := by decide +kernel
theorem dX5_holdRow_35 : decode cX5_holdRow 35 = .ok (.aload_n 0, 1) := by decide +kernel
theorem dX5_holdRow_36 : decode cX5_holdRow 36 = .ok (.getfield 24, 3) := by decide +kernel
theorem dX5_holdRow_39 : decode cX5_holdRow 39 = .ok (.iload_n 3, 1) := by decide +kernel
theorem dX5_holdRow_40 : decode cX5_holdRow 40 = .ok (.lconst 0, 1) := by decide +kernel
theorem dX5_holdRow_41 : decode cX5_holdRow 41 = .ok (.lastore, 1) := by decide +kernel
theorem dX5_holdRow_42 : decode cX5_holdRow 42 = .ok (.iinc 3 1, 3) := by decide +kernel
theorem dX5_holdRow_45 : decode cX5_holdRow 45 = .ok (.goto (-18), 3) := by decide +kernel
theorem dX5_holdRow_48 : decode cX5_holdRow 48 = .ok (.return_, 1) := by decide +kernel
def B5_holdRow_27 (h : Nat) (k27 : Int32 → fkS → Option (Unit × fkS)) (v3 : Int32) (st : fkS) : Option (Unit × fkS) :=
 fk_let (gI st 103 h) <| fun x4 =>
 if x4 ≤ v3 then
 (some ((), st))
 else
 (fk_chk (fk_in v3 160) <| fk_let (sL st (h + 8) v3.toNatClampNeg (0 : Int64)) <| fun st5 =>
 k27 (v3 + (1 : Int32)) st5)
set_option maxHeartbeats 1000000 in
set_option maxRecDepth 20000 in
theorem T5_holdRow_27 {g : fkG} {k : fkK} (h : Nat) (hh : kdC h = 5) (hk : fk_ok wC g k RX5 cX5_holdRow 4 none 1 100) (k27 : Int32 → fkS → Option (Unit × fkS)) (H27 : ∀ (v3 : Int32) (st : fkS), fk_J wC g fk_eU k 27 [(0, fk_r g h), (3, .int v3)] [] st (k27 v3 st)) : ∀ (v3 : Int32) (st : fkS), fk_J wC g fk_eU k 27 [(0, fk_r g h), (3, .int v3)] [] st (B5_holdRow_27 h k27 v3 st) := by
  intro v3 st
  unfold B5_holdRow_27
  refine j_iload_n (pc := 27) hk 1 rfl dX5_holdRow_27 ?_
  refine j_aload_n (pc := 28) hk 0 rfl ⟨_, rfl⟩ dX5_holdRow_28 ?_
  refine f_5_21 (pc := 29) hk (hh) dX5_holdRow_29 (fun x4 => ?_)
  refine j_icmp_ge (tgt := 48) (pc := 32) hk (by decide) dX5_holdRow_32 (fun _ => ?_) (fun _ => ?_)
  · exact j_vret (pc := 48) hk dX5_holdRow_48
  · refine j_aload_n (pc := 35) hk 0 rfl ⟨_, rfl⟩ dX5_holdRow_35 ?_
    refine f_5_24 (pc := 36) hk (hh) dX5_holdRow_36 ?_
    refine j_iload_n (pc := 39) hk 1 rfl dX5_holdRow_39 ?_
    refine j_lconst (pc := 40) hk dX5_holdRow_40 (v := 0) (by decide) ?_
    refine a_lstore (pc := 41) hk (isL_5_4 (hh)) dX5_holdRow_41 (fun st5 => ?_)
    refine j_iinc (dd := (1 : Int32)) (lv' := ((3, .int (v3 + (1 : Int32))) :: [(0, fk_r g h)])) (pc := 42) hk 1 rfl (by decide) (by decide) rfl dX5_holdRow_42 ?_
    refine j_sub hk (lv' := [(0, fk_r g h), (3, .int (v3 + (1 : Int32)))]) [1, 0] rfl ?_
    refine j_goto (tgt := 27) (pc := 45) hk (by decide) dX5_holdRow_45 ?_
    exact j_sub hk [0, 1] rfl (H27 (v3 + (1 : Int32)) st5)
set_option maxHeartbeats 1000000 in
set_option maxRecDepth 20000 in
theorem L5_holdRow_27 {g : fkG} {k : fkK} (h : Nat) (hh : kdC h = 5) (hk : fk_ok wC g k RX5 cX5_holdRow 4 none 1 100) (fu : Nat) : ∀ (v3 : Int32) (st : fkS), fk_J wC g fk_eU k 27 [(0, fk_r g h), (3, .int v3)] [] st (fk_lp1 (B5_holdRow_27 h) fu v3 st) := by
  induction fu with
  | zero =>
    intro v3 st
    exact j_none hk
  | succ fu ih =>
    exact T5_holdRow_27 h hh hk _ ih
def F5_holdRow (h : Nat) (p1 : Int32) (p2 : Int32) (st : fkS) : Option (Unit × fkS) :=
 fk_let (sI st 100 h (2 : Int32)) <| fun st1 =>
 fk_let (sI st1 102 h p1) <| fun st2 =>
 fk_let (sI st2 103 h (fk_max (0 : Int32) (fk_min p2 (160 : Int32)))) <| fun st3 =>
 fk_lp1 (B5_holdRow_27 h) fk_fuel (0 : Int32) st3
set_option maxHeartbeats 1000000 in
set_option maxRecDepth 20000 in
theorem C5_holdRow (h : Nat) (hh : kdC h = 5) (p1 : Int32) (p2 : Int32) (st : fkS) {g : fkG} (l : Launch) (o : Unit × fkS) (hF : F5_holdRow h p1 p2 st = some o) : fk_C wC yX5_holdRow cX5_holdRow 4 none 1 100 l g [fk_r g h, .int p1, .int p2] st (fk_eU o.1) o.2 := by
  refine fk_begin rfl (Nat.le_of_ble_eq_true rfl) (fun k hk => ?_) o hF
  have hk : fk_ok wC g k RX5 cX5_holdRow 4 none 1 100 := hk
  show fk_J wC g fk_eU k 0 [(0, fk_r g h), (1, .int p1), (2, .int p2)] [] st (F5_holdRow h p1 p2 st)
  unfold F5_holdRow
  refine j_aload_n (pc := 0) hk 0 rfl ⟨_, rfl⟩ dX5_holdRow_0 ?_
  refine j_iconst (pc := 1) hk dX5_holdRow_1 (v := 2) (by decide) ?_
  refine p_5_11 (pc := 2) hk (hh) dX5_holdRow_2 (fun st1 => ?_)
  refine j_aload_n (pc := 5) hk 0 rfl ⟨_, rfl⟩ dX5_holdRow_5 ?_
  refine j_iload_n (pc := 6) hk 1 rfl dX5_holdRow_6 ?_
  refine p_5_18 (pc := 7) hk (hh) dX5_holdRow_7 (fun st2 => ?_)
  refine j_aload_n (pc := 10) hk 0 rfl ⟨_, rfl⟩ dX5_holdRow_10 ?_
  refine j_iconst (pc := 11) hk dX5_holdRow_11 (v := 0) (by decide) ?_
  refine j_iload_n (pc := 12) hk 2 rfl dX5_holdRow_12 ?_
  refine j_sipush (pc := 13) hk dX5_holdRow_13 (v := 160) (by decide) ?_
  refine j_mmin (pc := 16) hk ml_5_28 wd_min1 wd_math wd_min2 (Nat.le_of_ble_eq_true rfl) (Nat.le_of_ble_eq_true rfl) dX5_holdRow_16 ?_
  refine j_mmax (pc := 19) hk ml_5_34 wd_max1 wd_math wd_max2 (Nat.le_of_ble_eq_true rfl) (Nat.le_of_ble_eq_true rfl) dX5_holdRow_19 ?_
  refine p_5_21 (pc := 22) hk (hh) dX5_holdRow_22 (fun st3 => ?_)
  refine j_iconst (pc := 25) hk dX5_holdRow_25 (v := 0) (by decide) ?_
  refine j_istore_n (lv' := ((3, .int (0 : Int32)) :: [(0, fk_r g h), (1, .int p1), (2, .int p2)])) (pc := 26) hk rfl (by decide) rfl dX5_holdRow_26 ?_
  refine j_sub hk (lv' := [(0, fk_r g h), (1, .int p1), (2, .int p2), (3, .int (0 : Int32))]) [1, 2, 3, 0] rfl ?_
  exact j_sub hk [0, 3] rfl (L5_holdRow_27 h hh hk fk_fuel (0 : Int32) st3)
theorem dX5_put_0 : decode cX5_put 0 = .ok (.iload_n 1, 1) := by decide +kernel
theorem dX5_put_1 : decode cX5_put 1 = .ok (.ifCond .lt 11, 3) := by decide +kernel
theorem dX5_put_4 : decode cX5_put 4 = .ok (.iload_n 1, 1) := by decide +kernel
theorem dX5_put_5 : decode cX5_put 5 = .ok (.aload_n 0, 1) := by decide +kernel
theorem dX5_put_6 : decode cX5_put 6 = .ok (.getfield 21, 3) := by decide +kernel
theorem dX5_put_9 : decode cX5_put 9 = .ok (.if_icmp .lt 4, 3) := by decide +kernel
theorem dX5_put_12 : decode cX5_put 12 = .ok (.return_, 1) := by decide +kernel
theorem dX5_put_13 : decode cX5_put 13 = .ok (.aload_n 0, 1) := by decide +kernel
theorem dX5_put_14 : decode cX5_put 14 = .ok (.getfield 18, 3) := by decide +kernel
theorem dX5_put_17 : decode cX5_put 17 = .ok (.tableswitch 65 0 2 #[27, 40, 53], 27) := by decide +kernel
theorem dX5_put_44 : decode cX5_put 44 = .ok (.aload_n 0, 1) := by decide +kernel
theorem dX5_put_45 : decode cX5_put 45 = .ok (.getfield 24, 3) := by decide +kernel
theorem dX5_put_48 : decode cX5_put 48 = .ok (.iload_n 1, 1) := by decide +kernel
theorem dX5_put_49 : decode cX5_put 49 = .ok (.lload_n 2, 1) := by decide +kernel
theorem dX5_put_50 : decode cX5_put 50 = .ok (.l2i, 1) := by decide +kernel
theorem dX5_put_51 : decode cX5_put 51 = .ok (.i2b, 1) := by decide +kernel
theorem dX5_put_52 : decode cX5_put 52 = .ok (.i2l, 1) := by decide +kernel
theorem dX5_put_53 : decode cX5_put 53 = .ok (.lastore, 1) := by decide +kernel
theorem dX5_put_54 : decode cX5_put 54 = .ok (.goto 35, 3) := by decide +kernel
theorem dX5_put_57 : decode cX5_put 57 = .ok (.aload_n 0, 1) := by decide +kernel
theorem dX5_put_58 : decode cX5_put 58 = .ok (.getfield 24, 3) := by decide +kernel
theorem dX5_put_61 : decode cX5_put 61 = .ok (.iload_n 1, 1) := by decide +kernel
theorem dX5_put_62 : decode cX5_put 62 = .ok (.lload_n 2, 1) := by decide +kernel
theorem dX5_put_63 : decode cX5_put 63 = .ok (.l2i, 1) := by decide +kernel
theorem dX5_put_64 : decode cX5_put 64 = .ok (.i2s, 1) := by decide +kernel
theorem dX5_put_65 : decode cX5_put 65 = .ok (.i2l, 1) := by decide +kernel
theorem dX5_put_66 : decode cX5_put 66 = .ok (.lastore, 1) := by decide +kernel
theorem dX5_put_67 : decode cX5_put 67 = .ok (.goto 22, 3) := by decide +kernel
theorem dX5_put_70 : decode cX5_put 70 = .ok (.aload_n 0, 1) := by decide +kernel
theorem dX5_put_71 : decode cX5_put 71 = .ok (.getfield 24, 3) := by decide +kernel
theorem dX5_put_74 : decode cX5_put 74 = .ok (.iload_n 1, 1) := by decide +kernel
theorem dX5_put_75 : decode cX5_put 75 = .ok (.lload_n 2, 1) := by decide +kernel
theorem dX5_put_76 : decode cX5_put 76 = .ok (.l2i, 1) := by decide +kernel
theorem dX5_put_77 : decode cX5_put 77 = .ok (.i2l, 1) := by decide +kernel
theorem dX5_put_78 : decode cX5_put 78 = .ok (.lastore, 1) := by decide +kernel
theorem dX5_put_79 : decode cX5_put 79 = .ok (.goto 10, 3) := by decide +kernel
theorem dX5_put_82 : decode cX5_put 82 = .ok (.aload_n 0, 1) := by decide +kernel
theorem dX5_put_83 : decode cX5_put 83 = .ok (.getfield 24, 3) := by decide +kernel
theorem dX5_put_86 : decode cX5_put 86 = .ok (.iload_n 1, 1) := by decide +kernel
theorem dX5_put_87 : decode cX5_put 87 = .ok (.lload_n 2, 1) := by decide +kernel
theorem dX5_put_88 : decode cX5_put 88 = .ok (.lastore, 1) := by decide +kernel
theorem dX5_put_89 : decode cX5_put 89 = .ok (.return_, 1) := by decide +kernel
def F5_put (h : Nat) (p1 : Int32) (p2 : Int64) (st : fkS) : Option (Unit × fkS) :=
 if p1 < 0 then
 (some ((), st))
 else
 (fk_let (gI st 103 h) <| fun x1 =>
 if p1 < x1 then
 (fk_let (gI st 102 h) <| fun x2 =>
 if x2 = (0 : Int32) then
 (fk_chk (fk_in p1 160) <| fk_let (sL st (h + 8) p1.toNatClampNeg p2.toInt32.toInt8.toInt32.toInt64) <| fun st4 =>
 some ((), st4))
 else
 (if x2 = (1 : Int32) then
 (fk_chk (fk_in p1 160) <| fk_let (sL st (h + 8) p1.toNatClampNeg p2.toInt32.toInt16.toInt32.toInt64) <| fun st6 =>
 some ((), st6))
 else
 (if x2 = (2 : Int32) then
 (fk_chk (fk_in p1 160) <| fk_let (sL st (h + 8) p1.toNatClampNeg p2.toInt32.toInt64) <| fun st8 =>
 some ((), st8))
 else
 (fk_chk (fk_in p1 160) <| fk_let (sL st (h + 8) p1.toNatClampNeg p2) <| fun st9 =>
 some ((), st9)))))
 else
 (some ((), st)))
set_option maxHeartbeats 1000000 in
set_option maxRecDepth 20000 in
theorem C5_put (h : Nat) (hh : kdC h = 5) (p1 : Int32) (p2 : Int64) (st : fkS) {g : fkG} (l : Launch) (o : Unit × fkS) (hF : F5_put h p1 p2 st = some o) : fk_C wC yX5_put cX5_put 4 none 0 0 l g [fk_r g h, .int p1, .long p2] st (fk_eU o.1) o.2 := by
  refine fk_begin rfl (Nat.le_of_ble_eq_true rfl) (fun k hk => ?_) o hF
  have hk : fk_ok wC g k RX5 cX5_put 4 none 0 0 := hk
  show fk_J wC g fk_eU k 0 [(0, fk_r g h), (1, .int p1), (2, .long p2)] [] st (F5_put h p1 p2 st)
  unfold F5_put
  refine j_iload_n (pc := 0) hk 1 rfl dX5_put_0 ?_
  refine j_if_lt (tgt := 12) (pc := 1) hk (by decide) dX5_put_1 (fun _ => ?_) (fun _ => ?_)
  · exact j_vret (pc := 12) hk dX5_put_12
  · refine j_iload_n (pc := 4) hk 1 rfl dX5_put_4 ?_
    refine j_aload_n (pc := 5) hk 0 rfl ⟨_, rfl⟩ dX5_put_5 ?_
    refine f_5_21 (pc := 6) hk (hh) dX5_put_6 (fun x1 => ?_)
    refine j_icmp_lt (tgt := 13) (pc := 9) hk (by decide) dX5_put_9 (fun _ => ?_) (fun _ => ?_)
    · refine j_aload_n (pc := 13) hk 0 rfl ⟨_, rfl⟩ dX5_put_13 ?_
      refine f_5_18 (pc := 14) hk (hh) dX5_put_14 (fun x2 => ?_)
      refine j_case (pc := 17) hk (fun n3 => ?_) (fun n3 => ?_)
      · refine j_tswIn (off := 27) (tgt := 44) (pc := 17) hk (by rw [n3]; decide) (by rw [n3]; decide) (by rw [n3]; decide) (by decide) dX5_put_17 ?_
        refine j_aload_n (pc := 44) hk 0 rfl ⟨_, rfl⟩ dX5_put_44 ?_
        refine f_5_24 (pc := 45) hk (hh) dX5_put_45 ?_
        refine j_iload_n (pc := 48) hk 1 rfl dX5_put_48 ?_
        refine j_lload_n (pc := 49) hk 2 rfl dX5_put_49 ?_
        refine j_l2i (pc := 50) hk dX5_put_50 ?_
        refine j_i2b (pc := 51) hk dX5_put_51 ?_
        refine j_i2l (pc := 52) hk dX5_put_52 ?_
        refine a_lstore (pc := 53) hk (isL_5_4 (hh)) dX5_put_53 (fun st4 => ?_)
        refine j_goto (tgt := 89) (pc := 54) hk (by decide) dX5_put_54 ?_
        exact j_vret (pc := 89) hk dX5_put_89
      · refine j_case (pc := 17) hk (fun n5 => ?_) (fun n5 => ?_)
        · refine j_tswIn (off := 40) (tgt := 57) (pc := 17) hk (by rw [n5]; decide) (by rw [n5]; decide) (by rw [n5]; decide) (by decide) dX5_put_17 ?_
          refine j_aload_n (pc := 57) hk 0 rfl ⟨_, rfl⟩ dX5_put_57 ?_
          refine f_5_24 (pc := 58) hk (hh) dX5_put_58 ?_
          refine j_iload_n (pc := 61) hk 1 rfl dX5_put_61 ?_
          refine j_lload_n (pc := 62) hk 2 rfl dX5_put_62 ?_
          refine j_l2i (pc := 63) hk dX5_put_63 ?_
          refine j_i2s (pc := 64) hk dX5_put_64 ?_
          refine j_i2l (pc := 65) hk dX5_put_65 ?_
          refine a_lstore (pc := 66) hk (isL_5_4 (hh)) dX5_put_66 (fun st6 => ?_)
          refine j_goto (tgt := 89) (pc := 67) hk (by decide) dX5_put_67 ?_
          exact j_vret (pc := 89) hk dX5_put_89
        · refine j_case (pc := 17) hk (fun n7 => ?_) (fun n7 => ?_)
          · refine j_tswIn (off := 53) (tgt := 70) (pc := 17) hk (by rw [n7]; decide) (by rw [n7]; decide) (by rw [n7]; decide) (by decide) dX5_put_17 ?_
            refine j_aload_n (pc := 70) hk 0 rfl ⟨_, rfl⟩ dX5_put_70 ?_
            refine f_5_24 (pc := 71) hk (hh) dX5_put_71 ?_
            refine j_iload_n (pc := 74) hk 1 rfl dX5_put_74 ?_
            refine j_lload_n (pc := 75) hk 2 rfl dX5_put_75 ?_
            refine j_l2i (pc := 76) hk dX5_put_76 ?_
            refine j_i2l (pc := 77) hk dX5_put_77 ?_
            refine a_lstore (pc := 78) hk (isL_5_4 (hh)) dX5_put_78 (fun st8 => ?_)
            refine j_goto (tgt := 89) (pc := 79) hk (by decide) dX5_put_79 ?_
            exact j_vret (pc := 89) hk dX5_put_89
          · have mn3 := lv_neT (a := 0) n3 (by decide)
            have mn5 := lv_neT (a := 1) n5 (by decide)
            have mn7 := lv_neT (a := 2) n7 (by decide)
            refine j_tswOut (tgt := 82) (pc := 17) hk (by omega) (by decide) dX5_put_17 ?_
            refine j_aload_n (pc := 82) hk 0 rfl ⟨_, rfl⟩ dX5_put_82 ?_
            refine f_5_24 (pc := 83) hk (hh) dX5_put_83 ?_
            refine j_iload_n (pc := 86) hk 1 rfl dX5_put_86 ?_
            refine j_lload_n (pc := 87) hk 2 rfl dX5_put_87 ?_
            refine a_lstore (pc := 88) hk (isL_5_4 (hh)) dX5_put_88 (fun st9 => ?_)
            exact j_vret (pc := 89) hk dX5_put_89
    · exact j_vret (pc := 12) hk dX5_put_12
theorem dX5_hasSpan_0 : decode cX5_hasSpan 0 = .ok (.iload_n 1, 1) := by decide +kernel
theorem dX5_hasSpan_1 : decode cX5_hasSpan 1 = .ok (.ifCond .lt 25, 3) := by decide +kernel
theorem dX5_hasSpan_4 : decode cX5_hasSpan 4 = .ok (.iload_n 2, 1) := by decide +kernel
theorem dX5_hasSpan_5 : decode cX5_hasSpan 5 = .ok (.ifCond .lt 21, 3) := by decide +kernel
theorem dX5_hasSpan_8 : decode cX5_hasSpan 8 = .ok (.iload_n 1, 1) := by decide +kernel
theorem dX5_hasSpan_9 : decode cX5_hasSpan 9 = .ok (.i2l, 1) := by decide +kernel
theorem dX5_hasSpan_10 : decode cX5_hasSpan 10 = .ok (.iload_n 2, 1) := by decide +kernel
theorem dX5_hasSpan_11 : decode cX5_hasSpan 11 = .ok (.i2l, 1) := by decide +kernel
theorem dX5_hasSpan_12 : decode cX5_hasSpan 12 = .ok (.ladd, 1) := by decide +kernel
theorem dX5_hasSpan_13 : decode cX5_hasSpan 13 = .ok (.aload_n 0, 1) := by decide +kernel
theorem dX5_hasSpan_14 : decode cX5_hasSpan 14 = .ok (.getfield 21, 3) := by decide +kernel
theorem dX5_hasSpan_17 : decode cX5_hasSpan 17 = .ok (.i2l, 1) := by decide +kernel
theorem dX5_hasSpan_18 : decode cX5_hasSpan 18 = .ok (.lcmp, 1) := by decide +kernel
theorem dX5_hasSpan_19 : decode cX5_hasSpan 19 = .ok (.ifCond .gt 7, 3) := by decide +kernel
theorem dX5_hasSpan_22 : decode cX5_hasSpan 22 = .ok (.iconst 1, 1) := by decide +kernel
theorem dX5_hasSpan_23 : decode cX5_hasSpan 23 = .ok (.goto 4, 3) := by decide +kernel
theorem dX5_hasSpan_26 : decode cX5_hasSpan 26 = .ok (.iconst 0, 1) := by decide +kernel
theorem dX5_hasSpan_27 : decode cX5_hasSpan 27 = .ok (.ireturn, 1) := by decide +kernel
def F5_hasSpan (h : Nat) (p1 : Int32) (p2 : Int32) (st : fkS) : Option (Int32 × fkS) :=
 if p1 < 0 then
 (some ((0 : Int32), st))
 else
 (if p2 < 0 then
 (some ((0 : Int32), st))
 else
 (fk_let (gI st 103 h) <| fun x1 =>
 if 0 < (lg_cmp (p1.toInt64 + p2.toInt64) x1.toInt64) then
 (some ((0 : Int32), st))
 else
 (some ((1 : Int32), st))))
set_option maxHeartbeats 1000000 in
set_option maxRecDepth 20000 in
theorem C5_hasSpan (h : Nat) (hh : kdC h = 5) (p1 : Int32) (p2 : Int32) (st : fkS) {g : fkG} (l : Launch) (o : Int32 × fkS) (hF : F5_hasSpan h p1 p2 st = some o) : fk_C wC yX5_hasSpan cX5_hasSpan 3 (some (.boolean)) 0 0 l g [fk_r g h, .int p1, .int p2] st (fk_eI o.1) o.2 := by
  refine fk_begin rfl (Nat.le_of_ble_eq_true rfl) (fun k hk => ?_) o hF
  have hk : fk_ok wC g k RX5 cX5_hasSpan 3 (some (.boolean)) 0 0 := hk
  show fk_J wC g fk_eI k 0 [(0, fk_r g h), (1, .int p1), (2, .int p2)] [] st (F5_hasSpan h p1 p2 st)
  unfold F5_hasSpan
  refine j_iload_n (pc := 0) hk 1 rfl dX5_hasSpan_0 ?_
  refine j_if_lt (tgt := 26) (pc := 1) hk (by decide) dX5_hasSpan_1 (fun _ => ?_) (fun _ => ?_)
  · refine j_iconst (pc := 26) hk dX5_hasSpan_26 (v := 0) (by decide) ?_
    exact j_zret (pc := 27) hk rfl dX5_hasSpan_27
  · refine j_iload_n (pc := 4) hk 2 rfl dX5_hasSpan_4 ?_
    refine j_if_lt (tgt := 26) (pc := 5) hk (by decide) dX5_hasSpan_5 (fun _ => ?_) (fun _ => ?_)
    · refine j_iconst (pc := 26) hk dX5_hasSpan_26 (v := 0) (by decide) ?_
      exact j_zret (pc := 27) hk rfl dX5_hasSpan_27
    · refine j_iload_n (pc := 8) hk 1 rfl dX5_hasSpan_8 ?_
      refine j_i2l (pc := 9) hk dX5_hasSpan_9 ?_
      refine j_iload_n (pc := 10) hk 2 rfl dX5_hasSpan_10 ?_
      refine j_i2l (pc := 11) hk dX5_hasSpan_11 ?_
      refine j_ladd (pc := 12) hk dX5_hasSpan_12 ?_
      refine j_aload_n (pc := 13) hk 0 rfl ⟨_, rfl⟩ dX5_hasSpan_13 ?_
      refine f_5_21 (pc := 14) hk (hh) dX5_hasSpan_14 (fun x1 => ?_)
      refine j_i2l (pc := 17) hk dX5_hasSpan_17 ?_
      refine j_lcmp (pc := 18) hk dX5_hasSpan_18 ?_
      refine j_if_gt (tgt := 26) (pc := 19) hk (by decide) dX5_hasSpan_19 (fun _ => ?_) (fun _ => ?_)
      · refine j_iconst (pc := 26) hk dX5_hasSpan_26 (v := 0) (by decide) ?_
        exact j_zret (pc := 27) hk rfl dX5_hasSpan_27
      · refine j_iconst (pc := 22) hk dX5_hasSpan_22 (v := 1) (by decide) ?_
        refine j_goto (tgt := 27) (pc := 23) hk (by decide) dX5_hasSpan_23 ?_
        exact j_zret (pc := 27) hk rfl dX5_hasSpan_27
theorem dX6_take_0 : decode cX6_take 0 = .ok (.aload_n 1, 1) := by decide +kernel
theorem dX6_take_1 : decode cX6_take 1 = .ok (.iload_n 2, 1) := by decide +kernel
theorem dX6_take_2 : decode cX6_take 2 = .ok (.invokevirtual 31, 3) := by decide +kernel
theorem dX6_take_5 : decode cX6_take 5 = .ok (.ifCond .eq 4, 3) := by decide +kernel
theorem dX6_take_8 : decode cX6_take 8 = .ok (.return_, 1) := by decide +kernel
theorem dX6_take_9 : decode cX6_take 9 = .ok (.aload_n 0, 1) := by decide +kernel
theorem dX6_take_10 : decode cX6_take 10 = .ok (.aload_n 1, 1) := by decide +kernel
theorem dX6_take_11 : decode cX6_take 11 = .ok (.getfield 37, 3) := by decide +kernel
theorem dX6_take_14 : decode cX6_take 14 = .ok (.iload_n 2, 1) := by decide +kernel
theorem dX6_take_15 : decode cX6_take 15 = .ok (.iaload, 1) := by decide +kernel
theorem dX6_take_16 : decode cX6_take 16 = .ok (.putfield 9, 3) := by decide +kernel
theorem dX6_take_19 : decode cX6_take 19 = .ok (.aload_n 0, 1) := by decide +kernel
theorem dX6_take_20 : decode cX6_take 20 = .ok (.aload_n 1, 1) := by decide +kernel
theorem dX6_take_21 : decode cX6_take 21 = .ok (.getfield 40, 3) := by decide +kernel
theorem dX6_take_24 : decode cX6_take 24 = .ok (.iload_n 2, 1) := by decide +kernel
theorem dX6_take_25 : decode cX6_take 25 = .ok (.iaload, 1) := by decide +kernel
theorem dX6_take_26 : decode cX6_take 26 = .ok (.putfield 15, 3) := by decide +kernel
theorem dX6_take_29 : decode cX6_take 29 = .ok (.aload_n 0, 1) := by decide +kernel
theorem dX6_take_30 : decode cX6_take 30 = .ok (.aload_n 1, 1) := by decide +kernel
theorem dX6_take_31 : decode cX6_take 31 = .ok (.getfield 43, 3) := by decide +kernel
theorem dX6_take_34 : decode cX6_take 34 = .ok (.iload_n 2, 1) := by decide +kernel
theorem dX6_take_35 : decode cX6_take 35 = .ok (.iaload, 1) := by decide +kernel
theorem dX6_take_36 : decode cX6_take 36 = .ok (.putfield 18, 3) := by decide +kernel
theorem dX6_take_39 : decode cX6_take 39 = .ok (.aload_n 0, 1) := by decide +kernel
theorem dX6_take_40 : decode cX6_take 40 = .ok (.aload_n 1, 1) := by decide +kernel
theorem dX6_take_41 : decode cX6_take 41 = .ok (.getfield 46, 3) := by decide +kernel
theorem dX6_take_44 : decode cX6_take 44 = .ok (.putfield 21, 3) := by decide +kernel
theorem dX6_take_47 : decode cX6_take 47 = .ok (.return_, 1) := by decide +kernel
def F6_take (h : Nat) (o1 : Nat) (p2 : Int32) (st : fkS) : Option (Unit × fkS) :=
 fk_bind (F0_lacks o1 p2 st) <| fun x1 st2 =>
 if x1 = 0 then
 (fk_chk (fk_in p2 7) <| fk_let (gA st2 (o1 + 3) p2.toNatClampNeg) <| fun x3 =>
 fk_let (sI st2 120 h x3) <| fun st4 =>
 fk_chk (fk_in p2 7) <| fk_let (gA st4 (o1 + 6) p2.toNatClampNeg) <| fun x5 =>
 fk_let (sI st4 121 h x5) <| fun st6 =>
 fk_chk (fk_in p2 7) <| fk_let (gA st6 (o1 + 9) p2.toNatClampNeg) <| fun x7 =>
 fk_let (sI st6 122 h x7) <| fun st8 =>
 fk_let (gI st8 5 o1) <| fun x9 =>
 fk_let (sI st8 123 h x9) <| fun st10 =>
 some ((), st10))
 else
 (some ((), st2))
set_option maxHeartbeats 1000000 in
set_option maxRecDepth 20000 in
theorem C6_take (h : Nat) (o1 : Nat) (hh : kdC h = 6) (ho1 : kdC o1 = 0) (p2 : Int32) (st : fkS) {g : fkG} (l : Launch) (o : Unit × fkS) (hF : F6_take h o1 p2 st = some o) : fk_C wC yX6_take cX6_take 3 none 1 21 l g [fk_r g h, fk_r g o1, .int p2] st (fk_eU o.1) o.2 := by
  refine fk_begin rfl (Nat.le_of_ble_eq_true rfl) (fun k hk => ?_) o hF
  have hk : fk_ok wC g k RX6 cX6_take 3 none 1 21 := hk
  show fk_J wC g fk_eU k 0 [(0, fk_r g h), (1, fk_r g o1), (2, .int p2)] [] st (F6_take h o1 p2 st)
  unfold F6_take
  refine j_aload_n (pc := 0) hk 1 rfl ⟨_, rfl⟩ dX6_take_0 ?_
  refine j_iload_n (pc := 1) hk 2 rfl dX6_take_1 ?_
  refine j_callVNi (pc := 2) hk [.int p2] [] rfl (fun l o hq9 => C0_lacks o1 (ho1) p2 st l o hq9) (rcv_0 (ho1)) yv_X0_lacks ml_6_31 rfl (Nat.le_of_ble_eq_true rfl) (Nat.le_of_ble_eq_true rfl) (Nat.le_of_ble_eq_true rfl) dX6_take_2 (fun x1 st2 => ?_)
  refine j_if_eq (tgt := 9) (pc := 5) hk (by decide) dX6_take_5 (fun _ => ?_) (fun _ => ?_)
  · refine j_aload_n (pc := 9) hk 0 rfl ⟨_, rfl⟩ dX6_take_9 ?_
    refine j_aload_n (pc := 10) hk 1 rfl ⟨_, rfl⟩ dX6_take_10 ?_
    refine f_6_37 (pc := 11) hk (ho1) dX6_take_11 ?_
    refine j_iload_n (pc := 14) hk 2 rfl dX6_take_14 ?_
    refine a_iload (pc := 15) hk (isI_0_1 (ho1)) dX6_take_15 (fun x3 => ?_)
    refine p_6_9 (pc := 16) hk (hh) dX6_take_16 (fun st4 => ?_)
    refine j_aload_n (pc := 19) hk 0 rfl ⟨_, rfl⟩ dX6_take_19 ?_
    refine j_aload_n (pc := 20) hk 1 rfl ⟨_, rfl⟩ dX6_take_20 ?_
    refine f_6_40 (pc := 21) hk (ho1) dX6_take_21 ?_
    refine j_iload_n (pc := 24) hk 2 rfl dX6_take_24 ?_
    refine a_iload (pc := 25) hk (isI_0_2 (ho1)) dX6_take_25 (fun x5 => ?_)
    refine p_6_15 (pc := 26) hk (hh) dX6_take_26 (fun st6 => ?_)
    refine j_aload_n (pc := 29) hk 0 rfl ⟨_, rfl⟩ dX6_take_29 ?_
    refine j_aload_n (pc := 30) hk 1 rfl ⟨_, rfl⟩ dX6_take_30 ?_
    refine f_6_43 (pc := 31) hk (ho1) dX6_take_31 ?_
    refine j_iload_n (pc := 34) hk 2 rfl dX6_take_34 ?_
    refine a_iload (pc := 35) hk (isI_0_3 (ho1)) dX6_take_35 (fun x7 => ?_)
    refine p_6_18 (pc := 36) hk (hh) dX6_take_36 (fun st8 => ?_)
    refine j_aload_n (pc := 39) hk 0 rfl ⟨_, rfl⟩ dX6_take_39 ?_
    refine j_aload_n (pc := 40) hk 1 rfl ⟨_, rfl⟩ dX6_take_40 ?_
    refine f_6_46 (pc := 41) hk (ho1) dX6_take_41 (fun x9 => ?_)
    refine p_6_21 (pc := 44) hk (hh) dX6_take_44 (fun st10 => ?_)
    exact j_vret (pc := 47) hk dX6_take_47
  · exact j_vret (pc := 8) hk dX6_take_8
theorem dX6_sayLayers_0 : decode cX6_sayLayers 0 = .ok (.aload_n 0, 1) := by decide +kernel
theorem dX6_sayLayers_1 : decode cX6_sayLayers 1 = .ok (.iconst 0, 1) := by decide +kernel
theorem dX6_sayLayers_2 : decode cX6_sayLayers 2 = .ok (.aload_n 1, 1) := by decide +kernel
theorem dX6_sayLayers_3 : decode cX6_sayLayers 3 = .ok (.getfield 69, 3) := by decide +kernel
theorem dX6_sayLayers_6 : decode cX6_sayLayers 6 = .ok (.aload_n 0, 1) := by decide +kernel
theorem dX6_sayLayers_7 : decode cX6_sayLayers 7 = .ok (.getfield 21, 3) := by decide +kernel
theorem dX6_sayLayers_10 : decode cX6_sayLayers 10 = .ok (.invokestatic 74, 3) := by decide +kernel
theorem dX6_sayLayers_13 : decode cX6_sayLayers 13 = .ok (.bipush 8, 2) := by decide +kernel
theorem dX6_sayLayers_15 : decode cX6_sayLayers 15 = .ok (.invokestatic 74, 3) := by decide +kernel
theorem dX6_sayLayers_18 : decode cX6_sayLayers 18 = .ok (.invokestatic 80, 3) := by decide +kernel
theorem dX6_sayLayers_21 : decode cX6_sayLayers 21 = .ok (.putfield 24, 3) := by decide +kernel
theorem dX6_sayLayers_24 : decode cX6_sayLayers 24 = .ok (.iconst 0, 1) := by decide +kernel
theorem dX6_sayLayers_25 : decode cX6_sayLayers 25 = .ok (.istore_n 2, 1) := by decide +kernel
theorem dX6_sayLayers_26 : decode cX6_sayLayers 26 = .ok (.iload_n 2, 1) := by decide +kernel
theorem dX6_sayLayers_27 : decode cX6_sayLayers 27 = .ok (.aload_n 0, 1) := by decide +kernel
theorem dX6_sayLayers_28 : decode cX6_sayLayers 28 = .ok (.getfield 24, 3) := by decide +kernel
theorem dX6_sayLayers_31 : decode cX6_sayLayers 31 = .ok (.if_icmp .ge 44, 3) := by decide +kernel
theorem dX6_sayLayers_34 : decode cX6_sayLayers 34 = .ok (.iload_n 2, 1) := by decide +kernel
theorem dX6_sayLayers_35 : decode cX6_sayLayers 35 = .ok (.aload_n 0, 1) := by decide +kernel
theorem dX6_sayLayers_36 : decode cX6_sayLayers 36 = .ok (.getfield 27, 3) := by decide +kernel
theorem dX6_sayLayers_39 : decode cX6_sayLayers 39 = .ok (.arraylength, 1) := by decide +kernel
theorem dX6_sayLayers_40 : decode cX6_sayLayers 40 = .ok (.if_icmp .ge 35, 3) := by decide +kernel
theorem dX6_sayLayers_43 : decode cX6_sayLayers 43 = .ok (.aload_n 0, 1) := by decide +kernel
theorem dX6_sayLayers_44 : decode cX6_sayLayers 44 = .ok (.getfield 27, 3) := by decide +kernel
theorem dX6_sayLayers_47 : decode cX6_sayLayers 47 = .ok (.iload_n 2, 1) := by decide +kernel
theorem dX6_sayLayers_48 : decode cX6_sayLayers 48 = .ok (.iconst 2, 1) := by decide +kernel
theorem dX6_sayLayers_49 : decode cX6_sayLayers 49 = .ok (.aload_n 1, 1) := by decide +kernel
theorem dX6_sayLayers_50 : decode cX6_sayLayers 50 = .ok (.iload_n 2, 1) := by decide +kernel
theorem dX6_sayLayers_51 : decode cX6_sayLayers 51 = .ok (.invokevirtual 83, 3) := by decide +kernel
theorem dX6_sayLayers_54 : decode cX6_sayLayers 54 = .ok (.imul, 1) := by decide +kernel
theorem dX6_sayLayers_55 : decode cX6_sayLayers 55 = .ok (.aload_n 0, 1) := by decide +kernel
theorem dX6_sayLayers_56 : decode cX6_sayLayers 56 = .ok (.getfield 21, 3) := by decide +kernel
theorem dX6_sayLayers_59 : decode cX6_sayLayers 59 = .ok (.iadd, 1) := by decide +kernel
theorem dX6_sayLayers_60 : decode cX6_sayLayers 60 = .ok (.aload_n 0, 1) := by decide +kernel
theorem dX6_sayLayers_61 : decode cX6_sayLayers 61 = .ok (.getfield 18, 3) := by decide +kernel
theorem dX6_sayLayers_64 : decode cX6_sayLayers 64 = .ok (.iadd, 1) := by decide +kernel
theorem dX6_sayLayers_65 : decode cX6_sayLayers 65 = .ok (.bipush 20, 2) := by decide +kernel
theorem dX6_sayLayers_67 : decode cX6_sayLayers 67 = .ok (.irem, 1) := by decide +kernel
theorem dX6_sayLayers_68 : decode cX6_sayLayers 68 = .ok (.iastore, 1) := by decide +kernel
theorem dX6_sayLayers_69 : decode cX6_sayLayers 69 = .ok (.iinc 2 1, 3) := by decide +kernel
theorem dX6_sayLayers_72 : decode cX6_sayLayers 72 = .ok (.goto (-46), 3) := by decide +kernel
theorem dX6_sayLayers_75 : decode cX6_sayLayers 75 = .ok (.return_, 1) := by decide +kernel
def B6_sayLayers_26 (h : Nat) (k26 : Int32 → fkS → Option (Unit × fkS)) (v2 : Int32) (st : fkS) : Option (Unit × fkS) :=
 fk_let (gI st 124 h) <| fun x4 =>
 if x4 ≤ v2 then
 (some ((), st))
 else
 (if (16 : Int32) ≤ v2 then
 (some ((), st))
 else
 (fk_bind (F3_layer v2 st) <| fun x5 st6 =>
 fk_let (gI st6 123 h) <| fun x7 =>
 fk_let (gI st6 122 h) <| fun x8 =>
 fk_chk (fk_in v2 16) <| fk_let (sA st6 (h + 2) v2.toNatClampNeg (fk_rem ((((2 : Int32) * x5) + x7) + x8) (20 : Int32))) <| fun st9 =>
 k26 (v2 + (1 : Int32)) st9))
set_option maxHeartbeats 1000000 in
set_option maxRecDepth 20000 in
theorem T6_sayLayers_26 {g : fkG} {k : fkK} (h : Nat) (hh : kdC h = 6) (hk : fk_ok wC g k RX6 cX6_sayLayers 3 none 1 100) (k26 : Int32 → fkS → Option (Unit × fkS)) (H26 : ∀ (v2 : Int32) (st : fkS), fk_J wC g fk_eU k 26 [(0, fk_r g h), (1, fk_r g 38), (2, .int v2)] [] st (k26 v2 st)) : ∀ (v2 : Int32) (st : fkS), fk_J wC g fk_eU k 26 [(0, fk_r g h), (1, fk_r g 38), (2, .int v2)] [] st (B6_sayLayers_26 h k26 v2 st) := by
  intro v2 st
  unfold B6_sayLayers_26
  refine j_iload_n (pc := 26) hk 2 rfl dX6_sayLayers_26 ?_
  refine j_aload_n (pc := 27) hk 0 rfl ⟨_, rfl⟩ dX6_sayLayers_27 ?_
  refine f_6_24 (pc := 28) hk (hh) dX6_sayLayers_28 (fun x4 => ?_)
  refine j_icmp_ge (tgt := 75) (pc := 31) hk (by decide) dX6_sayLayers_31 (fun _ => ?_) (fun _ => ?_)
  · exact j_vret (pc := 75) hk dX6_sayLayers_75
  · refine j_iload_n (pc := 34) hk 2 rfl dX6_sayLayers_34 ?_
    refine j_aload_n (pc := 35) hk 0 rfl ⟨_, rfl⟩ dX6_sayLayers_35 ?_
    refine f_6_27 (pc := 36) hk (hh) dX6_sayLayers_36 ?_
    refine a_ilen (pc := 39) hk (isI_6_5 (hh)) (v := 16) (by decide) dX6_sayLayers_39 ?_
    refine j_icmp_ge (tgt := 75) (pc := 40) hk (by decide) dX6_sayLayers_40 (fun _ => ?_) (fun _ => ?_)
    · exact j_vret (pc := 75) hk dX6_sayLayers_75
    · refine j_aload_n (pc := 43) hk 0 rfl ⟨_, rfl⟩ dX6_sayLayers_43 ?_
      refine f_6_27 (pc := 44) hk (hh) dX6_sayLayers_44 ?_
      refine j_iload_n (pc := 47) hk 2 rfl dX6_sayLayers_47 ?_
      refine j_iconst (pc := 48) hk dX6_sayLayers_48 (v := 2) (by decide) ?_
      refine j_aload_n (pc := 49) hk 1 rfl ⟨_, rfl⟩ dX6_sayLayers_49 ?_
      refine j_iload_n (pc := 50) hk 2 rfl dX6_sayLayers_50 ?_
      refine j_callVNi (pc := 51) hk [.int v2] [.int (2 : Int32), .int v2, fk_r g (h + 2)] rfl (fun l o hq9 => C3_layer v2 st l o hq9) (rcv_3 (rfl)) yv_X3_layer ml_6_83 rfl (Nat.le_of_ble_eq_true rfl) (Nat.le_of_ble_eq_true rfl) (Nat.le_of_ble_eq_true rfl) dX6_sayLayers_51 (fun x5 st6 => ?_)
      refine j_imul (pc := 54) hk dX6_sayLayers_54 ?_
      refine j_aload_n (pc := 55) hk 0 rfl ⟨_, rfl⟩ dX6_sayLayers_55 ?_
      refine f_6_21 (pc := 56) hk (hh) dX6_sayLayers_56 (fun x7 => ?_)
      refine j_iadd (pc := 59) hk dX6_sayLayers_59 ?_
      refine j_aload_n (pc := 60) hk 0 rfl ⟨_, rfl⟩ dX6_sayLayers_60 ?_
      refine f_6_18 (pc := 61) hk (hh) dX6_sayLayers_61 (fun x8 => ?_)
      refine j_iadd (pc := 64) hk dX6_sayLayers_64 ?_
      refine j_bipush (pc := 65) hk dX6_sayLayers_65 (v := 20) (by decide) ?_
      refine j_irem (pc := 67) hk (show fk_nz (20 : Int32) = true from by decide) dX6_sayLayers_67 ?_
      refine a_istore (pc := 68) hk (isI_6_5 (hh)) dX6_sayLayers_68 (fun st9 => ?_)
      refine j_iinc (dd := (1 : Int32)) (lv' := ((2, .int (v2 + (1 : Int32))) :: [(0, fk_r g h), (1, fk_r g 38)])) (pc := 69) hk 2 rfl (by decide) (by decide) rfl dX6_sayLayers_69 ?_
      refine j_sub hk (lv' := [(0, fk_r g h), (1, fk_r g 38), (2, .int (v2 + (1 : Int32)))]) [1, 2, 0] rfl ?_
      refine j_goto (tgt := 26) (pc := 72) hk (by decide) dX6_sayLayers_72 ?_
      exact j_sub hk [0, 1, 2] rfl (H26 (v2 + (1 : Int32)) st9)
set_option maxHeartbeats 1000000 in
set_option maxRecDepth 20000 in
theorem L6_sayLayers_26 {g : fkG} {k : fkK} (h : Nat) (hh : kdC h = 6) (hk : fk_ok wC g k RX6 cX6_sayLayers 3 none 1 100) (fu : Nat) : ∀ (v2 : Int32) (st : fkS), fk_J wC g fk_eU k 26 [(0, fk_r g h), (1, fk_r g 38), (2, .int v2)] [] st (fk_lp1 (B6_sayLayers_26 h) fu v2 st) := by
  induction fu with
  | zero =>
    intro v2 st
    exact j_none hk
  | succ fu ih =>
    exact T6_sayLayers_26 h hh hk _ ih
def F6_sayLayers (h : Nat) (st : fkS) : Option (Unit × fkS) :=
 fk_let (gI st 61 38) <| fun x1 =>
 fk_let (gI st 123 h) <| fun x2 =>
 fk_let (sI st 124 h (fk_max (0 : Int32) (fk_min (fk_min x1 x2) (8 : Int32)))) <| fun st3 =>
 fk_lp1 (B6_sayLayers_26 h) fk_fuel (0 : Int32) st3
set_option maxHeartbeats 1000000 in
set_option maxRecDepth 20000 in
theorem C6_sayLayers (h : Nat) (hh : kdC h = 6) (st : fkS) {g : fkG} (l : Launch) (o : Unit × fkS) (hF : F6_sayLayers h st = some o) : fk_C wC yX6_sayLayers cX6_sayLayers 3 none 1 100 l g [fk_r g h, fk_r g 38] st (fk_eU o.1) o.2 := by
  refine fk_begin rfl (Nat.le_of_ble_eq_true rfl) (fun k hk => ?_) o hF
  have hk : fk_ok wC g k RX6 cX6_sayLayers 3 none 1 100 := hk
  show fk_J wC g fk_eU k 0 [(0, fk_r g h), (1, fk_r g 38)] [] st (F6_sayLayers h st)
  unfold F6_sayLayers
  refine j_aload_n (pc := 0) hk 0 rfl ⟨_, rfl⟩ dX6_sayLayers_0 ?_
  refine j_iconst (pc := 1) hk dX6_sayLayers_1 (v := 0) (by decide) ?_
  refine j_aload_n (pc := 2) hk 1 rfl ⟨_, rfl⟩ dX6_sayLayers_2 ?_
  refine f_6_69 (pc := 3) hk (rfl) dX6_sayLayers_3 (fun x1 => ?_)
  refine j_aload_n (pc := 6) hk 0 rfl ⟨_, rfl⟩ dX6_sayLayers_6 ?_
  refine f_6_21 (pc := 7) hk (hh) dX6_sayLayers_7 (fun x2 => ?_)
  refine j_mmin (pc := 10) hk ml_6_74 wd_min1 wd_math wd_min2 (Nat.le_of_ble_eq_true rfl) (Nat.le_of_ble_eq_true rfl) dX6_sayLayers_10 ?_
  refine j_bipush (pc := 13) hk dX6_sayLayers_13 (v := 8) (by decide) ?_
  refine j_mmin (pc := 15) hk ml_6_74 wd_min1 wd_math wd_min2 (Nat.le_of_ble_eq_true rfl) (Nat.le_of_ble_eq_true rfl) dX6_sayLayers_15 ?_
  refine j_mmax (pc := 18) hk ml_6_80 wd_max1 wd_math wd_max2 (Nat.le_of_ble_eq_true rfl) (Nat.le_of_ble_eq_true rfl) dX6_sayLayers_18 ?_
  refine p_6_24 (pc := 21) hk (hh) dX6_sayLayers_21 (fun st3 => ?_)
  refine j_iconst (pc := 24) hk dX6_sayLayers_24 (v := 0) (by decide) ?_
  refine j_istore_n (lv' := ((2, .int (0 : Int32)) :: [(0, fk_r g h), (1, fk_r g 38)])) (pc := 25) hk rfl (by decide) rfl dX6_sayLayers_25 ?_
  refine j_sub hk (lv' := [(0, fk_r g h), (1, fk_r g 38), (2, .int (0 : Int32))]) [1, 2, 0] rfl ?_
  exact j_sub hk [0, 1, 2] rfl (L6_sayLayers_26 h hh hk fk_fuel (0 : Int32) st3)
theorem dX6_chip_0 : decode cX6_chip 0 = .ok (.iconst 0, 1) := by decide +kernel
theorem dX6_chip_1 : decode cX6_chip 1 = .ok (.istore_n 1, 1) := by decide +kernel
theorem dX6_chip_2 : decode cX6_chip 2 = .ok (.iload_n 1, 1) := by decide +kernel
theorem dX6_chip_3 : decode cX6_chip 3 = .ok (.aload_n 0, 1) := by decide +kernel
theorem dX6_chip_4 : decode cX6_chip 4 = .ok (.getfield 24, 3) := by decide +kernel
theorem dX6_chip_7 : decode cX6_chip 7 = .ok (.if_icmp .ge 46, 3) := by decide +kernel
theorem dX6_chip_10 : decode cX6_chip 10 = .ok (.iload_n 1, 1) := by decide +kernel
theorem dX6_chip_11 : decode cX6_chip 11 = .ok (.aload_n 0, 1) := by decide +kernel
theorem dX6_chip_12 : decode cX6_chip 12 = .ok (.getfield 27, 3) := by decide +kernel
theorem dX6_chip_15 : decode cX6_chip 15 = .ok (.arraylength, 1) := by decide +kernel
theorem dX6_chip_16 : decode cX6_chip 16 = .ok (.if_icmp .ge 37, 3) := by decide +kernel
theorem dX6_chip_19 : decode cX6_chip 19 = .ok (.aload_n 0, 1) := by decide +kernel
theorem dX6_chip_20 : decode cX6_chip 20 = .ok (.getfield 27, 3) := by decide +kernel
theorem dX6_chip_23 : decode cX6_chip 23 = .ok (.iload_n 1, 1) := by decide +kernel
theorem dX6_chip_24 : decode cX6_chip 24 = .ok (.iaload, 1) := by decide +kernel
theorem dX6_chip_25 : decode cX6_chip 25 = .ok (.iconst 3, 1) := by decide +kernel
theorem dX6_chip_26 : decode cX6_chip 26 = .ok (.irem, 1) := by decide +kernel
theorem dX6_chip_27 : decode cX6_chip 27 = .ok (.ifCond .ne 20, 3) := by decide +kernel
theorem dX6_chip_30 : decode cX6_chip 30 = .ok (.aload_n 0, 1) := by decide +kernel
theorem dX6_chip_31 : decode cX6_chip 31 = .ok (.getfield 27, 3) := by decide +kernel
theorem dX6_chip_34 : decode cX6_chip 34 = .ok (.iload_n 1, 1) := by decide +kernel
theorem dX6_chip_35 : decode cX6_chip 35 = .ok (.aload_n 0, 1) := by decide +kernel
theorem dX6_chip_36 : decode cX6_chip 36 = .ok (.getfield 27, 3) := by decide +kernel
theorem dX6_chip_39 : decode cX6_chip 39 = .ok (.iload_n 1, 1) := by decide +kernel
theorem dX6_chip_40 : decode cX6_chip 40 = .ok (.iaload, 1) := by decide +kernel
theorem dX6_chip_41 : decode cX6_chip 41 = .ok (.iconst 1, 1) := by decide +kernel
theorem dX6_chip_42 : decode cX6_chip 42 = .ok (.iadd, 1) := by decide +kernel
theorem dX6_chip_43 : decode cX6_chip 43 = .ok (.bipush 20, 2) := by decide +kernel
theorem dX6_chip_45 : decode cX6_chip 45 = .ok (.irem, 1) := by decide +kernel
theorem dX6_chip_46 : decode cX6_chip 46 = .ok (.iastore, 1) := by decide +kernel
theorem dX6_chip_47 : decode cX6_chip 47 = .ok (.iinc 1 1, 3) := by decide +kernel
theorem dX6_chip_50 : decode cX6_chip 50 = .ok (.goto (-48), 3) := by decide +kernel
theorem dX6_chip_53 : decode cX6_chip 53 = .ok (.return_, 1) := by decide +kernel
def B6_chip_47 (h : Nat) (k2 : Int32 → fkS → Option (Unit × fkS)) (v1 : Int32) (st : fkS) : Option (Unit × fkS) :=
 k2 (v1 + (1 : Int32)) st
set_option maxHeartbeats 1000000 in
set_option maxRecDepth 20000 in
theorem T6_chip_47 {g : fkG} {k : fkK} (h : Nat) (hh : kdC h = 6) (hk : fk_ok wC g k RX6 cX6_chip 2 none 0 0) (k2 : Int32 → fkS → Option (Unit × fkS)) (H2 : ∀ (v1 : Int32) (st : fkS), fk_J wC g fk_eU k 2 [(0, fk_r g h), (1, .int v1)] [] st (k2 v1 st)) : ∀ (v1 : Int32) (st : fkS), fk_J wC g fk_eU k 47 [(0, fk_r g h), (1, .int v1)] [] st (B6_chip_47 h k2 v1 st) := by
  intro v1 st
  unfold B6_chip_47
  refine j_iinc (dd := (1 : Int32)) (lv' := ((1, .int (v1 + (1 : Int32))) :: [(0, fk_r g h)])) (pc := 47) hk 1 rfl (by decide) (by decide) rfl dX6_chip_47 ?_
  refine j_sub hk (lv' := [(0, fk_r g h), (1, .int (v1 + (1 : Int32)))]) [1, 0] rfl ?_
  refine j_goto (tgt := 2) (pc := 50) hk (by decide) dX6_chip_50 ?_
  exact j_sub hk [0, 1] rfl (H2 (v1 + (1 : Int32)) st)
def B6_chip_2 (h : Nat) (k2 : Int32 → fkS → Option (Unit × fkS)) (v1 : Int32) (st : fkS) : Option (Unit × fkS) :=
 fk_let (gI st 124 h) <| fun x1 =>
 if x1 ≤ v1 then
 (some ((), st))
 else
 (if (16 : Int32) ≤ v1 then
 (some ((), st))
 else
 (fk_chk (fk_in v1 16) <| fk_let (gA st (h + 2) v1.toNatClampNeg) <| fun x2 =>
 if (fk_rem x2 (3 : Int32)) = 0 then
 (fk_chk (fk_in v1 16) <| fk_let (gA st (h + 2) v1.toNatClampNeg) <| fun x3 =>
 fk_chk (fk_in v1 16) <| fk_let (sA st (h + 2) v1.toNatClampNeg (fk_rem (x3 + (1 : Int32)) (20 : Int32))) <| fun st4 =>
 B6_chip_47 h k2 v1 st4)
 else
 (B6_chip_47 h k2 v1 st)))
set_option maxHeartbeats 1000000 in
set_option maxRecDepth 20000 in
theorem T6_chip_2 {g : fkG} {k : fkK} (h : Nat) (hh : kdC h = 6) (hk : fk_ok wC g k RX6 cX6_chip 2 none 0 0) (k2 : Int32 → fkS → Option (Unit × fkS)) (H2 : ∀ (v1 : Int32) (st : fkS), fk_J wC g fk_eU k 2 [(0, fk_r g h), (1, .int v1)] [] st (k2 v1 st)) : ∀ (v1 : Int32) (st : fkS), fk_J wC g fk_eU k 2 [(0, fk_r g h), (1, .int v1)] [] st (B6_chip_2 h k2 v1 st) := by
  intro v1 st
  unfold B6_chip_2
  refine j_iload_n (pc := 2) hk 1 rfl dX6_chip_2 ?_
  refine j_aload_n (pc := 3) hk 0 rfl ⟨_, rfl⟩ dX6_chip_3 ?_
  refine f_6_24 (pc := 4) hk (hh) dX6_chip_4 (fun x1 => ?_)
  refine j_icmp_ge (tgt := 53) (pc := 7) hk (by decide) dX6_chip_7 (fun _ => ?_) (fun _ => ?_)
  · exact j_vret (pc := 53) hk dX6_chip_53
  · refine j_iload_n (pc := 10) hk 1 rfl dX6_chip_10 ?_
    refine j_aload_n (pc := 11) hk 0 rfl ⟨_, rfl⟩ dX6_chip_11 ?_
    refine f_6_27 (pc := 12) hk (hh) dX6_chip_12 ?_
    refine a_ilen (pc := 15) hk (isI_6_5 (hh)) (v := 16) (by decide) dX6_chip_15 ?_
    refine j_icmp_ge (tgt := 53) (pc := 16) hk (by decide) dX6_chip_16 (fun _ => ?_) (fun _ => ?_)
    · exact j_vret (pc := 53) hk dX6_chip_53
    · refine j_aload_n (pc := 19) hk 0 rfl ⟨_, rfl⟩ dX6_chip_19 ?_
      refine f_6_27 (pc := 20) hk (hh) dX6_chip_20 ?_
      refine j_iload_n (pc := 23) hk 1 rfl dX6_chip_23 ?_
      refine a_iload (pc := 24) hk (isI_6_5 (hh)) dX6_chip_24 (fun x2 => ?_)
      refine j_iconst (pc := 25) hk dX6_chip_25 (v := 3) (by decide) ?_
      refine j_irem (pc := 26) hk (show fk_nz (3 : Int32) = true from by decide) dX6_chip_26 ?_
      refine j_if_ne (tgt := 47) (pc := 27) hk (by decide) dX6_chip_27 (fun _ => ?_) (fun _ => ?_)
      · refine j_aload_n (pc := 30) hk 0 rfl ⟨_, rfl⟩ dX6_chip_30 ?_
        refine f_6_27 (pc := 31) hk (hh) dX6_chip_31 ?_
        refine j_iload_n (pc := 34) hk 1 rfl dX6_chip_34 ?_
        refine j_aload_n (pc := 35) hk 0 rfl ⟨_, rfl⟩ dX6_chip_35 ?_
        refine f_6_27 (pc := 36) hk (hh) dX6_chip_36 ?_
        refine j_iload_n (pc := 39) hk 1 rfl dX6_chip_39 ?_
        refine a_iload (pc := 40) hk (isI_6_5 (hh)) dX6_chip_40 (fun x3 => ?_)
        refine j_iconst (pc := 41) hk dX6_chip_41 (v := 1) (by decide) ?_
        refine j_iadd (pc := 42) hk dX6_chip_42 ?_
        refine j_bipush (pc := 43) hk dX6_chip_43 (v := 20) (by decide) ?_
        refine j_irem (pc := 45) hk (show fk_nz (20 : Int32) = true from by decide) dX6_chip_45 ?_
        refine a_istore (pc := 46) hk (isI_6_5 (hh)) dX6_chip_46 (fun st4 => ?_)
        exact j_sub hk [0, 1] rfl (T6_chip_47 h hh hk k2 H2 v1 st4)
      · exact j_sub hk [0, 1] rfl (T6_chip_47 h hh hk k2 H2 v1 st)
set_option maxHeartbeats 1000000 in
set_option maxRecDepth 20000 in
theorem L6_chip_2 {g : fkG} {k : fkK} (h : Nat) (hh : kdC h = 6) (hk : fk_ok wC g k RX6 cX6_chip 2 none 0 0) (fu : Nat) : ∀ (v1 : Int32) (st : fkS), fk_J wC g fk_eU k 2 [(0, fk_r g h), (1, .int v1)] [] st (fk_lp1 (B6_chip_2 h) fu v1 st) := by
  induction fu with
  | zero =>
    intro v1 st
    exact j_none hk
  | succ fu ih =>
    exact T6_chip_2 h hh hk _ ih
def F6_chip (h : Nat) (st : fkS) : Option (Unit × fkS) :=
 fk_lp1 (B6_chip_2 h) fk_fuel (0 : Int32) st
set_option maxHeartbeats 1000000 in
set_option maxRecDepth 20000 in
theorem C6_chip (h : Nat) (hh : kdC h = 6) (st : fkS) {g : fkG} (l : Launch) (o : Unit × fkS) (hF : F6_chip h st = some o) : fk_C wC yX6_chip cX6_chip 2 none 0 0 l g [fk_r g h] st (fk_eU o.1) o.2 := by
  refine fk_begin rfl (Nat.le_of_ble_eq_true rfl) (fun k hk => ?_) o hF
  have hk : fk_ok wC g k RX6 cX6_chip 2 none 0 0 := hk
  show fk_J wC g fk_eU k 0 [(0, fk_r g h)] [] st (F6_chip h st)
  unfold F6_chip
  refine j_iconst (pc := 0) hk dX6_chip_0 (v := 0) (by decide) ?_
  refine j_istore_n (lv' := ((1, .int (0 : Int32)) :: [(0, fk_r g h)])) (pc := 1) hk rfl (by decide) rfl dX6_chip_1 ?_
  refine j_sub hk (lv' := [(0, fk_r g h), (1, .int (0 : Int32))]) [1, 0] rfl ?_
  exact j_sub hk [0, 1] rfl (L6_chip_2 h hh hk fk_fuel (0 : Int32) st)
theorem dX6_swap_0 : decode cX6_swap 0 = .ok (.iload_n 1, 1) := by decide +kernel
theorem dX6_swap_1 : decode cX6_swap 1 = .ok (.ifCond .lt 25, 3) := by decide +kernel
theorem dX6_swap_4 : decode cX6_swap 4 = .ok (.iload_n 1, 1) := by decide +kernel
theorem dX6_swap_5 : decode cX6_swap 5 = .ok (.aload_n 0, 1) := by decide +kernel
theorem dX6_swap_6 : decode cX6_swap 6 = .ok (.getfield 27, 3) := by decide +kernel
theorem dX6_swap_9 : decode cX6_swap 9 = .ok (.arraylength, 1) := by decide +kernel
theorem dX6_swap_10 : decode cX6_swap 10 = .ok (.if_icmp .ge 16, 3) := by decide +kernel
theorem dX6_swap_13 : decode cX6_swap 13 = .ok (.iload_n 2, 1) := by decide +kernel
theorem dX6_swap_14 : decode cX6_swap 14 = .ok (.ifCond .lt 12, 3) := by decide +kernel
theorem dX6_swap_17 : decode cX6_swap 17 = .ok (.iload_n 2, 1) := by decide +kernel
theorem dX6_swap_18 : decode cX6_swap 18 = .ok (.aload_n 0, 1) := by decide +kernel
theorem dX6_swap_19 : decode cX6_swap 19 = .ok (.getfield 27, 3) := by decide +kernel
theorem dX6_swap_22 : decode cX6_swap 22 = .ok (.arraylength, 1) := by decide +kernel
theorem dX6_swap_23 : decode cX6_swap 23 = .ok (.if_icmp .lt 4, 3) := by decide +kernel
theorem dX6_swap_26 : decode cX6_swap 26 = .ok (.return_, 1) := by decide +kernel
theorem dX6_swap_27 : decode cX6_swap 27 = .ok (.aload_n 0, 1) := by decide +kernel
theorem dX6_swap_28 : decode cX6_swap 28 = .ok (.getfield 27, 3) := by decide +kernel
theorem dX6_swap_31 : decode cX6_swap 31 = .ok (.iload_n 1, 1) := by decide +kernel
theorem dX6_swap_32 : decode cX6_swap 32 = .ok (.iaload, 1) := by decide +kernel
theorem dX6_swap_33 : decode cX6_swap 33 = .ok (.istore_n 3, 1) := by decide +kernel
theorem dX6_swap_34 : decode cX6_swap 34 = .ok (.aload_n 0, 1) := by decide +kernel
theorem dX6_swap_35 : decode cX6_swap 35 = .ok (.getfield 27, 3) := by decide +kernel
theorem dX6_swap_38 : decode cX6_swap 38 = .ok (.iload_n 1, 1) := by decide +kernel
theorem dX6_swap_39 : decode cX6_swap 39 = .ok (.aload_n 0, 1) := by decide +kernel
theorem dX6_swap_40 : decode cX6_swap 40 = .ok (.getfield 27, 3) := by decide +kernel
theorem dX6_swap_43 : decode cX6_swap 43 = .ok (.iload_n 2, 1) := by decide +kernel
theorem dX6_swap_44 : decode cX6_swap 44 = .ok (.iaload, 1) := by decide +kernel
theorem dX6_swap_45 : decode cX6_swap 45 = .ok (.iastore, 1) := by decide +kernel
theorem dX6_swap_46 : decode cX6_swap 46 = .ok (.aload_n 0, 1) := by decide +kernel
theorem dX6_swap_47 : decode cX6_swap 47 = .ok (.getfield 27, 3) := by decide +kernel
theorem dX6_swap_50 : decode cX6_swap 50 = .ok (.iload_n 2, 1) := by decide +kernel
theorem dX6_swap_51 : decode cX6_swap 51 = .ok (.iload_n 3, 1) := by decide +kernel
theorem dX6_swap_52 : decode cX6_swap 52 = .ok (.iastore, 1) := by decide +kernel
theorem dX6_swap_53 : decode cX6_swap 53 = .ok (.return_, 1) := by decide +kernel
def F6_swap (h : Nat) (p1 : Int32) (p2 : Int32) (st : fkS) : Option (Unit × fkS) :=
 if p1 < 0 then
 (some ((), st))
 else
 (if (16 : Int32) ≤ p1 then
 (some ((), st))
 else
 (if p2 < 0 then
 (some ((), st))
 else
 (if p2 < (16 : Int32) then
 (fk_chk (fk_in p1 16) <| fk_let (gA st (h + 2) p1.toNatClampNeg) <| fun x1 =>
 fk_chk (fk_in p2 16) <| fk_let (gA st (h + 2) p2.toNatClampNeg) <| fun x2 =>
 fk_chk (fk_in p1 16) <| fk_let (sA st (h + 2) p1.toNatClampNeg x2) <| fun st3 =>
 fk_chk (fk_in p2 16) <| fk_let (sA st3 (h + 2) p2.toNatClampNeg x1) <| fun st4 =>
 some ((), st4))
 else
 (some ((), st)))))
set_option maxHeartbeats 1000000 in
set_option maxRecDepth 20000 in
theorem C6_swap (h : Nat) (hh : kdC h = 6) (p1 : Int32) (p2 : Int32) (st : fkS) {g : fkG} (l : Launch) (o : Unit × fkS) (hF : F6_swap h p1 p2 st = some o) : fk_C wC yX6_swap cX6_swap 4 none 0 0 l g [fk_r g h, .int p1, .int p2] st (fk_eU o.1) o.2 := by
  refine fk_begin rfl (Nat.le_of_ble_eq_true rfl) (fun k hk => ?_) o hF
  have hk : fk_ok wC g k RX6 cX6_swap 4 none 0 0 := hk
  show fk_J wC g fk_eU k 0 [(0, fk_r g h), (1, .int p1), (2, .int p2)] [] st (F6_swap h p1 p2 st)
  unfold F6_swap
  refine j_iload_n (pc := 0) hk 1 rfl dX6_swap_0 ?_
  refine j_if_lt (tgt := 26) (pc := 1) hk (by decide) dX6_swap_1 (fun _ => ?_) (fun _ => ?_)
  · exact j_vret (pc := 26) hk dX6_swap_26
  · refine j_iload_n (pc := 4) hk 1 rfl dX6_swap_4 ?_
    refine j_aload_n (pc := 5) hk 0 rfl ⟨_, rfl⟩ dX6_swap_5 ?_
    refine f_6_27 (pc := 6) hk (hh) dX6_swap_6 ?_
    refine a_ilen (pc := 9) hk (isI_6_5 (hh)) (v := 16) (by decide) dX6_swap_9 ?_
    refine j_icmp_ge (tgt := 26) (pc := 10) hk (by decide) dX6_swap_10 (fun _ => ?_) (fun _ => ?_)
    · exact j_vret (pc := 26) hk dX6_swap_26
    · refine j_iload_n (pc := 13) hk 2 rfl dX6_swap_13 ?_
      refine j_if_lt (tgt := 26) (pc := 14) hk (by decide) dX6_swap_14 (fun _ => ?_) (fun _ => ?_)
      · exact j_vret (pc := 26) hk dX6_swap_26
      · refine j_iload_n (pc := 17) hk 2 rfl dX6_swap_17 ?_
        refine j_aload_n (pc := 18) hk 0 rfl ⟨_, rfl⟩ dX6_swap_18 ?_
        refine f_6_27 (pc := 19) hk (hh) dX6_swap_19 ?_
        refine a_ilen (pc := 22) hk (isI_6_5 (hh)) (v := 16) (by decide) dX6_swap_22 ?_
        refine j_icmp_lt (tgt := 27) (pc := 23) hk (by decide) dX6_swap_23 (fun _ => ?_) (fun _ => ?_)
        · refine j_aload_n (pc := 27) hk 0 rfl ⟨_, rfl⟩ dX6_swap_27 ?_
          refine f_6_27 (pc := 28) hk (hh) dX6_swap_28 ?_
          refine j_iload_n (pc := 31) hk 1 rfl dX6_swap_31 ?_
          refine a_iload (pc := 32) hk (isI_6_5 (hh)) dX6_swap_32 (fun x1 => ?_)
          refine j_istore_n (lv' := ((3, .int x1) :: [(0, fk_r g h), (1, .int p1), (2, .int p2)])) (pc := 33) hk rfl (by decide) rfl dX6_swap_33 ?_
          refine j_sub hk (lv' := [(0, fk_r g h), (1, .int p1), (2, .int p2), (3, .int x1)]) [1, 2, 3, 0] rfl ?_
          refine j_aload_n (pc := 34) hk 0 rfl ⟨_, rfl⟩ dX6_swap_34 ?_
          refine f_6_27 (pc := 35) hk (hh) dX6_swap_35 ?_
          refine j_iload_n (pc := 38) hk 1 rfl dX6_swap_38 ?_
          refine j_aload_n (pc := 39) hk 0 rfl ⟨_, rfl⟩ dX6_swap_39 ?_
          refine f_6_27 (pc := 40) hk (hh) dX6_swap_40 ?_
          refine j_iload_n (pc := 43) hk 2 rfl dX6_swap_43 ?_
          refine a_iload (pc := 44) hk (isI_6_5 (hh)) dX6_swap_44 (fun x2 => ?_)
          refine a_istore (pc := 45) hk (isI_6_5 (hh)) dX6_swap_45 (fun st3 => ?_)
          refine j_aload_n (pc := 46) hk 0 rfl ⟨_, rfl⟩ dX6_swap_46 ?_
          refine f_6_27 (pc := 47) hk (hh) dX6_swap_47 ?_
          refine j_iload_n (pc := 50) hk 2 rfl dX6_swap_50 ?_
          refine j_iload_n (pc := 51) hk 3 rfl dX6_swap_51 ?_
          refine a_istore (pc := 52) hk (isI_6_5 (hh)) dX6_swap_52 (fun st4 => ?_)
          exact j_vret (pc := 53) hk dX6_swap_53
        · exact j_vret (pc := 26) hk dX6_swap_26
theorem dX6_turn_0 : decode cX6_turn 0 = .ok (.iconst 0, 1) := by decide +kernel
theorem dX6_turn_1 : decode cX6_turn 1 = .ok (.istore_n 1, 1) := by decide +kernel
theorem dX6_turn_2 : decode cX6_turn 2 = .ok (.iload_n 1, 1) := by decide +kernel
theorem dX6_turn_3 : decode cX6_turn 3 = .ok (.aload_n 0, 1) := by decide +kernel
theorem dX6_turn_4 : decode cX6_turn 4 = .ok (.getfield 24, 3) := by decide +kernel
theorem dX6_turn_7 : decode cX6_turn 7 = .ok (.iconst 2, 1) := by decide +kernel
theorem dX6_turn_8 : decode cX6_turn 8 = .ok (.idiv, 1) := by decide +kernel
theorem dX6_turn_9 : decode cX6_turn 9 = .ok (.if_icmp .ge 22, 3) := by decide +kernel
theorem dX6_turn_12 : decode cX6_turn 12 = .ok (.aload_n 0, 1) := by decide +kernel
theorem dX6_turn_13 : decode cX6_turn 13 = .ok (.iload_n 1, 1) := by decide +kernel
theorem dX6_turn_14 : decode cX6_turn 14 = .ok (.aload_n 0, 1) := by decide +kernel
theorem dX6_turn_15 : decode cX6_turn 15 = .ok (.getfield 24, 3) := by decide +kernel
theorem dX6_turn_18 : decode cX6_turn 18 = .ok (.iconst 1, 1) := by decide +kernel
theorem dX6_turn_19 : decode cX6_turn 19 = .ok (.isub, 1) := by decide +kernel
theorem dX6_turn_20 : decode cX6_turn 20 = .ok (.iload_n 1, 1) := by decide +kernel
theorem dX6_turn_21 : decode cX6_turn 21 = .ok (.isub, 1) := by decide +kernel
theorem dX6_turn_22 : decode cX6_turn 22 = .ok (.invokevirtual 87, 3) := by decide +kernel
theorem dX6_turn_25 : decode cX6_turn 25 = .ok (.iinc 1 1, 3) := by decide +kernel
theorem dX6_turn_28 : decode cX6_turn 28 = .ok (.goto (-26), 3) := by decide +kernel
theorem dX6_turn_31 : decode cX6_turn 31 = .ok (.return_, 1) := by decide +kernel
def B6_turn_2 (h : Nat) (k2 : Int32 → fkS → Option (Unit × fkS)) (v1 : Int32) (st : fkS) : Option (Unit × fkS) :=
 fk_let (gI st 124 h) <| fun x1 =>
 if (x1 / (2 : Int32)) ≤ v1 then
 (some ((), st))
 else
 (fk_let (gI st 124 h) <| fun x2 =>
 fk_bind (F6_swap h v1 ((x2 - (1 : Int32)) - v1) st) <| fun _ st3 =>
 k2 (v1 + (1 : Int32)) st3)
set_option maxHeartbeats 1000000 in
set_option maxRecDepth 20000 in
theorem T6_turn_2 {g : fkG} {k : fkK} (h : Nat) (hh : kdC h = 6) (hk : fk_ok wC g k RX6 cX6_turn 2 none 1 23) (k2 : Int32 → fkS → Option (Unit × fkS)) (H2 : ∀ (v1 : Int32) (st : fkS), fk_J wC g fk_eU k 2 [(0, fk_r g h), (1, .int v1)] [] st (k2 v1 st)) : ∀ (v1 : Int32) (st : fkS), fk_J wC g fk_eU k 2 [(0, fk_r g h), (1, .int v1)] [] st (B6_turn_2 h k2 v1 st) := by
  intro v1 st
  unfold B6_turn_2
  refine j_iload_n (pc := 2) hk 1 rfl dX6_turn_2 ?_
  refine j_aload_n (pc := 3) hk 0 rfl ⟨_, rfl⟩ dX6_turn_3 ?_
  refine f_6_24 (pc := 4) hk (hh) dX6_turn_4 (fun x1 => ?_)
  refine j_iconst (pc := 7) hk dX6_turn_7 (v := 2) (by decide) ?_
  refine j_idiv (pc := 8) hk (show fk_nz (2 : Int32) = true from by decide) dX6_turn_8 ?_
  refine j_icmp_ge (tgt := 31) (pc := 9) hk (by decide) dX6_turn_9 (fun _ => ?_) (fun _ => ?_)
  · exact j_vret (pc := 31) hk dX6_turn_31
  · refine j_aload_n (pc := 12) hk 0 rfl ⟨_, rfl⟩ dX6_turn_12 ?_
    refine j_iload_n (pc := 13) hk 1 rfl dX6_turn_13 ?_
    refine j_aload_n (pc := 14) hk 0 rfl ⟨_, rfl⟩ dX6_turn_14 ?_
    refine f_6_24 (pc := 15) hk (hh) dX6_turn_15 (fun x2 => ?_)
    refine j_iconst (pc := 18) hk dX6_turn_18 (v := 1) (by decide) ?_
    refine j_isub (pc := 19) hk dX6_turn_19 ?_
    refine j_iload_n (pc := 20) hk 1 rfl dX6_turn_20 ?_
    refine j_isub (pc := 21) hk dX6_turn_21 ?_
    refine j_callVv (pc := 22) hk [.int v1, .int ((x2 - (1 : Int32)) - v1)] [] rfl (fun l o hq9 => C6_swap h (hh) v1 ((x2 - (1 : Int32)) - v1) st l o hq9) (rcv_6 (hh)) yv_X6_swap ml_6_87 rfl (Nat.le_of_ble_eq_true rfl) (Nat.le_of_ble_eq_true rfl) (Nat.le_of_ble_eq_true rfl) dX6_turn_22 (fun _ st3 => ?_)
    refine j_iinc (dd := (1 : Int32)) (lv' := ((1, .int (v1 + (1 : Int32))) :: [(0, fk_r g h)])) (pc := 25) hk 1 rfl (by decide) (by decide) rfl dX6_turn_25 ?_
    refine j_sub hk (lv' := [(0, fk_r g h), (1, .int (v1 + (1 : Int32)))]) [1, 0] rfl ?_
    refine j_goto (tgt := 2) (pc := 28) hk (by decide) dX6_turn_28 ?_
    exact j_sub hk [0, 1] rfl (H2 (v1 + (1 : Int32)) st3)
set_option maxHeartbeats 1000000 in
set_option maxRecDepth 20000 in
theorem L6_turn_2 {g : fkG} {k : fkK} (h : Nat) (hh : kdC h = 6) (hk : fk_ok wC g k RX6 cX6_turn 2 none 1 23) (fu : Nat) : ∀ (v1 : Int32) (st : fkS), fk_J wC g fk_eU k 2 [(0, fk_r g h), (1, .int v1)] [] st (fk_lp1 (B6_turn_2 h) fu v1 st) := by
  induction fu with
  | zero =>
    intro v1 st
    exact j_none hk
  | succ fu ih =>
    exact T6_turn_2 h hh hk _ ih
def F6_turn (h : Nat) (st : fkS) : Option (Unit × fkS) :=
 fk_lp1 (B6_turn_2 h) fk_fuel (0 : Int32) st
set_option maxHeartbeats 1000000 in
set_option maxRecDepth 20000 in
theorem C6_turn (h : Nat) (hh : kdC h = 6) (st : fkS) {g : fkG} (l : Launch) (o : Unit × fkS) (hF : F6_turn h st = some o) : fk_C wC yX6_turn cX6_turn 2 none 1 23 l g [fk_r g h] st (fk_eU o.1) o.2 := by
  refine fk_begin rfl (Nat.le_of_ble_eq_true rfl) (fun k hk => ?_) o hF
  have hk : fk_ok wC g k RX6 cX6_turn 2 none 1 23 := hk
  show fk_J wC g fk_eU k 0 [(0, fk_r g h)] [] st (F6_turn h st)
  unfold F6_turn
  refine j_iconst (pc := 0) hk dX6_turn_0 (v := 0) (by decide) ?_
  refine j_istore_n (lv' := ((1, .int (0 : Int32)) :: [(0, fk_r g h)])) (pc := 1) hk rfl (by decide) rfl dX6_turn_1 ?_
  refine j_sub hk (lv' := [(0, fk_r g h), (1, .int (0 : Int32))]) [1, 0] rfl ?_
  exact j_sub hk [0, 1] rfl (L6_turn_2 h hh hk fk_fuel (0 : Int32) st)
