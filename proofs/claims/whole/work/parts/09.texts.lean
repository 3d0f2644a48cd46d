theorem qw_s : Cond.initialized RJ0 ∈ fkB := fkB_in (tb_in1 (List.mem_of_getElem? (i := 12) (by decide +kernel))) rfl
theorem qw_l : Cond.initialized RJ1 ∈ fkB := fkB_in (tb_in1 (List.mem_of_getElem? (i := 13) (by decide +kernel))) rfl
theorem qw_p : Cond.initialized RJ3 ∈ fkB := fkB_in (tb_in1 (List.mem_of_getElem? (i := 14) (by decide +kernel))) rfl
theorem qy_length : fk_yV yJ0_length_8abf5 cJ0_length_8abf5 1 (some .int) 0 := ⟨⟨fkB_in (tb_in3 (List.mem_of_getElem? (i := 12) (by decide +kernel))) rfl, fkB_in (tb_in3 (List.mem_of_getElem? (i := 13) (by decide +kernel))) rfl⟩, qw_s, fkB_in (tb_in3 (List.mem_of_getElem? (i := 14) rfl)) rfl, by decide +kernel⟩
theorem qy_isEmpty : fk_yV yJ0_isEmpty_aae02 cJ0_isEmpty_aae02 1 (some .boolean) 0 := ⟨⟨fkB_in (tb_in3 (List.mem_of_getElem? (i := 60) (by decide +kernel))) rfl, fkB_in (tb_in3 (List.mem_of_getElem? (i := 61) (by decide +kernel))) rfl⟩, qw_s, fkB_in (tb_in3 (List.mem_of_getElem? (i := 62) rfl)) rfl, by decide +kernel⟩
theorem qy_charAt : fk_yV yJ0_charAt_5068e cJ0_charAt_5068e 2 (some .char) 1 := ⟨⟨fkB_in (tb_in3 (List.mem_of_getElem? (i := 22) (by decide +kernel))) rfl, fkB_in (tb_in3 (List.mem_of_getElem? (i := 23) (by decide +kernel))) rfl⟩, qw_s, fkB_in (tb_in3 (List.mem_of_getElem? (i := 24) rfl)) rfl, by decide +kernel⟩
theorem qy_coder : fk_yV yJ0_coder_7d493 cJ0_coder_7d493 1 (some .byte) 0 := ⟨⟨fkB_in (tb_in3 (List.mem_of_getElem? (i := 16) (by decide +kernel))) rfl, fkB_in (tb_in3 (List.mem_of_getElem? (i := 17) (by decide +kernel))) rfl⟩, qw_s, fkB_in (tb_in3 (List.mem_of_getElem? (i := 18) rfl)) rfl, by decide +kernel⟩
theorem qy_isLatin1 : fk_yV yJ0_isLatin1_aae02 cJ0_isLatin1_aae02 1 (some .boolean) 0 := ⟨⟨fkB_in (tb_in3 (List.mem_of_getElem? (i := 26) (by decide +kernel))) rfl, fkB_in (tb_in3 (List.mem_of_getElem? (i := 27) (by decide +kernel))) rfl⟩, qw_s, fkB_in (tb_in3 (List.mem_of_getElem? (i := 28) rfl)) rfl, by decide +kernel⟩
theorem qy_ck : fk_yS yJ0_checkIndex_df160 cJ0_checkIndex_df160 2 none 2 := ⟨fkB_in (tb_in3 (List.mem_of_getElem? (i := 33) (by decide +kernel))) rfl, qw_s, fkB_in (tb_in3 (List.mem_of_getElem? (i := 34) rfl)) rfl, by decide +kernel⟩
theorem qy_l1 : fk_yS yJ1_charAt_3b067 cJ1_charAt_3b067 2 (some .char) 2 := ⟨fkB_in (tb_in3 (List.mem_of_getElem? (i := 30) (by decide +kernel))) rfl, qw_l, fkB_in (tb_in3 (List.mem_of_getElem? (i := 31) rfl)) rfl, by decide +kernel⟩
theorem qy_pc : fk_yS yJ3_checkIndex_8e157 cJ3_checkIndex_8e157 3 (some .int) 3 := ⟨fkB_in (tb_in3 (List.mem_of_getElem? (i := 38) (by decide +kernel))) rfl, qw_p, fkB_in (tb_in3 (List.mem_of_getElem? (i := 39) rfl)) rfl, by decide +kernel⟩
theorem ql_coder : Cond.methodLink RJ0 335 yJ0_coder_7d493 ∈ fkB := fkB_in (tb_in3 (List.mem_of_getElem? (i := 15) (by decide +kernel))) rfl
theorem ql_lat : Cond.methodLink RJ0 492 yJ0_isLatin1_aae02 ∈ fkB := fkB_in (tb_in3 (List.mem_of_getElem? (i := 25) (by decide +kernel))) rfl
theorem ql_l1 : Cond.methodLink RJ0 495 yJ1_charAt_3b067 ∈ fkB := fkB_in (tb_in3 (List.mem_of_getElem? (i := 29) (by decide +kernel))) rfl
theorem ql_ck : Cond.methodLink RJ1 9 yJ0_checkIndex_df160 ∈ fkB := fkB_in (tb_in3 (List.mem_of_getElem? (i := 32) (by decide +kernel))) rfl
theorem ql_pc : Cond.methodLink RJ0 1059 yJ3_checkIndex_8e157 ∈ fkB := fkB_in (tb_in3 (List.mem_of_getElem? (i := 37) (by decide +kernel))) rfl
theorem qf_cs : Cond.fieldLink RJ0 38 "java/lang/String" "COMPACT_STRINGS" "Z" ∈ fkB := fkB_in (tb_in3 (List.mem_of_getElem? (i := 19) (by decide +kernel))) rfl
theorem qf_val : Cond.fieldLink RJ0 9 "java/lang/String" "value" "[B" ∈ fkB := fkB_in (tb_in6 (List.mem_of_getElem? (i := 49) (by decide +kernel))) rfl
theorem qf_cod : Cond.fieldLink RJ0 15 "java/lang/String" "coder" "B" ∈ fkB := fkB_in (tb_in6 (List.mem_of_getElem? (i := 50) (by decide +kernel))) rfl
theorem qf_fmt : Cond.fieldLink RJ0 1053 "jdk/internal/util/Preconditions" "SIOOBE_FORMATTER" "Ljava/util/function/BiFunction;" ∈ fkB := fkB_in (tb_in3 (List.mem_of_getElem? (i := 35) (by decide +kernel))) rfl
theorem dJ0_length_8abf5_0 : decode cJ0_length_8abf5 0 = .ok (.aload_n 0, 1) := by decide +kernel
theorem dJ0_length_8abf5_1 : decode cJ0_length_8abf5 1 = .ok (.getfield 9, 3) := by decide +kernel
theorem dJ0_length_8abf5_4 : decode cJ0_length_8abf5 4 = .ok (.arraylength, 1) := by decide +kernel
theorem dJ0_length_8abf5_5 : decode cJ0_length_8abf5 5 = .ok (.aload_n 0, 1) := by decide +kernel
theorem dJ0_length_8abf5_6 : decode cJ0_length_8abf5 6 = .ok (.invokevirtual 335, 3) := by decide +kernel
theorem dJ0_length_8abf5_9 : decode cJ0_length_8abf5 9 = .ok (.ishr, 1) := by decide +kernel
theorem dJ0_length_8abf5_10 : decode cJ0_length_8abf5 10 = .ok (.ireturn, 1) := by decide +kernel
theorem dJ0_isEmpty_aae02_0 : decode cJ0_isEmpty_aae02 0 = .ok (.aload_n 0, 1) := by decide +kernel
theorem dJ0_isEmpty_aae02_1 : decode cJ0_isEmpty_aae02 1 = .ok (.getfield 9, 3) := by decide +kernel
theorem dJ0_isEmpty_aae02_4 : decode cJ0_isEmpty_aae02 4 = .ok (.arraylength, 1) := by decide +kernel
theorem dJ0_isEmpty_aae02_5 : decode cJ0_isEmpty_aae02 5 = .ok (.ifCond .ne 7, 3) := by decide +kernel
theorem dJ0_isEmpty_aae02_8 : decode cJ0_isEmpty_aae02 8 = .ok (.iconst 1, 1) := by decide +kernel
theorem dJ0_isEmpty_aae02_9 : decode cJ0_isEmpty_aae02 9 = .ok (.goto 4, 3) := by decide +kernel
theorem dJ0_isEmpty_aae02_12 : decode cJ0_isEmpty_aae02 12 = .ok (.iconst 0, 1) := by decide +kernel
theorem dJ0_isEmpty_aae02_13 : decode cJ0_isEmpty_aae02 13 = .ok (.ireturn, 1) := by decide +kernel
theorem dJ0_charAt_5068e_0 : decode cJ0_charAt_5068e 0 = .ok (.aload_n 0, 1) := by decide +kernel
theorem dJ0_charAt_5068e_1 : decode cJ0_charAt_5068e 1 = .ok (.invokevirtual 492, 3) := by decide +kernel
theorem dJ0_charAt_5068e_4 : decode cJ0_charAt_5068e 4 = .ok (.ifCond .eq 12, 3) := by decide +kernel
theorem dJ0_charAt_5068e_7 : decode cJ0_charAt_5068e 7 = .ok (.aload_n 0, 1) := by decide +kernel
theorem dJ0_charAt_5068e_8 : decode cJ0_charAt_5068e 8 = .ok (.getfield 9, 3) := by decide +kernel
theorem dJ0_charAt_5068e_11 : decode cJ0_charAt_5068e 11 = .ok (.iload_n 1, 1) := by decide +kernel
theorem dJ0_charAt_5068e_12 : decode cJ0_charAt_5068e 12 = .ok (.invokestatic 495, 3) := by decide +kernel
theorem dJ0_charAt_5068e_15 : decode cJ0_charAt_5068e 15 = .ok (.ireturn, 1) := by decide +kernel
theorem dJ0_charAt_5068e_16 : decode cJ0_charAt_5068e 16 = .ok (.aload_n 0, 1) := by decide +kernel
theorem dJ0_charAt_5068e_17 : decode cJ0_charAt_5068e 17 = .ok (.getfield 9, 3) := by decide +kernel
theorem dJ0_charAt_5068e_20 : decode cJ0_charAt_5068e 20 = .ok (.iload_n 1, 1) := by decide +kernel
theorem dJ0_charAt_5068e_21 : decode cJ0_charAt_5068e 21 = .ok (.invokestatic 498, 3) := by decide +kernel
theorem dJ0_charAt_5068e_24 : decode cJ0_charAt_5068e 24 = .ok (.ireturn, 1) := by decide +kernel
theorem dJ0_coder_7d493_0 : decode cJ0_coder_7d493 0 = .ok (.getstatic 38, 3) := by decide +kernel
theorem dJ0_coder_7d493_3 : decode cJ0_coder_7d493 3 = .ok (.ifCond .eq 10, 3) := by decide +kernel
theorem dJ0_coder_7d493_6 : decode cJ0_coder_7d493 6 = .ok (.aload_n 0, 1) := by decide +kernel
theorem dJ0_coder_7d493_7 : decode cJ0_coder_7d493 7 = .ok (.getfield 15, 3) := by decide +kernel
theorem dJ0_coder_7d493_10 : decode cJ0_coder_7d493 10 = .ok (.goto 4, 3) := by decide +kernel
theorem dJ0_coder_7d493_13 : decode cJ0_coder_7d493 13 = .ok (.iconst 1, 1) := by decide +kernel
theorem dJ0_coder_7d493_14 : decode cJ0_coder_7d493 14 = .ok (.ireturn, 1) := by decide +kernel
theorem dJ0_isLatin1_aae02_0 : decode cJ0_isLatin1_aae02 0 = .ok (.getstatic 38, 3) := by decide +kernel
theorem dJ0_isLatin1_aae02_3 : decode cJ0_isLatin1_aae02 3 = .ok (.ifCond .eq 14, 3) := by decide +kernel
theorem dJ0_isLatin1_aae02_6 : decode cJ0_isLatin1_aae02 6 = .ok (.aload_n 0, 1) := by decide +kernel
theorem dJ0_isLatin1_aae02_7 : decode cJ0_isLatin1_aae02 7 = .ok (.getfield 15, 3) := by decide +kernel
theorem dJ0_isLatin1_aae02_10 : decode cJ0_isLatin1_aae02 10 = .ok (.ifCond .ne 7, 3) := by decide +kernel
theorem dJ0_isLatin1_aae02_13 : decode cJ0_isLatin1_aae02 13 = .ok (.iconst 1, 1) := by decide +kernel
theorem dJ0_isLatin1_aae02_14 : decode cJ0_isLatin1_aae02 14 = .ok (.goto 4, 3) := by decide +kernel
theorem dJ0_isLatin1_aae02_17 : decode cJ0_isLatin1_aae02 17 = .ok (.iconst 0, 1) := by decide +kernel
theorem dJ0_isLatin1_aae02_18 : decode cJ0_isLatin1_aae02 18 = .ok (.ireturn, 1) := by decide +kernel
theorem dJ0_checkIndex_df160_0 : decode cJ0_checkIndex_df160 0 = .ok (.iload_n 0, 1) := by decide +kernel
theorem dJ0_checkIndex_df160_1 : decode cJ0_checkIndex_df160 1 = .ok (.iload_n 1, 1) := by decide +kernel
theorem dJ0_checkIndex_df160_2 : decode cJ0_checkIndex_df160 2 = .ok (.getstatic 1053, 3) := by decide +kernel
theorem dJ0_checkIndex_df160_5 : decode cJ0_checkIndex_df160 5 = .ok (.invokestatic 1059, 3) := by decide +kernel
theorem dJ0_checkIndex_df160_8 : decode cJ0_checkIndex_df160 8 = .ok (.pop, 1) := by decide +kernel
theorem dJ0_checkIndex_df160_9 : decode cJ0_checkIndex_df160 9 = .ok (.return_, 1) := by decide +kernel
theorem dJ1_charAt_3b067_0 : decode cJ1_charAt_3b067 0 = .ok (.iload_n 1, 1) := by decide +kernel
theorem dJ1_charAt_3b067_1 : decode cJ1_charAt_3b067 1 = .ok (.aload_n 0, 1) := by decide +kernel
theorem dJ1_charAt_3b067_2 : decode cJ1_charAt_3b067 2 = .ok (.arraylength, 1) := by decide +kernel
theorem dJ1_charAt_3b067_3 : decode cJ1_charAt_3b067 3 = .ok (.invokestatic 9, 3) := by decide +kernel
theorem dJ1_charAt_3b067_6 : decode cJ1_charAt_3b067 6 = .ok (.aload_n 0, 1) := by decide +kernel
theorem dJ1_charAt_3b067_7 : decode cJ1_charAt_3b067 7 = .ok (.iload_n 1, 1) := by decide +kernel
theorem dJ1_charAt_3b067_8 : decode cJ1_charAt_3b067 8 = .ok (.baload, 1) := by decide +kernel
theorem dJ1_charAt_3b067_9 : decode cJ1_charAt_3b067 9 = .ok (.sipush 255, 3) := by decide +kernel
theorem dJ1_charAt_3b067_12 : decode cJ1_charAt_3b067 12 = .ok (.iand, 1) := by decide +kernel
theorem dJ1_charAt_3b067_13 : decode cJ1_charAt_3b067 13 = .ok (.i2c, 1) := by decide +kernel
theorem dJ1_charAt_3b067_14 : decode cJ1_charAt_3b067 14 = .ok (.ireturn, 1) := by decide +kernel
theorem dJ3_checkIndex_8e157_0 : decode cJ3_checkIndex_8e157 0 = .ok (.iload_n 0, 1) := by decide +kernel
theorem dJ3_checkIndex_8e157_1 : decode cJ3_checkIndex_8e157 1 = .ok (.ifCond .lt 8, 3) := by decide +kernel
theorem dJ3_checkIndex_8e157_4 : decode cJ3_checkIndex_8e157 4 = .ok (.iload_n 0, 1) := by decide +kernel
theorem dJ3_checkIndex_8e157_5 : decode cJ3_checkIndex_8e157 5 = .ok (.iload_n 1, 1) := by decide +kernel
theorem dJ3_checkIndex_8e157_6 : decode cJ3_checkIndex_8e157 6 = .ok (.if_icmp .lt 10, 3) := by decide +kernel
theorem dJ3_checkIndex_8e157_9 : decode cJ3_checkIndex_8e157 9 = .ok (.aload_n 2, 1) := by decide +kernel
theorem dJ3_checkIndex_8e157_10 : decode cJ3_checkIndex_8e157 10 = .ok (.iload_n 0, 1) := by decide +kernel
theorem dJ3_checkIndex_8e157_11 : decode cJ3_checkIndex_8e157 11 = .ok (.iload_n 1, 1) := by decide +kernel
theorem dJ3_checkIndex_8e157_12 : decode cJ3_checkIndex_8e157 12 = .ok (.invokestatic 95, 3) := by decide +kernel
theorem dJ3_checkIndex_8e157_15 : decode cJ3_checkIndex_8e157 15 = .ok (.athrow, 1) := by decide +kernel
theorem dJ3_checkIndex_8e157_16 : decode cJ3_checkIndex_8e157 16 = .ok (.iload_n 0, 1) := by decide +kernel
theorem dJ3_checkIndex_8e157_17 : decode cJ3_checkIndex_8e157 17 = .ok (.ireturn, 1) := by decide +kernel
def fk_v (g : fkG) (q : Nat) : Value := .ref (g.2.2.2.2.2 q)
theorem q_cs {w : fkW} {g : fkG} {k : fkK} {ρ : Type} {en : ρ → Option Value} {cc : ByteArray} {nL fr lo pc : Nat} {ret : Option FieldType} {lv : List (Nat × Value)} {stk : List Value} {st : fkS} {F : Option (ρ × fkS)} (hk : fk_ok w g k RJ0 cc nL ret fr lo) (hdg : decode cc pc = .ok (.getstatic 38, 3))
    (kk : fk_J w g en k (pc + 3) lv (.int 1 :: stk) st F) : fk_J w g en k pc lv stk st F := by
  intro o ho hq
  have kk := kk o ho hq
  obtain ⟨p, l, e, R, s, m, args, below, meth, c, rv, sf⟩ := k
  obtain ⟨hx, hb, hml, hown, hts, hK, hE, hr, hlk, hinj, hfr, hlo⟩ := hk
  intro H locs ls hl hP hS
  exact va_gets hx hb hE.2.2.2.2.2.2.2.1 hS hown (hts _ qf_cs) (fun _ h => h) hdg (kk H locs ls hl hP hS)
theorem q_fmt {w : fkW} {g : fkG} {k : fkK} {ρ : Type} {en : ρ → Option Value} {cc : ByteArray} {nL fr lo pc : Nat} {ret : Option FieldType} {lv : List (Nat × Value)} {stk : List Value} {st : fkS} {F : Option (ρ × fkS)} (hk : fk_ok w g k RJ0 cc nL ret fr lo) (hdg : decode cc pc = .ok (.getstatic 1053, 3))
    (kk : ∀ v : Value, (v = .null ∨ ∃ a, v = .ref a) → fk_J w g en k (pc + 3) lv (v :: stk) st F) : fk_J w g en k pc lv stk st F := by
  intro o ho hq
  have kk := fun v hv => kk v hv o ho hq
  obtain ⟨p, l, e, R, s, m, args, below, meth, c, rv, sf⟩ := k
  obtain ⟨hx, hb, hml, hown, hts, hK, hE, hr, hlk, hinj, hfr, hlo⟩ := hk
  intro H locs ls hl hP hS
  rcases hE.2.2.2.2.2.2.2.2 with hZ | ⟨t, hZ⟩
  · exact va_gets hx hb hZ hS hown (hts _ qf_fmt) (fun _ h => h) hdg (kk _ (Or.inl rfl) H locs ls hl hP hS)
  · exact va_gets hx hb hZ hS hown (hts _ qf_fmt) (fun _ h => h) hdg (kk _ (Or.inr ⟨t, rfl⟩) H locs ls hl hP hS)
theorem q_val {w : fkW} {g : fkG} {k : fkK} {ρ : Type} {en : ρ → Option Value} {cc : ByteArray} {nL fr lo pc : Nat} {ret : Option FieldType} {lv : List (Nat × Value)} {stk : List Value} {st : fkS} {F : Option (ρ × fkS)} (hk : fk_ok w g k RJ0 cc nL ret fr lo) {q : Nat} (hq7 : q < 7) (hdg : decode cc pc = .ok (.getfield 9, 3))
    (kk : fk_J w g en k (pc + 3) lv (fk_v g q :: stk) st F) : fk_J w g en k pc lv (fk_q g q :: stk) st F := by
  intro o ho hq
  have kk := kk o ho hq
  obtain ⟨p, l, e, R, s, m, args, below, meth, c, rv, sf⟩ := k
  obtain ⟨hx, hb, hml, hown, hts, hK, hE, hr, hlk, hinj, hfr, hlo⟩ := hk
  intro H locs ls hl hP hS
  exact vk_getf hx hb (hE.2.2.2.2.2.1.1 q hq7).2.2.1 hS hown (hts _ qf_val) (fun _ h => h) hdg (kk H locs ls hl hP hS)
theorem q_cod {w : fkW} {g : fkG} {k : fkK} {ρ : Type} {en : ρ → Option Value} {cc : ByteArray} {nL fr lo pc : Nat} {ret : Option FieldType} {lv : List (Nat × Value)} {stk : List Value} {st : fkS} {F : Option (ρ × fkS)} (hk : fk_ok w g k RJ0 cc nL ret fr lo) {q : Nat} (hq7 : q < 7) (hdg : decode cc pc = .ok (.getfield 15, 3))
    (kk : fk_J w g en k (pc + 3) lv (.int 0 :: stk) st F) : fk_J w g en k pc lv (fk_q g q :: stk) st F := by
  intro o ho hq
  have kk := kk o ho hq
  obtain ⟨p, l, e, R, s, m, args, below, meth, c, rv, sf⟩ := k
  obtain ⟨hx, hb, hml, hown, hts, hK, hE, hr, hlk, hinj, hfr, hlo⟩ := hk
  intro H locs ls hl hP hS
  exact vk_getf hx hb (hE.2.2.2.2.2.1.1 q hq7).2.1 hS hown (hts _ qf_cod) (fun _ h => h) hdg (kk H locs ls hl hP hS)
theorem q_len {w : fkW} {g : fkG} {k : fkK} {ρ : Type} {en : ρ → Option Value} {own : String} {cc : ByteArray} {nL fr lo pc : Nat} {ret : Option FieldType} {lv : List (Nat × Value)} {stk : List Value} {st : fkS} {F : Option (ρ × fkS)} (hk : fk_ok w g k own cc nL ret fr lo) {q : Nat} (hq7 : q < 7) (hdg : decode cc pc = .ok (.arraylength, 1))
    (kk : fk_J w g en k (pc + 1) lv (.int (Int32.ofNat (fk_len.getD q 0)) :: stk) st F) : fk_J w g en k pc lv (fk_v g q :: stk) st F := by
  intro o ho hq
  have kk := kk o ho hq
  obtain ⟨p, l, e, R, s, m, args, below, meth, c, rv, sf⟩ := k
  obtain ⟨hx, hb, hml, hown, hts, hK, hE, hr, hlk, hinj, hfr, hlo⟩ := hk
  intro H locs ls hl hP hS
  exact va_tlen hx hb (hE.2.2.2.2.2.1.1 q hq7).2.2.2 hS rfl hdg (kk H locs ls hl hP hS)
theorem q_bload {w : fkW} {g : fkG} {k : fkK} {ρ : Type} {en : ρ → Option Value} {own : String} {cc : ByteArray} {nL fr lo pc : Nat} {ret : Option FieldType} {lv : List (Nat × Value)} {stk : List Value} {st : fkS} {F : Option (ρ × fkS)} (hk : fk_ok w g k own cc nL ret fr lo) {q : Nat} {j : Int32} (hq7 : q < 7) (hin : fk_in j (fk_len.getD q 0) = true) (hdg : decode cc pc = .ok (.baload, 1))
    (kk : fk_J w g en k (pc + 1) lv (.int ((fk_byt.getD q []).getD j.toNatClampNeg 0) :: stk) st F) : fk_J w g en k pc lv (.int j :: fk_v g q :: stk) st F := by
  intro o ho hq
  have kk := kk o ho hq
  obtain ⟨p, l, e, R, s, m, args, below, meth, c, rv, sf⟩ := k
  obtain ⟨hx, hb, hml, hown, hts, hK, hE, hr, hlk, hinj, hfr, hlo⟩ := hk
  intro H locs ls hl hP hS
  exact va_tb hx hb (hE.2.2.2.2.2.1.1 q hq7).2.2.2 hS (fk_in_vp hin) rfl hdg (kk H locs ls hl hP hS)
theorem q_i2c {w : fkW} {g : fkG} {k : fkK} {ρ : Type} {en : ρ → Option Value} {own : String} {cc : ByteArray} {nL fr lo pc : Nat} {ret : Option FieldType} {lv : List (Nat × Value)} {stk : List Value} {st : fkS} {F : Option (ρ × fkS)} (hk : fk_ok w g k own cc nL ret fr lo) {x : Int32} (hdg : decode cc pc = .ok (.i2c, 1))
    (kk : fk_J w g en k (pc + 1) lv (.int (x.toUInt32 % 65536).toInt32 :: stk) st F) : fk_J w g en k pc lv (.int x :: stk) st F := by
  intro o ho hq
  have kk := kk o ho hq
  obtain ⟨p, l, e, R, s, m, args, below, meth, c, rv, sf⟩ := k
  obtain ⟨hx, hb, hml, hown, hts, hK, hE, hr, hlk, hinj, hfr, hlo⟩ := hk
  intro H locs ls hl hP hS
  exact lv_i2c hx hb hdg rfl (kk H locs ls hl hP hS)
theorem q_call {w : fkW} {g : fkG} {k : fkK} {ρ : Type} {en : ρ → Option Value} {own : String} {cc : ByteArray} {nL fr lo pc : Nat} {ret : Option FieldType} {lv : List (Nat × Value)} {stk : List Value} {st : fkS} (hk : fk_ok w g k own cc nL ret fr lo) {ix n a fr1 lo1 q : Nat} {y : MethodName} {b : ByteArray} {ret1 : Option FieldType} {f : Option (Int32 × fkS)} {F1 : Int32 → fkS → Option (ρ × fkS)} (As stk1 : List Value) (hstk : stk = As.reverse ++ fk_q g q :: stk1) (hC : ∀ (l : Launch) (o : Int32 × fkS), f = some o → fk_C w y b n ret1 fr1 lo1 l g (fk_q g q :: As) st (fk_eI o.1) o.2)
    (hq7 : q < 7) (hyc : y.cls = "java/lang/String") (hY : fk_yV y b n ret1 a) (hlink : Cond.methodLink own ix y ∈ fkB) (hlen : As.length = a) (hcat : (stk1.map fun v => v.category).sum ≤ 8) (hfr1 : fr1 + 1 ≤ fr) (hlo1 : 8 + (n + 11) + lo1 ≤ lo) (hdg : decode cc pc = .ok (.invokevirtual ix, 3))
    (kk : ∀ (r : Int32) (st1 : fkS), fk_J w g en k (pc + 3) lv (.int r :: stk1) st1 (F1 r st1)) : fk_J w g en k pc lv stk st (fk_bind f F1) := by
  intro o ho hq
  subst hstk
  obtain ⟨r, st1, hf, ho⟩ := fk_bind_of ho
  have kk := kk r st1 o ho hq
  obtain ⟨p, l, e, R, s, m, args, below, meth, c, rv, sf⟩ := k
  obtain ⟨hx, hb, hml, hown, hts, hK, hE, hr, hlk, hinj, hfr, hlo⟩ := hk
  intro H locs ls hl hP hS
  have hM := hC l (r, st1) hf hinj H.size
  have hrecv : ∃ cellB : Cell, H[g.2.2.2.2.1 q]? = some cellB ∧ cellB.vm.isStatics = false ∧ s.vm.findClass y.cls = some cellB.cls := by
    rw [hyc]
    exact vk_recv hE.2.2.2.2.2.1 hq7 hS
  exact fk_after (va_runV (b := g.2.2.2.2.1 q) (As := As) (rest := stk1) ⟨hx, hb, hml, hown, hts⟩ hM (⟨callB_of a hts (fkB_good hY.2.2.1) rfl rfl rfl (hts _ hY.2.1) (hts _ hlink) hY.2.2.2 ⟨Nat.le_trans hfr1 hfr, Nat.le_trans hlo1 hlo⟩, hts _ hY.1.1, hts _ hY.1.2⟩) ⟨fk_blind, hrecv, fun U hU hW => fk_pre hK hE hP hS hU hW⟩ rfl hlen (hl.1.trans hml) rfl (lv_room hcat) hdg ⟨Nat.zero_le _, Nat.zero_le _⟩) hS
    (fun q h1 h2 => fk_A_up hS.1 q h2) (fk_A_up hS.1) (fun H1 locs1 hP1 hS1 => kk H1 locs1 ls hl hP1 hS1)
def FS_coder (st : fkS) : Option (Int32 × fkS) := if (1 : Int32) = 0 then none else some (0, st)
def FS_lat (st : fkS) : Option (Int32 × fkS) := if (1 : Int32) = 0 then none else if (0 : Int32) = 0 then some (1, st) else none
def FS_len (q : Nat) (st : fkS) : Option (Int32 × fkS) := fk_bind (FS_coder st) fun x st1 => some (Int32.ofNat (fk_len.getD q 0) >>> (x &&& 31), st1)
def FS_empty (q : Nat) (st : fkS) : Option (Int32 × fkS) := if Int32.ofNat (fk_len.getD q 0) = 0 then some (1, st) else some (0, st)
def FS_pc (i n : Int32) (st : fkS) : Option (Int32 × fkS) := if i < 0 then none else if i < n then some (i, st) else none
def FS_ck (i n : Int32) (st : fkS) : Option (Unit × fkS) := fk_bind (FS_pc i n st) fun _ st1 => some ((), st1)
def FS_l1 (q : Nat) (i : Int32) (st : fkS) : Option (Int32 × fkS) := fk_bind (FS_ck i (Int32.ofNat (fk_len.getD q 0)) st) fun _ st1 => fk_chk (fk_in i (fk_len.getD q 0)) (some (((((fk_byt.getD q []).getD i.toNatClampNeg 0) &&& 255).toUInt32 % 65536).toInt32, st1))
def FS_char (q : Nat) (i : Int32) (st : fkS) : Option (Int32 × fkS) := fk_bind (FS_lat st) fun x st1 => if x = 0 then none else fk_bind (FS_l1 q i st1) fun y st2 => fk_chk (decide ((y.toUInt32 % 65536).toInt32 = y)) (some (y, st2))
set_option maxRecDepth 20000 in
theorem CS_coder {w : fkW} (q : Nat) (hq7 : q < 7) (st : fkS) {g : fkG} (l : Launch) (o : Int32 × fkS) (hF : FS_coder st = some o) : fk_C w yJ0_coder_7d493 cJ0_coder_7d493 1 (some .byte) 0 0 l g [fk_q g q] st (fk_eI o.1) o.2 := by
  refine fk_begin rfl (Nat.le_of_ble_eq_true rfl) (fun k hk => ?_) o hF
  have hk : fk_ok w g k RJ0 cJ0_coder_7d493 1 (some .byte) 0 0 := hk
  show fk_J w g fk_eI k 0 [(0, fk_q g q)] [] st (FS_coder st)
  unfold FS_coder
  refine q_cs (pc := 0) hk dJ0_coder_7d493_0 ?_
  refine j_if_eq (pc := 3) (tgt := 13) hk (by decide) dJ0_coder_7d493_3 (fun h => absurd h (by decide)) (fun _ => ?_)
  refine j_aload_n (pc := 6) hk 0 rfl ⟨_, rfl⟩ dJ0_coder_7d493_6 ?_
  refine q_cod (pc := 7) hk hq7 dJ0_coder_7d493_7 ?_
  refine j_goto (pc := 10) (tgt := 14) hk (by decide) dJ0_coder_7d493_10 ?_
  exact j_zret (pc := 14) hk rfl dJ0_coder_7d493_14
set_option maxRecDepth 20000 in
theorem CS_lat {w : fkW} (q : Nat) (hq7 : q < 7) (st : fkS) {g : fkG} (l : Launch) (o : Int32 × fkS) (hF : FS_lat st = some o) : fk_C w yJ0_isLatin1_aae02 cJ0_isLatin1_aae02 1 (some .boolean) 0 0 l g [fk_q g q] st (fk_eI o.1) o.2 := by
  refine fk_begin rfl (Nat.le_of_ble_eq_true rfl) (fun k hk => ?_) o hF
  have hk : fk_ok w g k RJ0 cJ0_isLatin1_aae02 1 (some .boolean) 0 0 := hk
  show fk_J w g fk_eI k 0 [(0, fk_q g q)] [] st (FS_lat st)
  unfold FS_lat
  refine q_cs (pc := 0) hk dJ0_isLatin1_aae02_0 ?_
  refine j_if_eq (pc := 3) (tgt := 17) hk (by decide) dJ0_isLatin1_aae02_3 (fun h => absurd h (by decide)) (fun _ => ?_)
  refine j_aload_n (pc := 6) hk 0 rfl ⟨_, rfl⟩ dJ0_isLatin1_aae02_6 ?_
  refine q_cod (pc := 7) hk hq7 dJ0_isLatin1_aae02_7 ?_
  refine j_if_ne (pc := 10) (tgt := 17) hk (by decide) dJ0_isLatin1_aae02_10 (fun _ => ?_) (fun h => absurd rfl h)
  refine j_iconst (pc := 13) hk dJ0_isLatin1_aae02_13 (v := 1) (by decide) ?_
  refine j_goto (pc := 14) (tgt := 18) hk (by decide) dJ0_isLatin1_aae02_14 ?_
  exact j_zret (pc := 18) hk rfl dJ0_isLatin1_aae02_18
set_option maxRecDepth 20000 in
theorem CS_len {w : fkW} (q : Nat) (hq7 : q < 7) (st : fkS) {g : fkG} (l : Launch) (o : Int32 × fkS) (hF : FS_len q st = some o) : fk_C w yJ0_length_8abf5 cJ0_length_8abf5 1 (some .int) 1 30 l g [fk_q g q] st (fk_eI o.1) o.2 := by
  refine fk_begin rfl (Nat.le_of_ble_eq_true rfl) (fun k hk => ?_) o hF
  have hk : fk_ok w g k RJ0 cJ0_length_8abf5 1 (some .int) 1 30 := hk
  show fk_J w g fk_eI k 0 [(0, fk_q g q)] [] st (FS_len q st)
  unfold FS_len
  refine j_aload_n (pc := 0) hk 0 rfl ⟨_, rfl⟩ dJ0_length_8abf5_0 ?_
  refine q_val (pc := 1) hk hq7 dJ0_length_8abf5_1 ?_
  refine q_len (pc := 4) hk hq7 dJ0_length_8abf5_4 ?_
  refine j_aload_n (pc := 5) hk 0 rfl ⟨_, rfl⟩ dJ0_length_8abf5_5 ?_
  refine q_call (pc := 6) hk [] [.int (Int32.ofNat (fk_len.getD q 0))] rfl (fun l o h => CS_coder q hq7 st l o h) hq7 rfl qy_coder ql_coder rfl (Nat.le_of_ble_eq_true rfl) (Nat.le_of_ble_eq_true rfl) (Nat.le_of_ble_eq_true rfl) dJ0_length_8abf5_6 (fun x st1 => ?_)
  refine j_ishr (pc := 9) hk dJ0_length_8abf5_9 ?_
  exact j_iret (pc := 10) hk dJ0_length_8abf5_10
set_option maxRecDepth 20000 in
theorem CS_empty {w : fkW} (q : Nat) (hq7 : q < 7) (st : fkS) {g : fkG} (l : Launch) (o : Int32 × fkS) (hF : FS_empty q st = some o) : fk_C w yJ0_isEmpty_aae02 cJ0_isEmpty_aae02 1 (some .boolean) 0 0 l g [fk_q g q] st (fk_eI o.1) o.2 := by
  refine fk_begin rfl (Nat.le_of_ble_eq_true rfl) (fun k hk => ?_) o hF
  have hk : fk_ok w g k RJ0 cJ0_isEmpty_aae02 1 (some .boolean) 0 0 := hk
  show fk_J w g fk_eI k 0 [(0, fk_q g q)] [] st (FS_empty q st)
  unfold FS_empty
  refine j_aload_n (pc := 0) hk 0 rfl ⟨_, rfl⟩ dJ0_isEmpty_aae02_0 ?_
  refine q_val (pc := 1) hk hq7 dJ0_isEmpty_aae02_1 ?_
  refine q_len (pc := 4) hk hq7 dJ0_isEmpty_aae02_4 ?_
  refine j_if_ne (pc := 5) (tgt := 12) hk (by decide) dJ0_isEmpty_aae02_5 (fun _ => ?_) (fun _ => ?_)
  · refine j_iconst (pc := 8) hk dJ0_isEmpty_aae02_8 (v := 1) (by decide) ?_
    refine j_goto (pc := 9) (tgt := 13) hk (by decide) dJ0_isEmpty_aae02_9 ?_
    exact j_zret (pc := 13) hk rfl dJ0_isEmpty_aae02_13
  · refine j_iconst (pc := 12) hk dJ0_isEmpty_aae02_12 (v := 0) (by decide) ?_
    exact j_zret (pc := 13) hk rfl dJ0_isEmpty_aae02_13
set_option maxRecDepth 20000 in
theorem CS_pcn {w : fkW} (i n : Int32) (st : fkS) {g : fkG} (l : Launch) (o : Int32 × fkS) (hF : FS_pc i n st = some o) : fk_C w yJ3_checkIndex_8e157 cJ3_checkIndex_8e157 3 (some .int) 0 0 l g [.int i, .int n, .null] st (fk_eI o.1) o.2 := by
  refine fk_begin rfl (Nat.le_of_ble_eq_true rfl) (fun k hk => ?_) o hF
  have hk : fk_ok w g k RJ3 cJ3_checkIndex_8e157 3 (some .int) 0 0 := hk
  show fk_J w g fk_eI k 0 [(0, .int i), (1, .int n), (2, .null)] [] st (FS_pc i n st)
  unfold FS_pc
  refine j_iload_n (pc := 0) hk 0 rfl dJ3_checkIndex_8e157_0 ?_
  refine j_if_lt (pc := 1) (tgt := 9) hk (by decide) dJ3_checkIndex_8e157_1 (fun _ => j_none hk) (fun _ => ?_)
  refine j_iload_n (pc := 4) hk 0 rfl dJ3_checkIndex_8e157_4 ?_
  refine j_iload_n (pc := 5) hk 1 rfl dJ3_checkIndex_8e157_5 ?_
  refine j_icmp_lt (pc := 6) (tgt := 16) hk (by decide) dJ3_checkIndex_8e157_6 (fun _ => ?_) (fun _ => j_none hk)
  refine j_iload_n (pc := 16) hk 0 rfl dJ3_checkIndex_8e157_16 ?_
  exact j_iret (pc := 17) hk dJ3_checkIndex_8e157_17
set_option maxRecDepth 20000 in
theorem CS_pcr {w : fkW} (z : Nat) (i n : Int32) (st : fkS) {g : fkG} (l : Launch) (o : Int32 × fkS) (hF : FS_pc i n st = some o) : fk_C w yJ3_checkIndex_8e157 cJ3_checkIndex_8e157 3 (some .int) 0 0 l g [.int i, .int n, .ref z] st (fk_eI o.1) o.2 := by
  refine fk_begin rfl (Nat.le_of_ble_eq_true rfl) (fun k hk => ?_) o hF
  have hk : fk_ok w g k RJ3 cJ3_checkIndex_8e157 3 (some .int) 0 0 := hk
  show fk_J w g fk_eI k 0 [(0, .int i), (1, .int n), (2, .ref z)] [] st (FS_pc i n st)
  unfold FS_pc
  refine j_iload_n (pc := 0) hk 0 rfl dJ3_checkIndex_8e157_0 ?_
  refine j_if_lt (pc := 1) (tgt := 9) hk (by decide) dJ3_checkIndex_8e157_1 (fun _ => j_none hk) (fun _ => ?_)
  refine j_iload_n (pc := 4) hk 0 rfl dJ3_checkIndex_8e157_4 ?_
  refine j_iload_n (pc := 5) hk 1 rfl dJ3_checkIndex_8e157_5 ?_
  refine j_icmp_lt (pc := 6) (tgt := 16) hk (by decide) dJ3_checkIndex_8e157_6 (fun _ => ?_) (fun _ => j_none hk)
  refine j_iload_n (pc := 16) hk 0 rfl dJ3_checkIndex_8e157_16 ?_
  exact j_iret (pc := 17) hk dJ3_checkIndex_8e157_17
set_option maxRecDepth 20000 in
theorem CS_ck {w : fkW} (i n : Int32) (st : fkS) {g : fkG} (l : Launch) (o : Unit × fkS) (hF : FS_ck i n st = some o) : fk_C w yJ0_checkIndex_df160 cJ0_checkIndex_df160 2 none 1 30 l g [.int i, .int n] st (fk_eU o.1) o.2 := by
  refine fk_begin rfl (Nat.le_of_ble_eq_true rfl) (fun k hk => ?_) o hF
  have hk : fk_ok w g k RJ0 cJ0_checkIndex_df160 2 none 1 30 := hk
  show fk_J w g fk_eU k 0 [(0, .int i), (1, .int n)] [] st (FS_ck i n st)
  unfold FS_ck
  refine j_iload_n (pc := 0) hk 0 rfl dJ0_checkIndex_df160_0 ?_
  refine j_iload_n (pc := 1) hk 1 rfl dJ0_checkIndex_df160_1 ?_
  refine q_fmt (pc := 2) hk dJ0_checkIndex_df160_2 (fun v hv => ?_)
  rcases hv with rfl | ⟨z, rfl⟩
  · refine j_callSi (pc := 5) hk [.int i, .int n, .null] [] rfl (fun l o h => CS_pcn i n st l o h) qy_pc ql_pc rfl (Nat.le_of_ble_eq_true rfl) (Nat.le_of_ble_eq_true rfl) (Nat.le_of_ble_eq_true rfl) dJ0_checkIndex_df160_5 (fun x st1 => ?_)
    refine j_pop (pc := 8) hk rfl dJ0_checkIndex_df160_8 ?_
    exact j_vret (pc := 9) hk dJ0_checkIndex_df160_9
  · refine j_callSi (pc := 5) hk [.int i, .int n, .ref z] [] rfl (fun l o h => CS_pcr z i n st l o h) qy_pc ql_pc rfl (Nat.le_of_ble_eq_true rfl) (Nat.le_of_ble_eq_true rfl) (Nat.le_of_ble_eq_true rfl) dJ0_checkIndex_df160_5 (fun x st1 => ?_)
    refine j_pop (pc := 8) hk rfl dJ0_checkIndex_df160_8 ?_
    exact j_vret (pc := 9) hk dJ0_checkIndex_df160_9
set_option maxRecDepth 20000 in
theorem CS_l1 {w : fkW} (q : Nat) (hq7 : q < 7) (i : Int32) (st : fkS) {g : fkG} (l : Launch) (o : Int32 × fkS) (hF : FS_l1 q i st = some o) : fk_C w yJ1_charAt_3b067 cJ1_charAt_3b067 2 (some .char) 2 60 l g [fk_v g q, .int i] st (fk_eI o.1) o.2 := by
  refine fk_begin rfl (Nat.le_of_ble_eq_true rfl) (fun k hk => ?_) o hF
  have hk : fk_ok w g k RJ1 cJ1_charAt_3b067 2 (some .char) 2 60 := hk
  show fk_J w g fk_eI k 0 [(0, fk_v g q), (1, .int i)] [] st (FS_l1 q i st)
  unfold FS_l1
  refine j_iload_n (pc := 0) hk 1 rfl dJ1_charAt_3b067_0 ?_
  refine j_aload_n (pc := 1) hk 0 rfl ⟨_, rfl⟩ dJ1_charAt_3b067_1 ?_
  refine q_len (pc := 2) hk hq7 dJ1_charAt_3b067_2 ?_
  refine j_callSv (pc := 3) hk [.int i, .int (Int32.ofNat (fk_len.getD q 0))] [] rfl (fun l o h => CS_ck i _ st l o h) qy_ck ql_ck rfl (Nat.le_of_ble_eq_true rfl) (Nat.le_of_ble_eq_true rfl) (Nat.le_of_ble_eq_true rfl) dJ1_charAt_3b067_3 (fun x st1 => ?_)
  refine j_chk (pc := 6) hk (fun hin => ?_)
  refine j_aload_n (pc := 6) hk 0 rfl ⟨_, rfl⟩ dJ1_charAt_3b067_6 ?_
  refine j_iload_n (pc := 7) hk 1 rfl dJ1_charAt_3b067_7 ?_
  refine q_bload (pc := 8) hk hq7 hin dJ1_charAt_3b067_8 ?_
  refine j_sipush (pc := 9) hk dJ1_charAt_3b067_9 (v := 255) (by decide) ?_
  refine j_iand (pc := 12) hk dJ1_charAt_3b067_12 ?_
  refine q_i2c (pc := 13) hk dJ1_charAt_3b067_13 ?_
  exact j_zret (pc := 14) hk (pk_nc _) dJ1_charAt_3b067_14
set_option maxRecDepth 20000 in
theorem CS_char {w : fkW} (q : Nat) (hq7 : q < 7) (i : Int32) (st : fkS) {g : fkG} (l : Launch) (o : Int32 × fkS) (hF : FS_char q i st = some o) : fk_C w yJ0_charAt_5068e cJ0_charAt_5068e 2 (some .char) 3 90 l g [fk_q g q, .int i] st (fk_eI o.1) o.2 := by
  refine fk_begin rfl (Nat.le_of_ble_eq_true rfl) (fun k hk => ?_) o hF
  have hk : fk_ok w g k RJ0 cJ0_charAt_5068e 2 (some .char) 3 90 := hk
  show fk_J w g fk_eI k 0 [(0, fk_q g q), (1, .int i)] [] st (FS_char q i st)
  unfold FS_char
  refine j_aload_n (pc := 0) hk 0 rfl ⟨_, rfl⟩ dJ0_charAt_5068e_0 ?_
  refine q_call (pc := 1) hk [] [] rfl (fun l o h => CS_lat q hq7 st l o h) hq7 rfl qy_isLatin1 ql_lat rfl (Nat.le_of_ble_eq_true rfl) (Nat.le_of_ble_eq_true rfl) (Nat.le_of_ble_eq_true rfl) dJ0_charAt_5068e_1 (fun x st1 => ?_)
  refine j_if_eq (pc := 4) (tgt := 16) hk (by decide) dJ0_charAt_5068e_4 (fun _ => j_none hk) (fun _ => ?_)
  refine j_aload_n (pc := 7) hk 0 rfl ⟨_, rfl⟩ dJ0_charAt_5068e_7 ?_
  refine q_val (pc := 8) hk hq7 dJ0_charAt_5068e_8 ?_
  refine j_iload_n (pc := 11) hk 1 rfl dJ0_charAt_5068e_11 ?_
  refine j_callSi (pc := 12) hk [fk_v g q, .int i] [] rfl (fun l o h => CS_l1 q hq7 i st1 l o h) qy_l1 ql_l1 rfl (Nat.le_of_ble_eq_true rfl) (Nat.le_of_ble_eq_true rfl) (Nat.le_of_ble_eq_true rfl) dJ0_charAt_5068e_12 (fun y st2 => ?_)
  refine j_chk (pc := 15) hk (fun hy => ?_)
  exact j_zret (pc := 15) hk (by rw [← of_decide_eq_true hy]; exact pk_nc _) dJ0_charAt_5068e_15
theorem j_slen {w : fkW} {g : fkG} {k : fkK} {ρ : Type} {en : ρ → Option Value} {own : String} {cc : ByteArray} {nL fr lo pc : Nat} {ret : Option FieldType} {lv : List (Nat × Value)} {stk1 : List Value} {st : fkS} (hk : fk_ok w g k own cc nL ret fr lo) {ix q : Nat} {F1 : Int32 → fkS → Option (ρ × fkS)} (hq7 : q < 7) (hlink : Cond.methodLink own ix yJ0_length_8abf5 ∈ fkB) (hcat : (stk1.map fun v => v.category).sum ≤ 8) (hfr1 : 7 ≤ fr) (hlo1 : 200 ≤ lo) (hdg : decode cc pc = .ok (.invokevirtual ix, 3))
    (kk : ∀ (r : Int32) (st1 : fkS), fk_J w g en k (pc + 3) lv (.int r :: stk1) st1 (F1 r st1)) : fk_J w g en k pc lv (fk_q g q :: stk1) st (fk_bind (FS_len q st) F1) :=
  q_call hk [] stk1 rfl (fun l o h => CS_len q hq7 st l o h) hq7 rfl qy_length hlink rfl hcat (by omega) (by omega) hdg kk
theorem j_sempty {w : fkW} {g : fkG} {k : fkK} {ρ : Type} {en : ρ → Option Value} {own : String} {cc : ByteArray} {nL fr lo pc : Nat} {ret : Option FieldType} {lv : List (Nat × Value)} {stk1 : List Value} {st : fkS} (hk : fk_ok w g k own cc nL ret fr lo) {ix q : Nat} {F1 : Int32 → fkS → Option (ρ × fkS)} (hq7 : q < 7) (hlink : Cond.methodLink own ix yJ0_isEmpty_aae02 ∈ fkB) (hcat : (stk1.map fun v => v.category).sum ≤ 8) (hfr1 : 7 ≤ fr) (hlo1 : 200 ≤ lo) (hdg : decode cc pc = .ok (.invokevirtual ix, 3))
    (kk : ∀ (r : Int32) (st1 : fkS), fk_J w g en k (pc + 3) lv (.int r :: stk1) st1 (F1 r st1)) : fk_J w g en k pc lv (fk_q g q :: stk1) st (fk_bind (FS_empty q st) F1) :=
  q_call hk [] stk1 rfl (fun l o h => CS_empty q hq7 st l o h) hq7 rfl qy_isEmpty hlink rfl hcat (by omega) (by omega) hdg kk
theorem j_schar {w : fkW} {g : fkG} {k : fkK} {ρ : Type} {en : ρ → Option Value} {own : String} {cc : ByteArray} {nL fr lo pc : Nat} {ret : Option FieldType} {lv : List (Nat × Value)} {stk1 : List Value} {st : fkS} (hk : fk_ok w g k own cc nL ret fr lo) {ix q : Nat} {i : Int32} {F1 : Int32 → fkS → Option (ρ × fkS)} (hq7 : q < 7) (hlink : Cond.methodLink own ix yJ0_charAt_5068e ∈ fkB) (hcat : (stk1.map fun v => v.category).sum ≤ 8) (hfr1 : 7 ≤ fr) (hlo1 : 200 ≤ lo) (hdg : decode cc pc = .ok (.invokevirtual ix, 3))
    (kk : ∀ (r : Int32) (st1 : fkS), fk_J w g en k (pc + 3) lv (.int r :: stk1) st1 (F1 r st1)) : fk_J w g en k pc lv (.int i :: fk_q g q :: stk1) st (fk_bind (FS_char q i st) F1) :=
  q_call hk [.int i] stk1 rfl (fun l o h => CS_char q hq7 i st l o h) hq7 rfl qy_charAt hlink rfl hcat (by omega) (by omega) hdg kk
