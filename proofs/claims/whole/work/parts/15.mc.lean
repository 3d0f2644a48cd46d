theorem dX7_chance_0 : decode cX7_chance 0 = .ok (.aload_n 0, 1) := by decide +kernel
theorem dX7_chance_1 : decode cX7_chance 1 = .ok (.iload_n 1, 1) := by decide +kernel
theorem dX7_chance_2 : decode cX7_chance 2 = .ok (.invokevirtual 75, 3) := by decide +kernel
theorem dX7_chance_5 : decode cX7_chance 5 = .ok (.ifCond .ne 14, 3) := by decide +kernel
theorem dX7_chance_8 : decode cX7_chance 8 = .ok (.aload_n 0, 1) := by decide +kernel
theorem dX7_chance_9 : decode cX7_chance 9 = .ok (.getfield 18, 3) := by decide +kernel
theorem dX7_chance_12 : decode cX7_chance 12 = .ok (.iload_n 2, 1) := by decide +kernel
theorem dX7_chance_13 : decode cX7_chance 13 = .ok (.invokevirtual 126, 3) := by decide +kernel
theorem dX7_chance_16 : decode cX7_chance 16 = .ok (.ifCond .eq 9, 3) := by decide +kernel
theorem dX7_chance_19 : decode cX7_chance 19 = .ok (.aload_n 0, 1) := by decide +kernel
theorem dX7_chance_20 : decode cX7_chance 20 = .ok (.iconst (-1), 1) := by decide +kernel
theorem dX7_chance_21 : decode cX7_chance 21 = .ok (.invokevirtual 79, 3) := by decide +kernel
theorem dX7_chance_24 : decode cX7_chance 24 = .ok (.ireturn, 1) := by decide +kernel
theorem dX7_chance_25 : decode cX7_chance 25 = .ok (.aload_n 0, 1) := by decide +kernel
theorem dX7_chance_26 : decode cX7_chance 26 = .ok (.iload_n 1, 1) := by decide +kernel
theorem dX7_chance_27 : decode cX7_chance 27 = .ok (.invokevirtual 87, 3) := by decide +kernel
theorem dX7_chance_30 : decode cX7_chance 30 = .ok (.istore 5, 2) := by decide +kernel
theorem dX7_chance_32 : decode cX7_chance 32 = .ok (.iload 5, 2) := by decide +kernel
theorem dX7_chance_34 : decode cX7_chance 34 = .ok (.ifCond .eq 10, 3) := by decide +kernel
theorem dX7_chance_37 : decode cX7_chance 37 = .ok (.aload_n 0, 1) := by decide +kernel
theorem dX7_chance_38 : decode cX7_chance 38 = .ok (.iload 5, 2) := by decide +kernel
theorem dX7_chance_40 : decode cX7_chance 40 = .ok (.invokevirtual 79, 3) := by decide +kernel
theorem dX7_chance_43 : decode cX7_chance 43 = .ok (.ireturn, 1) := by decide +kernel
theorem dX7_chance_44 : decode cX7_chance 44 = .ok (.iload 4, 2) := by decide +kernel
theorem dX7_chance_46 : decode cX7_chance 46 = .ok (.ifCond .eq 16, 3) := by decide +kernel
theorem dX7_chance_49 : decode cX7_chance 49 = .ok (.iload 4, 2) := by decide +kernel
theorem dX7_chance_51 : decode cX7_chance 51 = .ok (.iconst 1, 1) := by decide +kernel
theorem dX7_chance_52 : decode cX7_chance 52 = .ok (.if_icmp .eq 10, 3) := by decide +kernel
theorem dX7_chance_55 : decode cX7_chance 55 = .ok (.aload_n 0, 1) := by decide +kernel
theorem dX7_chance_56 : decode cX7_chance 56 = .ok (.bipush (-5), 2) := by decide +kernel
theorem dX7_chance_58 : decode cX7_chance 58 = .ok (.invokevirtual 79, 3) := by decide +kernel
theorem dX7_chance_61 : decode cX7_chance 61 = .ok (.ireturn, 1) := by decide +kernel
theorem dX7_chance_62 : decode cX7_chance 62 = .ok (.aload_n 0, 1) := by decide +kernel
theorem dX7_chance_63 : decode cX7_chance 63 = .ok (.getfield 49, 3) := by decide +kernel
theorem dX7_chance_66 : decode cX7_chance 66 = .ok (.aload_n 0, 1) := by decide +kernel
theorem dX7_chance_67 : decode cX7_chance 67 = .ok (.getfield 11, 3) := by decide +kernel
theorem dX7_chance_70 : decode cX7_chance 70 = .ok (.iload_n 1, 1) := by decide +kernel
theorem dX7_chance_71 : decode cX7_chance 71 = .ok (.aaload, 1) := by decide +kernel
theorem dX7_chance_72 : decode cX7_chance 72 = .ok (.iconst (-1), 1) := by decide +kernel
theorem dX7_chance_73 : decode cX7_chance 73 = .ok (.invokevirtual 234, 3) := by decide +kernel
theorem dX7_chance_76 : decode cX7_chance 76 = .ok (.ifCond .eq 14, 3) := by decide +kernel
theorem dX7_chance_79 : decode cX7_chance 79 = .ok (.aload_n 0, 1) := by decide +kernel
theorem dX7_chance_80 : decode cX7_chance 80 = .ok (.getfield 49, 3) := by decide +kernel
theorem dX7_chance_83 : decode cX7_chance 83 = .ok (.invokevirtual 257, 3) := by decide +kernel
theorem dX7_chance_86 : decode cX7_chance 86 = .ok (.iconst 3, 1) := by decide +kernel
theorem dX7_chance_87 : decode cX7_chance 87 = .ok (.if_icmp .le 10, 3) := by decide +kernel
theorem dX7_chance_90 : decode cX7_chance 90 = .ok (.aload_n 0, 1) := by decide +kernel
theorem dX7_chance_91 : decode cX7_chance 91 = .ok (.bipush (-6), 2) := by decide +kernel
theorem dX7_chance_93 : decode cX7_chance 93 = .ok (.invokevirtual 79, 3) := by decide +kernel
theorem dX7_chance_96 : decode cX7_chance 96 = .ok (.ireturn, 1) := by decide +kernel
theorem dX7_chance_97 : decode cX7_chance 97 = .ok (.iload 4, 2) := by decide +kernel
theorem dX7_chance_99 : decode cX7_chance 99 = .ok (.ifCond .ne 20, 3) := by decide +kernel
theorem dX7_chance_102 : decode cX7_chance 102 = .ok (.iload_n 3, 1) := by decide +kernel
theorem dX7_chance_103 : decode cX7_chance 103 = .ok (.ifCond .lt 9, 3) := by decide +kernel
theorem dX7_chance_106 : decode cX7_chance 106 = .ok (.iload_n 3, 1) := by decide +kernel
theorem dX7_chance_107 : decode cX7_chance 107 = .ok (.bipush 8, 2) := by decide +kernel
theorem dX7_chance_109 : decode cX7_chance 109 = .ok (.if_icmp .lt 10, 3) := by decide +kernel
theorem dX7_chance_112 : decode cX7_chance 112 = .ok (.aload_n 0, 1) := by decide +kernel
theorem dX7_chance_113 : decode cX7_chance 113 = .ok (.bipush (-6), 2) := by decide +kernel
theorem dX7_chance_115 : decode cX7_chance 115 = .ok (.invokevirtual 79, 3) := by decide +kernel
theorem dX7_chance_118 : decode cX7_chance 118 = .ok (.ireturn, 1) := by decide +kernel
theorem dX7_chance_119 : decode cX7_chance 119 = .ok (.iconst 1, 1) := by decide +kernel
theorem dX7_chance_120 : decode cX7_chance 120 = .ok (.aload_n 0, 1) := by decide +kernel
theorem dX7_chance_121 : decode cX7_chance 121 = .ok (.getfield 49, 3) := by decide +kernel
theorem dX7_chance_124 : decode cX7_chance 124 = .ok (.invokevirtual 257, 3) := by decide +kernel
theorem dX7_chance_127 : decode cX7_chance 127 = .ok (.invokestatic 247, 3) := by decide +kernel
theorem dX7_chance_130 : decode cX7_chance 130 = .ok (.invokestatic 261, 3) := by decide +kernel
theorem dX7_chance_133 : decode cX7_chance 133 = .ok (.istore 6, 2) := by decide +kernel
theorem dX7_chance_135 : decode cX7_chance 135 = .ok (.iconst 0, 1) := by decide +kernel
theorem dX7_chance_136 : decode cX7_chance 136 = .ok (.istore 7, 2) := by decide +kernel
theorem dX7_chance_138 : decode cX7_chance 138 = .ok (.aload_n 0, 1) := by decide +kernel
theorem dX7_chance_139 : decode cX7_chance 139 = .ok (.getfield 56, 3) := by decide +kernel
theorem dX7_chance_142 : decode cX7_chance 142 = .ok (.aload_n 0, 1) := by decide +kernel
theorem dX7_chance_143 : decode cX7_chance 143 = .ok (.getfield 18, 3) := by decide +kernel
theorem dX7_chance_146 : decode cX7_chance 146 = .ok (.iload_n 2, 1) := by decide +kernel
theorem dX7_chance_147 : decode cX7_chance 147 = .ok (.invokevirtual 148, 3) := by decide +kernel
theorem dX7_chance_150 : decode cX7_chance 150 = .ok (.iconst 0, 1) := by decide +kernel
theorem dX7_chance_151 : decode cX7_chance 151 = .ok (.istore 8, 2) := by decide +kernel
theorem dX7_chance_153 : decode cX7_chance 153 = .ok (.iload 8, 2) := by decide +kernel
theorem dX7_chance_155 : decode cX7_chance 155 = .ok (.iload 6, 2) := by decide +kernel
theorem dX7_chance_157 : decode cX7_chance 157 = .ok (.if_icmp .ge 94, 3) := by decide +kernel
theorem dX7_chance_160 : decode cX7_chance 160 = .ok (.aload_n 0, 1) := by decide +kernel
theorem dX7_chance_161 : decode cX7_chance 161 = .ok (.getfield 49, 3) := by decide +kernel
theorem dX7_chance_164 : decode cX7_chance 164 = .ok (.aload_n 0, 1) := by decide +kernel
theorem dX7_chance_165 : decode cX7_chance 165 = .ok (.getfield 11, 3) := by decide +kernel
theorem dX7_chance_168 : decode cX7_chance 168 = .ok (.iload_n 1, 1) := by decide +kernel
theorem dX7_chance_169 : decode cX7_chance 169 = .ok (.aaload, 1) := by decide +kernel
theorem dX7_chance_170 : decode cX7_chance 170 = .ok (.iconst (-1), 1) := by decide +kernel
theorem dX7_chance_171 : decode cX7_chance 171 = .ok (.invokevirtual 234, 3) := by decide +kernel
theorem dX7_chance_174 : decode cX7_chance 174 = .ok (.pop, 1) := by decide +kernel
theorem dX7_chance_175 : decode cX7_chance 175 = .ok (.aload_n 0, 1) := by decide +kernel
theorem dX7_chance_176 : decode cX7_chance 176 = .ok (.getfield 49, 3) := by decide +kernel
theorem dX7_chance_179 : decode cX7_chance 179 = .ok (.iload 8, 2) := by decide +kernel
theorem dX7_chance_181 : decode cX7_chance 181 = .ok (.invokevirtual 266, 3) := by decide +kernel
theorem dX7_chance_184 : decode cX7_chance 184 = .ok (.aload_n 0, 1) := by decide +kernel
theorem dX7_chance_185 : decode cX7_chance 185 = .ok (.getfield 56, 3) := by decide +kernel
theorem dX7_chance_188 : decode cX7_chance 188 = .ok (.aload_n 0, 1) := by decide +kernel
theorem dX7_chance_189 : decode cX7_chance 189 = .ok (.getfield 49, 3) := by decide +kernel
theorem dX7_chance_192 : decode cX7_chance 192 = .ok (.invokevirtual 158, 3) := by decide +kernel
theorem dX7_chance_195 : decode cX7_chance 195 = .ok (.iload 4, 2) := by decide +kernel
theorem dX7_chance_197 : decode cX7_chance 197 = .ok (.iconst 1, 1) := by decide +kernel
theorem dX7_chance_198 : decode cX7_chance 198 = .ok (.if_icmp .ne 22, 3) := by decide +kernel
theorem dX7_chance_201 : decode cX7_chance 201 = .ok (.iload 7, 2) := by decide +kernel
theorem dX7_chance_203 : decode cX7_chance 203 = .ok (.aload_n 0, 1) := by decide +kernel
theorem dX7_chance_204 : decode cX7_chance 204 = .ok (.getfield 18, 3) := by decide +kernel
theorem dX7_chance_207 : decode cX7_chance 207 = .ok (.aload_n 0, 1) := by decide +kernel
theorem dX7_chance_208 : decode cX7_chance 208 = .ok (.getfield 56, 3) := by decide +kernel
theorem dX7_chance_211 : decode cX7_chance 211 = .ok (.invokevirtual 221, 3) := by decide +kernel
theorem dX7_chance_214 : decode cX7_chance 214 = .ok (.iadd, 1) := by decide +kernel
theorem dX7_chance_215 : decode cX7_chance 215 = .ok (.istore 7, 2) := by decide +kernel
theorem dX7_chance_217 : decode cX7_chance 217 = .ok (.goto 28, 3) := by decide +kernel
theorem dX7_chance_220 : decode cX7_chance 220 = .ok (.aload_n 0, 1) := by decide +kernel
theorem dX7_chance_221 : decode cX7_chance 221 = .ok (.getfield 18, 3) := by decide +kernel
theorem dX7_chance_224 : decode cX7_chance 224 = .ok (.aload_n 0, 1) := by decide +kernel
theorem dX7_chance_225 : decode cX7_chance 225 = .ok (.getfield 56, 3) := by decide +kernel
theorem dX7_chance_228 : decode cX7_chance 228 = .ok (.aload_n 0, 1) := by decide +kernel
theorem dX7_chance_229 : decode cX7_chance 229 = .ok (.getfield 18, 3) := by decide +kernel
theorem dX7_chance_232 : decode cX7_chance 232 = .ok (.getfield 181, 3) := by decide +kernel
theorem dX7_chance_235 : decode cX7_chance 235 = .ok (.invokevirtual 217, 3) := by decide +kernel
theorem dX7_chance_238 : decode cX7_chance 238 = .ok (.iload_n 3, 1) := by decide +kernel
theorem dX7_chance_239 : decode cX7_chance 239 = .ok (.if_icmp .ne 6, 3) := by decide +kernel
theorem dX7_chance_242 : decode cX7_chance 242 = .ok (.iinc 7 1, 3) := by decide +kernel
theorem dX7_chance_245 : decode cX7_chance 245 = .ok (.iinc 8 1, 3) := by decide +kernel
theorem dX7_chance_248 : decode cX7_chance 248 = .ok (.goto (-95), 3) := by decide +kernel
theorem dX7_chance_251 : decode cX7_chance 251 = .ok (.iload 4, 2) := by decide +kernel
theorem dX7_chance_253 : decode cX7_chance 253 = .ok (.ifCond .ne 15, 3) := by decide +kernel
theorem dX7_chance_256 : decode cX7_chance 256 = .ok (.iload 7, 2) := by decide +kernel
theorem dX7_chance_258 : decode cX7_chance 258 = .ok (.ldc_w 269, 3) := by decide +kernel
theorem dX7_chance_261 : decode cX7_chance 261 = .ok (.iload 6, 2) := by decide +kernel
theorem dX7_chance_263 : decode cX7_chance 263 = .ok (.idiv, 1) := by decide +kernel
theorem dX7_chance_264 : decode cX7_chance 264 = .ok (.imul, 1) := by decide +kernel
theorem dX7_chance_265 : decode cX7_chance 265 = .ok (.goto 12, 3) := by decide +kernel
theorem dX7_chance_268 : decode cX7_chance 268 = .ok (.iload 7, 2) := by decide +kernel
theorem dX7_chance_270 : decode cX7_chance 270 = .ok (.sipush 1000, 3) := by decide +kernel
theorem dX7_chance_273 : decode cX7_chance 273 = .ok (.imul, 1) := by decide +kernel
theorem dX7_chance_274 : decode cX7_chance 274 = .ok (.iload 6, 2) := by decide +kernel
theorem dX7_chance_276 : decode cX7_chance 276 = .ok (.idiv, 1) := by decide +kernel
theorem dX7_chance_277 : decode cX7_chance 277 = .ok (.ireturn, 1) := by decide +kernel
def B7_chance_19 (st : fkS) : Option (Int32 × fkS) :=
 fk_bind (F7_refuse (-1 : Int32) st) <| fun x16 st17 =>
 some (x16, st17)
set_option maxHeartbeats 1000000 in
set_option maxRecDepth 20000 in
theorem T7_chance_19 {g : fkG} {k : fkK} (hk : fk_ok wC g k RX7 cX7_chance 9 (some (.int)) 3 143) : ∀ (st : fkS), fk_J wC g fk_eI k 19 [(0, fk_r g 0)] [] st (B7_chance_19 st) := by
  intro st
  unfold B7_chance_19
  refine j_aload_n (pc := 19) hk 0 rfl ⟨_, rfl⟩ dX7_chance_19 ?_
  refine j_iconst (pc := 20) hk dX7_chance_20 (v := -1) (by decide) ?_
  refine j_callVi (pc := 21) hk [.int (-1 : Int32)] [] rfl (fun l o hq9 => C7_refuse (-1 : Int32) st l o hq9) (rcv_7 (rfl)) yv_X7_refuse ml_7_79 rfl (Nat.le_of_ble_eq_true rfl) (Nat.le_of_ble_eq_true rfl) (Nat.le_of_ble_eq_true rfl) dX7_chance_21 (fun x16 st17 => ?_)
  exact j_iret (pc := 24) hk dX7_chance_24
def B7_chance_112 (st : fkS) : Option (Int32 × fkS) :=
 fk_bind (F7_refuse (-6 : Int32) st) <| fun x20 st21 =>
 some (x20, st21)
set_option maxHeartbeats 1000000 in
set_option maxRecDepth 20000 in
theorem T7_chance_112 {g : fkG} {k : fkK} (hk : fk_ok wC g k RX7 cX7_chance 9 (some (.int)) 3 143) : ∀ (st : fkS), fk_J wC g fk_eI k 112 [(0, fk_r g 0)] [] st (B7_chance_112 st) := by
  intro st
  unfold B7_chance_112
  refine j_aload_n (pc := 112) hk 0 rfl ⟨_, rfl⟩ dX7_chance_112 ?_
  refine j_bipush (pc := 113) hk dX7_chance_113 (v := -6) (by decide) ?_
  refine j_callVi (pc := 115) hk [.int (-6 : Int32)] [] rfl (fun l o hq9 => C7_refuse (-6 : Int32) st l o hq9) (rcv_7 (rfl)) yv_X7_refuse ml_7_79 rfl (Nat.le_of_ble_eq_true rfl) (Nat.le_of_ble_eq_true rfl) (Nat.le_of_ble_eq_true rfl) dX7_chance_115 (fun x20 st21 => ?_)
  exact j_iret (pc := 118) hk dX7_chance_118
def B7_chance_245 (k153 : Int32 → Int32 → Int32 → Int32 → Int32 → Int32 → fkS → Option (Int32 × fkS)) (v1 : Int32) (v3 : Int32) (v4 : Int32) (v6 : Int32) (v7 : Int32) (v8 : Int32) (st : fkS) : Option (Int32 × fkS) :=
 k153 v1 v3 v4 v6 v7 (v8 + (1 : Int32)) st
set_option maxHeartbeats 1000000 in
set_option maxRecDepth 20000 in
theorem T7_chance_245 {g : fkG} {k : fkK} (hk : fk_ok wC g k RX7 cX7_chance 9 (some (.int)) 3 143) (k153 : Int32 → Int32 → Int32 → Int32 → Int32 → Int32 → fkS → Option (Int32 × fkS)) (H153 : ∀ (v1 : Int32) (v3 : Int32) (v4 : Int32) (v6 : Int32) (v7 : Int32) (v8 : Int32) (st : fkS), fk_J wC g fk_eI k 153 [(0, fk_r g 0), (1, .int v1), (3, .int v3), (4, .int v4), (6, .int v6), (7, .int v7), (8, .int v8)] [] st (k153 v1 v3 v4 v6 v7 v8 st)) : ∀ (v1 : Int32) (v3 : Int32) (v4 : Int32) (v6 : Int32) (v7 : Int32) (v8 : Int32) (st : fkS), fk_J wC g fk_eI k 245 [(0, fk_r g 0), (1, .int v1), (3, .int v3), (4, .int v4), (6, .int v6), (7, .int v7), (8, .int v8)] [] st (B7_chance_245 k153 v1 v3 v4 v6 v7 v8 st) := by
  intro v1 v3 v4 v6 v7 v8 st
  unfold B7_chance_245
  refine j_iinc (dd := (1 : Int32)) (lv' := ((8, .int (v8 + (1 : Int32))) :: [(0, fk_r g 0), (1, .int v1), (3, .int v3), (4, .int v4), (6, .int v6), (7, .int v7)])) (pc := 245) hk 6 rfl (by decide) (by decide) rfl dX7_chance_245 ?_
  refine j_sub hk (lv' := [(0, fk_r g 0), (1, .int v1), (3, .int v3), (4, .int v4), (6, .int v6), (7, .int v7), (8, .int (v8 + (1 : Int32)))]) [1, 2, 3, 4, 5, 6, 0] rfl ?_
  refine j_goto (tgt := 153) (pc := 248) hk (by decide) dX7_chance_248 ?_
  exact j_sub hk [0, 1, 2, 3, 4, 5, 6] rfl (H153 v1 v3 v4 v6 v7 (v8 + (1 : Int32)) st)
def B7_chance_153 (k153 : Int32 → Int32 → Int32 → Int32 → Int32 → Int32 → fkS → Option (Int32 × fkS)) (v1 : Int32) (v3 : Int32) (v4 : Int32) (v6 : Int32) (v7 : Int32) (v8 : Int32) (st : fkS) : Option (Int32 × fkS) :=
 if v6 ≤ v8 then
 (if v4 = 0 then
 (fk_chk (fk_nz v6) <|
 some ((v7 * ((1000000 : Int32) / v6)), st))
 else
 (fk_chk (fk_nz v6) <|
 some (((v7 * (1000 : Int32)) / v6), st)))
 else
 (fk_chk (fk_in v1 8) <|
 fk_bind (F3_take (3 + v1.toNatClampNeg) (-1 : Int32) st) <| fun x30 st31 =>
 fk_bind (F3_fillUnknowns v8 st31) <| fun _ st32 =>
 fk_bind (F6_speak 40 st32) <| fun _ st33 =>
 if v4 = (1 : Int32) then
 (fk_bind (F0_illsOf 19 40 st33) <| fun x34 st35 =>
 B7_chance_245 k153 v1 v3 v4 v6 (v7 + x34) v8 st35)
 else
 (fk_let (gI st33 6 19) <| fun x36 =>
 fk_bind (F0_endOf 19 40 x36 st33) <| fun x37 st38 =>
 if x37 = v3 then
 (B7_chance_245 k153 v1 v3 v4 v6 (v7 + (1 : Int32)) v8 st38)
 else
 (B7_chance_245 k153 v1 v3 v4 v6 v7 v8 st38)))
set_option maxHeartbeats 1000000 in
set_option maxRecDepth 20000 in
theorem T7_chance_153 {g : fkG} {k : fkK} (hk : fk_ok wC g k RX7 cX7_chance 9 (some (.int)) 3 143) (k153 : Int32 → Int32 → Int32 → Int32 → Int32 → Int32 → fkS → Option (Int32 × fkS)) (H153 : ∀ (v1 : Int32) (v3 : Int32) (v4 : Int32) (v6 : Int32) (v7 : Int32) (v8 : Int32) (st : fkS), fk_J wC g fk_eI k 153 [(0, fk_r g 0), (1, .int v1), (3, .int v3), (4, .int v4), (6, .int v6), (7, .int v7), (8, .int v8)] [] st (k153 v1 v3 v4 v6 v7 v8 st)) : ∀ (v1 : Int32) (v3 : Int32) (v4 : Int32) (v6 : Int32) (v7 : Int32) (v8 : Int32) (st : fkS), fk_J wC g fk_eI k 153 [(0, fk_r g 0), (1, .int v1), (3, .int v3), (4, .int v4), (6, .int v6), (7, .int v7), (8, .int v8)] [] st (B7_chance_153 k153 v1 v3 v4 v6 v7 v8 st) := by
  intro v1 v3 v4 v6 v7 v8 st
  unfold B7_chance_153
  refine j_iload (pc := 153) hk 6 rfl dX7_chance_153 ?_
  refine j_iload (pc := 155) hk 4 rfl dX7_chance_155 ?_
  refine j_icmp_ge (tgt := 251) (pc := 157) hk (by decide) dX7_chance_157 (fun _ => ?_) (fun _ => ?_)
  · refine j_iload (pc := 251) hk 3 rfl dX7_chance_251 ?_
    refine j_if_ne (tgt := 268) (pc := 253) hk (by decide) dX7_chance_253 (fun _ => ?_) (fun _ => ?_)
    · refine j_iload (pc := 256) hk 5 rfl dX7_chance_256 ?_
      refine j_ldcw (pc := 258) hk dX7_chance_258 wk_7_269 ?_
      refine j_iload (pc := 261) hk 4 rfl dX7_chance_261 ?_
      refine j_chk (pc := 263) hk (fun hz27 => ?_)
      refine j_idiv (pc := 263) hk hz27 dX7_chance_263 ?_
      refine j_imul (pc := 264) hk dX7_chance_264 ?_
      refine j_goto (tgt := 277) (pc := 265) hk (by decide) dX7_chance_265 ?_
      exact j_iret (pc := 277) hk dX7_chance_277
    · refine j_iload (pc := 268) hk 5 rfl dX7_chance_268 ?_
      refine j_sipush (pc := 270) hk dX7_chance_270 (v := 1000) (by decide) ?_
      refine j_imul (pc := 273) hk dX7_chance_273 ?_
      refine j_iload (pc := 274) hk 4 rfl dX7_chance_274 ?_
      refine j_chk (pc := 276) hk (fun hz28 => ?_)
      refine j_idiv (pc := 276) hk hz28 dX7_chance_276 ?_
      exact j_iret (pc := 277) hk dX7_chance_277
  · refine j_aload_n (pc := 160) hk 0 rfl ⟨_, rfl⟩ dX7_chance_160 ?_
    refine f_7_49 (pc := 161) hk (rfl) dX7_chance_161 ?_
    refine j_aload_n (pc := 164) hk 0 rfl ⟨_, rfl⟩ dX7_chance_164 ?_
    refine f_7_11 (pc := 165) hk (rfl) dX7_chance_165 ?_
    refine j_iload_n (pc := 168) hk 1 rfl dX7_chance_168 ?_
    refine a_shelf (pc := 169) hk dX7_chance_169 (fun hs29 => ?_)
    refine j_iconst (pc := 170) hk dX7_chance_170 (v := -1) (by decide) ?_
    refine j_callVNi (pc := 171) hk [fk_r g (3 + v1.toNatClampNeg), .int (-1 : Int32)] [] rfl (fun l o hq9 => C3_take (3 + v1.toNatClampNeg) (hs29) (-1 : Int32) st l o hq9) (rcv_3 (rfl)) yv_X3_take ml_7_234 rfl (Nat.le_of_ble_eq_true rfl) (Nat.le_of_ble_eq_true rfl) (Nat.le_of_ble_eq_true rfl) dX7_chance_171 (fun x30 st31 => ?_)
    refine j_pop (pc := 174) hk rfl dX7_chance_174 ?_
    refine j_aload_n (pc := 175) hk 0 rfl ⟨_, rfl⟩ dX7_chance_175 ?_
    refine f_7_49 (pc := 176) hk (rfl) dX7_chance_176 ?_
    refine j_iload (pc := 179) hk 6 rfl dX7_chance_179 ?_
    refine j_callVNv (pc := 181) hk [.int v8] [] rfl (fun l o hq9 => C3_fillUnknowns v8 st31 l o hq9) (rcv_3 (rfl)) yv_X3_fillUnknowns ml_7_266 rfl (Nat.le_of_ble_eq_true rfl) (Nat.le_of_ble_eq_true rfl) (Nat.le_of_ble_eq_true rfl) dX7_chance_181 (fun _ st32 => ?_)
    refine j_aload_n (pc := 184) hk 0 rfl ⟨_, rfl⟩ dX7_chance_184 ?_
    refine f_7_56 (pc := 185) hk (rfl) dX7_chance_185 ?_
    refine j_aload_n (pc := 188) hk 0 rfl ⟨_, rfl⟩ dX7_chance_188 ?_
    refine f_7_49 (pc := 189) hk (rfl) dX7_chance_189 ?_
    refine j_callVNv (pc := 192) hk [fk_r g 38] [] rfl (fun l o hq9 => C6_speak 40 (rfl) st32 l o hq9) (rcv_6 (rfl)) yv_X6_speak ml_7_158 rfl (Nat.le_of_ble_eq_true rfl) (Nat.le_of_ble_eq_true rfl) (Nat.le_of_ble_eq_true rfl) dX7_chance_192 (fun _ st33 => ?_)
    refine j_iload (pc := 195) hk 3 rfl dX7_chance_195 ?_
    refine j_iconst (pc := 197) hk dX7_chance_197 (v := 1) (by decide) ?_
    refine j_icmp_ne (tgt := 220) (pc := 198) hk (by decide) dX7_chance_198 (fun _ => ?_) (fun _ => ?_)
    · refine j_iload (pc := 201) hk 5 rfl dX7_chance_201 ?_
      refine j_aload_n (pc := 203) hk 0 rfl ⟨_, rfl⟩ dX7_chance_203 ?_
      refine f_7_18 (pc := 204) hk (rfl) dX7_chance_204 ?_
      refine j_aload_n (pc := 207) hk 0 rfl ⟨_, rfl⟩ dX7_chance_207 ?_
      refine f_7_56 (pc := 208) hk (rfl) dX7_chance_208 ?_
      refine j_callVNi (pc := 211) hk [fk_r g 40] [.int v7] rfl (fun l o hq9 => C0_illsOf 19 40 (rfl) (rfl) st33 l o hq9) (rcv_0 (rfl)) yv_X0_illsOf ml_7_221 rfl (Nat.le_of_ble_eq_true rfl) (Nat.le_of_ble_eq_true rfl) (Nat.le_of_ble_eq_true rfl) dX7_chance_211 (fun x34 st35 => ?_)
      refine j_iadd (pc := 214) hk dX7_chance_214 ?_
      refine j_istore (lv' := ((7, .int (v7 + x34)) :: [(0, fk_r g 0), (1, .int v1), (3, .int v3), (4, .int v4), (6, .int v6), (8, .int v8)])) (pc := 215) hk (by decide) rfl dX7_chance_215 ?_
      refine j_sub hk (lv' := [(0, fk_r g 0), (1, .int v1), (3, .int v3), (4, .int v4), (6, .int v6), (7, .int (v7 + x34)), (8, .int v8)]) [1, 2, 3, 4, 5, 0, 6] rfl ?_
      refine j_goto (tgt := 245) (pc := 217) hk (by decide) dX7_chance_217 ?_
      exact j_sub hk [0, 1, 2, 3, 4, 5, 6] rfl (T7_chance_245 hk k153 H153 v1 v3 v4 v6 (v7 + x34) v8 st35)
    · refine j_aload_n (pc := 220) hk 0 rfl ⟨_, rfl⟩ dX7_chance_220 ?_
      refine f_7_18 (pc := 221) hk (rfl) dX7_chance_221 ?_
      refine j_aload_n (pc := 224) hk 0 rfl ⟨_, rfl⟩ dX7_chance_224 ?_
      refine f_7_56 (pc := 225) hk (rfl) dX7_chance_225 ?_
      refine j_aload_n (pc := 228) hk 0 rfl ⟨_, rfl⟩ dX7_chance_228 ?_
      refine f_7_18 (pc := 229) hk (rfl) dX7_chance_229 ?_
      refine f_7_181 (pc := 232) hk (rfl) dX7_chance_232 (fun x36 => ?_)
      refine j_callVNi (pc := 235) hk [fk_r g 40, .int x36] [] rfl (fun l o hq9 => C0_endOf 19 40 (rfl) (rfl) x36 st33 l o hq9) (rcv_0 (rfl)) yv_X0_endOf ml_7_217 rfl (Nat.le_of_ble_eq_true rfl) (Nat.le_of_ble_eq_true rfl) (Nat.le_of_ble_eq_true rfl) dX7_chance_235 (fun x37 st38 => ?_)
      refine j_iload_n (pc := 238) hk 2 rfl dX7_chance_238 ?_
      refine j_icmp_ne (tgt := 245) (pc := 239) hk (by decide) dX7_chance_239 (fun _ => ?_) (fun _ => ?_)
      · refine j_iinc (dd := (1 : Int32)) (lv' := ((7, .int (v7 + (1 : Int32))) :: [(0, fk_r g 0), (1, .int v1), (3, .int v3), (4, .int v4), (6, .int v6), (8, .int v8)])) (pc := 242) hk 5 rfl (by decide) (by decide) rfl dX7_chance_242 ?_
        refine j_sub hk (lv' := [(0, fk_r g 0), (1, .int v1), (3, .int v3), (4, .int v4), (6, .int v6), (7, .int (v7 + (1 : Int32))), (8, .int v8)]) [1, 2, 3, 4, 5, 0, 6] rfl ?_
        exact j_sub hk [0, 1, 2, 3, 4, 5, 6] rfl (T7_chance_245 hk k153 H153 v1 v3 v4 v6 (v7 + (1 : Int32)) v8 st38)
      · exact j_sub hk [0, 1, 2, 3, 4, 5, 6] rfl (T7_chance_245 hk k153 H153 v1 v3 v4 v6 v7 v8 st38)
set_option maxHeartbeats 1000000 in
set_option maxRecDepth 20000 in
theorem L7_chance_153 {g : fkG} {k : fkK} (hk : fk_ok wC g k RX7 cX7_chance 9 (some (.int)) 3 143) (fu : Nat) : ∀ (v1 : Int32) (v3 : Int32) (v4 : Int32) (v6 : Int32) (v7 : Int32) (v8 : Int32) (st : fkS), fk_J wC g fk_eI k 153 [(0, fk_r g 0), (1, .int v1), (3, .int v3), (4, .int v4), (6, .int v6), (7, .int v7), (8, .int v8)] [] st (fk_lp6 (B7_chance_153) fu v1 v3 v4 v6 v7 v8 st) := by
  induction fu with
  | zero =>
    intro v1 v3 v4 v6 v7 v8 st
    exact j_none hk
  | succ fu ih =>
    exact T7_chance_153 hk _ ih
def B7_chance_119 (v1 : Int32) (v2 : Int32) (v3 : Int32) (v4 : Int32) (st : fkS) : Option (Int32 × fkS) :=
 fk_bind (F3_unknowns st) <| fun x22 st23 =>
 fk_bind (F7_tenTo x22 st23) <| fun x24 st25 =>
 fk_bind (F6_take 40 19 v2 st25) <| fun _ st26 =>
 fk_lp6 (B7_chance_153) fk_fuel v1 v3 v4 (fk_max (1 : Int32) x24) (0 : Int32) (0 : Int32) st26
set_option maxHeartbeats 1000000 in
set_option maxRecDepth 20000 in
theorem T7_chance_119 {g : fkG} {k : fkK} (hk : fk_ok wC g k RX7 cX7_chance 9 (some (.int)) 3 143) : ∀ (v1 : Int32) (v2 : Int32) (v3 : Int32) (v4 : Int32) (st : fkS), fk_J wC g fk_eI k 119 [(0, fk_r g 0), (1, .int v1), (2, .int v2), (3, .int v3), (4, .int v4)] [] st (B7_chance_119 v1 v2 v3 v4 st) := by
  intro v1 v2 v3 v4 st
  unfold B7_chance_119
  refine j_iconst (pc := 119) hk dX7_chance_119 (v := 1) (by decide) ?_
  refine j_aload_n (pc := 120) hk 0 rfl ⟨_, rfl⟩ dX7_chance_120 ?_
  refine f_7_49 (pc := 121) hk (rfl) dX7_chance_121 ?_
  refine j_callVNi (pc := 124) hk [] [.int (1 : Int32)] rfl (fun l o hq9 => C3_unknowns st l o hq9) (rcv_3 (rfl)) yv_X3_unknowns ml_7_257 rfl (Nat.le_of_ble_eq_true rfl) (Nat.le_of_ble_eq_true rfl) (Nat.le_of_ble_eq_true rfl) dX7_chance_124 (fun x22 st23 => ?_)
  refine j_callSi (pc := 127) hk [.int x22] [.int (1 : Int32)] rfl (fun l o hq9 => C7_tenTo x22 st23 l o hq9) yv_X7_tenTo ml_7_247 rfl (Nat.le_of_ble_eq_true rfl) (Nat.le_of_ble_eq_true rfl) (Nat.le_of_ble_eq_true rfl) dX7_chance_127 (fun x24 st25 => ?_)
  refine j_mmax (pc := 130) hk ml_7_261 wd_max1 wd_math wd_max2 (Nat.le_of_ble_eq_true rfl) (Nat.le_of_ble_eq_true rfl) dX7_chance_130 ?_
  refine j_istore (lv' := ((6, .int (fk_max (1 : Int32) x24)) :: [(0, fk_r g 0), (1, .int v1), (2, .int v2), (3, .int v3), (4, .int v4)])) (pc := 133) hk (by decide) rfl dX7_chance_133 ?_
  refine j_sub hk (lv' := [(0, fk_r g 0), (1, .int v1), (2, .int v2), (3, .int v3), (4, .int v4), (6, .int (fk_max (1 : Int32) x24))]) [1, 2, 3, 4, 5, 0] rfl ?_
  refine j_iconst (pc := 135) hk dX7_chance_135 (v := 0) (by decide) ?_
  refine j_istore (lv' := ((7, .int (0 : Int32)) :: [(0, fk_r g 0), (1, .int v1), (2, .int v2), (3, .int v3), (4, .int v4), (6, .int (fk_max (1 : Int32) x24))])) (pc := 136) hk (by decide) rfl dX7_chance_136 ?_
  refine j_sub hk (lv' := [(0, fk_r g 0), (1, .int v1), (2, .int v2), (3, .int v3), (4, .int v4), (6, .int (fk_max (1 : Int32) x24)), (7, .int (0 : Int32))]) [1, 2, 3, 4, 5, 6, 0] rfl ?_
  refine j_aload_n (pc := 138) hk 0 rfl ⟨_, rfl⟩ dX7_chance_138 ?_
  refine f_7_56 (pc := 139) hk (rfl) dX7_chance_139 ?_
  refine j_aload_n (pc := 142) hk 0 rfl ⟨_, rfl⟩ dX7_chance_142 ?_
  refine f_7_18 (pc := 143) hk (rfl) dX7_chance_143 ?_
  refine j_iload_n (pc := 146) hk 2 rfl dX7_chance_146 ?_
  refine j_callVNv (pc := 147) hk [fk_r g 19, .int v2] [] rfl (fun l o hq9 => C6_take 40 19 (rfl) (rfl) v2 st25 l o hq9) (rcv_6 (rfl)) yv_X6_take ml_7_148 rfl (Nat.le_of_ble_eq_true rfl) (Nat.le_of_ble_eq_true rfl) (Nat.le_of_ble_eq_true rfl) dX7_chance_147 (fun _ st26 => ?_)
  refine j_iconst (pc := 150) hk dX7_chance_150 (v := 0) (by decide) ?_
  refine j_istore (lv' := ((8, .int (0 : Int32)) :: [(0, fk_r g 0), (1, .int v1), (2, .int v2), (3, .int v3), (4, .int v4), (6, .int (fk_max (1 : Int32) x24)), (7, .int (0 : Int32))])) (pc := 151) hk (by decide) rfl dX7_chance_151 ?_
  refine j_sub hk (lv' := [(0, fk_r g 0), (1, .int v1), (2, .int v2), (3, .int v3), (4, .int v4), (6, .int (fk_max (1 : Int32) x24)), (7, .int (0 : Int32)), (8, .int (0 : Int32))]) [1, 2, 3, 4, 5, 6, 7, 0] rfl ?_
  exact j_sub hk [0, 1, 3, 4, 5, 6, 7] rfl (L7_chance_153 hk fk_fuel v1 v3 v4 (fk_max (1 : Int32) x24) (0 : Int32) (0 : Int32) st26)
def B7_chance_90 (st : fkS) : Option (Int32 × fkS) :=
 fk_bind (F7_refuse (-6 : Int32) st) <| fun x18 st19 =>
 some (x18, st19)
set_option maxHeartbeats 1000000 in
set_option maxRecDepth 20000 in
theorem T7_chance_90 {g : fkG} {k : fkK} (hk : fk_ok wC g k RX7 cX7_chance 9 (some (.int)) 3 143) : ∀ (st : fkS), fk_J wC g fk_eI k 90 [(0, fk_r g 0)] [] st (B7_chance_90 st) := by
  intro st
  unfold B7_chance_90
  refine j_aload_n (pc := 90) hk 0 rfl ⟨_, rfl⟩ dX7_chance_90 ?_
  refine j_bipush (pc := 91) hk dX7_chance_91 (v := -6) (by decide) ?_
  refine j_callVi (pc := 93) hk [.int (-6 : Int32)] [] rfl (fun l o hq9 => C7_refuse (-6 : Int32) st l o hq9) (rcv_7 (rfl)) yv_X7_refuse ml_7_79 rfl (Nat.le_of_ble_eq_true rfl) (Nat.le_of_ble_eq_true rfl) (Nat.le_of_ble_eq_true rfl) dX7_chance_93 (fun x18 st19 => ?_)
  exact j_iret (pc := 96) hk dX7_chance_96
def B7_chance_62 (v1 : Int32) (v2 : Int32) (v3 : Int32) (v4 : Int32) (st : fkS) : Option (Int32 × fkS) :=
 fk_chk (fk_in v1 8) <|
 fk_bind (F3_take (3 + v1.toNatClampNeg) (-1 : Int32) st) <| fun x12 st13 =>
 if x12 = 0 then
 (B7_chance_90 st13)
 else
 (fk_bind (F3_unknowns st13) <| fun x14 st15 =>
 if x14 ≤ (3 : Int32) then
 (if v4 = 0 then
 (if v3 < 0 then
 (B7_chance_112 st15)
 else
 (if v3 < (8 : Int32) then
 (B7_chance_119 v1 v2 v3 v4 st15)
 else
 (B7_chance_112 st15)))
 else
 (B7_chance_119 v1 v2 v3 v4 st15))
 else
 (B7_chance_90 st15))
set_option maxHeartbeats 1000000 in
set_option maxRecDepth 20000 in
theorem T7_chance_62 {g : fkG} {k : fkK} (hk : fk_ok wC g k RX7 cX7_chance 9 (some (.int)) 3 143) : ∀ (v1 : Int32) (v2 : Int32) (v3 : Int32) (v4 : Int32) (st : fkS), fk_J wC g fk_eI k 62 [(0, fk_r g 0), (1, .int v1), (2, .int v2), (3, .int v3), (4, .int v4)] [] st (B7_chance_62 v1 v2 v3 v4 st) := by
  intro v1 v2 v3 v4 st
  unfold B7_chance_62
  refine j_aload_n (pc := 62) hk 0 rfl ⟨_, rfl⟩ dX7_chance_62 ?_
  refine f_7_49 (pc := 63) hk (rfl) dX7_chance_63 ?_
  refine j_aload_n (pc := 66) hk 0 rfl ⟨_, rfl⟩ dX7_chance_66 ?_
  refine f_7_11 (pc := 67) hk (rfl) dX7_chance_67 ?_
  refine j_iload_n (pc := 70) hk 1 rfl dX7_chance_70 ?_
  refine a_shelf (pc := 71) hk dX7_chance_71 (fun hs11 => ?_)
  refine j_iconst (pc := 72) hk dX7_chance_72 (v := -1) (by decide) ?_
  refine j_callVNi (pc := 73) hk [fk_r g (3 + v1.toNatClampNeg), .int (-1 : Int32)] [] rfl (fun l o hq9 => C3_take (3 + v1.toNatClampNeg) (hs11) (-1 : Int32) st l o hq9) (rcv_3 (rfl)) yv_X3_take ml_7_234 rfl (Nat.le_of_ble_eq_true rfl) (Nat.le_of_ble_eq_true rfl) (Nat.le_of_ble_eq_true rfl) dX7_chance_73 (fun x12 st13 => ?_)
  refine j_if_eq (tgt := 90) (pc := 76) hk (by decide) dX7_chance_76 (fun _ => ?_) (fun _ => ?_)
  · exact j_sub hk [0] rfl (T7_chance_90 hk st13)
  · refine j_aload_n (pc := 79) hk 0 rfl ⟨_, rfl⟩ dX7_chance_79 ?_
    refine f_7_49 (pc := 80) hk (rfl) dX7_chance_80 ?_
    refine j_callVNi (pc := 83) hk [] [] rfl (fun l o hq9 => C3_unknowns st13 l o hq9) (rcv_3 (rfl)) yv_X3_unknowns ml_7_257 rfl (Nat.le_of_ble_eq_true rfl) (Nat.le_of_ble_eq_true rfl) (Nat.le_of_ble_eq_true rfl) dX7_chance_83 (fun x14 st15 => ?_)
    refine j_iconst (pc := 86) hk dX7_chance_86 (v := 3) (by decide) ?_
    refine j_icmp_le (tgt := 97) (pc := 87) hk (by decide) dX7_chance_87 (fun _ => ?_) (fun _ => ?_)
    · refine j_iload (pc := 97) hk 4 rfl dX7_chance_97 ?_
      refine j_if_ne (tgt := 119) (pc := 99) hk (by decide) dX7_chance_99 (fun _ => ?_) (fun _ => ?_)
      · refine j_iload_n (pc := 102) hk 3 rfl dX7_chance_102 ?_
        refine j_if_lt (tgt := 112) (pc := 103) hk (by decide) dX7_chance_103 (fun _ => ?_) (fun _ => ?_)
        · exact j_sub hk [0] rfl (T7_chance_112 hk st15)
        · refine j_iload_n (pc := 106) hk 3 rfl dX7_chance_106 ?_
          refine j_bipush (pc := 107) hk dX7_chance_107 (v := 8) (by decide) ?_
          refine j_icmp_lt (tgt := 119) (pc := 109) hk (by decide) dX7_chance_109 (fun _ => ?_) (fun _ => ?_)
          · exact j_sub hk [0, 1, 2, 3, 4] rfl (T7_chance_119 hk v1 v2 v3 v4 st15)
          · exact j_sub hk [0] rfl (T7_chance_112 hk st15)
      · exact j_sub hk [0, 1, 2, 3, 4] rfl (T7_chance_119 hk v1 v2 v3 v4 st15)
    · exact j_sub hk [0] rfl (T7_chance_90 hk st15)
def F7_chance (p1 : Int32) (p2 : Int32) (p3 : Int32) (p4 : Int32) (st : fkS) : Option (Int32 × fkS) :=
 fk_bind (F7_noShelf p1 st) <| fun x1 st2 =>
 if x1 = 0 then
 (fk_bind (F0_lacks 19 p2 st2) <| fun x3 st4 =>
 if x3 = 0 then
 (fk_bind (F7_noRow p1 st4) <| fun x5 st6 =>
 if x5 = 0 then
 (if p4 = 0 then
 (B7_chance_62 p1 p2 p3 p4 st6)
 else
 (if p4 = (1 : Int32) then
 (B7_chance_62 p1 p2 p3 p4 st6)
 else
 (fk_bind (F7_refuse (-5 : Int32) st6) <| fun x7 st8 =>
 some (x7, st8))))
 else
 (fk_bind (F7_refuse x5 st6) <| fun x9 st10 =>
 some (x9, st10)))
 else
 (B7_chance_19 st4))
 else
 (B7_chance_19 st2)
set_option maxHeartbeats 1000000 in
set_option maxRecDepth 20000 in
theorem C7_chance (p1 : Int32) (p2 : Int32) (p3 : Int32) (p4 : Int32) (st : fkS) {g : fkG} (l : Launch) (o : Int32 × fkS) (hF : F7_chance p1 p2 p3 p4 st = some o) : fk_C wC yX7_chance cX7_chance 9 (some (.int)) 3 143 l g [fk_r g 0, .int p1, .int p2, .int p3, .int p4] st (fk_eI o.1) o.2 := by
  refine fk_begin rfl (Nat.le_of_ble_eq_true rfl) (fun k hk => ?_) o hF
  have hk : fk_ok wC g k RX7 cX7_chance 9 (some (.int)) 3 143 := hk
  show fk_J wC g fk_eI k 0 [(0, fk_r g 0), (1, .int p1), (2, .int p2), (3, .int p3), (4, .int p4)] [] st (F7_chance p1 p2 p3 p4 st)
  unfold F7_chance
  refine j_aload_n (pc := 0) hk 0 rfl ⟨_, rfl⟩ dX7_chance_0 ?_
  refine j_iload_n (pc := 1) hk 1 rfl dX7_chance_1 ?_
  refine j_callVi (pc := 2) hk [.int p1] [] rfl (fun l o hq9 => C7_noShelf p1 st l o hq9) (rcv_7 (rfl)) yv_X7_noShelf ml_7_75 rfl (Nat.le_of_ble_eq_true rfl) (Nat.le_of_ble_eq_true rfl) (Nat.le_of_ble_eq_true rfl) dX7_chance_2 (fun x1 st2 => ?_)
  refine j_if_ne (tgt := 19) (pc := 5) hk (by decide) dX7_chance_5 (fun _ => ?_) (fun _ => ?_)
  · refine j_aload_n (pc := 8) hk 0 rfl ⟨_, rfl⟩ dX7_chance_8 ?_
    refine f_7_18 (pc := 9) hk (rfl) dX7_chance_9 ?_
    refine j_iload_n (pc := 12) hk 2 rfl dX7_chance_12 ?_
    refine j_callVNi (pc := 13) hk [.int p2] [] rfl (fun l o hq9 => C0_lacks 19 (rfl) p2 st2 l o hq9) (rcv_0 (rfl)) yv_X0_lacks ml_7_126 rfl (Nat.le_of_ble_eq_true rfl) (Nat.le_of_ble_eq_true rfl) (Nat.le_of_ble_eq_true rfl) dX7_chance_13 (fun x3 st4 => ?_)
    refine j_if_eq (tgt := 25) (pc := 16) hk (by decide) dX7_chance_16 (fun _ => ?_) (fun _ => ?_)
    · refine j_aload_n (pc := 25) hk 0 rfl ⟨_, rfl⟩ dX7_chance_25 ?_
      refine j_iload_n (pc := 26) hk 1 rfl dX7_chance_26 ?_
      refine j_callVi (pc := 27) hk [.int p1] [] rfl (fun l o hq9 => C7_noRow p1 st4 l o hq9) (rcv_7 (rfl)) yv_X7_noRow ml_7_87 rfl (Nat.le_of_ble_eq_true rfl) (Nat.le_of_ble_eq_true rfl) (Nat.le_of_ble_eq_true rfl) dX7_chance_27 (fun x5 st6 => ?_)
      refine j_istore (lv' := ((5, .int x5) :: [(0, fk_r g 0), (1, .int p1), (2, .int p2), (3, .int p3), (4, .int p4)])) (pc := 30) hk (by decide) rfl dX7_chance_30 ?_
      refine j_sub hk (lv' := [(0, fk_r g 0), (1, .int p1), (2, .int p2), (3, .int p3), (4, .int p4), (5, .int x5)]) [1, 2, 3, 4, 5, 0] rfl ?_
      refine j_iload (pc := 32) hk 5 rfl dX7_chance_32 ?_
      refine j_if_eq (tgt := 44) (pc := 34) hk (by decide) dX7_chance_34 (fun _ => ?_) (fun _ => ?_)
      · refine j_iload (pc := 44) hk 4 rfl dX7_chance_44 ?_
        refine j_if_eq (tgt := 62) (pc := 46) hk (by decide) dX7_chance_46 (fun _ => ?_) (fun _ => ?_)
        · exact j_sub hk [0, 1, 2, 3, 4] rfl (T7_chance_62 hk p1 p2 p3 p4 st6)
        · refine j_iload (pc := 49) hk 4 rfl dX7_chance_49 ?_
          refine j_iconst (pc := 51) hk dX7_chance_51 (v := 1) (by decide) ?_
          refine j_icmp_eq (tgt := 62) (pc := 52) hk (by decide) dX7_chance_52 (fun _ => ?_) (fun _ => ?_)
          · exact j_sub hk [0, 1, 2, 3, 4] rfl (T7_chance_62 hk p1 p2 p3 p4 st6)
          · refine j_aload_n (pc := 55) hk 0 rfl ⟨_, rfl⟩ dX7_chance_55 ?_
            refine j_bipush (pc := 56) hk dX7_chance_56 (v := -5) (by decide) ?_
            refine j_callVi (pc := 58) hk [.int (-5 : Int32)] [] rfl (fun l o hq9 => C7_refuse (-5 : Int32) st6 l o hq9) (rcv_7 (rfl)) yv_X7_refuse ml_7_79 rfl (Nat.le_of_ble_eq_true rfl) (Nat.le_of_ble_eq_true rfl) (Nat.le_of_ble_eq_true rfl) dX7_chance_58 (fun x7 st8 => ?_)
            exact j_iret (pc := 61) hk dX7_chance_61
      · refine j_aload_n (pc := 37) hk 0 rfl ⟨_, rfl⟩ dX7_chance_37 ?_
        refine j_iload (pc := 38) hk 5 rfl dX7_chance_38 ?_
        refine j_callVi (pc := 40) hk [.int x5] [] rfl (fun l o hq9 => C7_refuse x5 st6 l o hq9) (rcv_7 (rfl)) yv_X7_refuse ml_7_79 rfl (Nat.le_of_ble_eq_true rfl) (Nat.le_of_ble_eq_true rfl) (Nat.le_of_ble_eq_true rfl) dX7_chance_40 (fun x9 st10 => ?_)
        exact j_iret (pc := 43) hk dX7_chance_43
    · exact j_sub hk [0] rfl (T7_chance_19 hk st4)
  · exact j_sub hk [0] rfl (T7_chance_19 hk st2)
theorem dX7_minutes_0 : decode cX7_minutes 0 = .ok (.aload_n 0, 1) := by decide +kernel
theorem dX7_minutes_1 : decode cX7_minutes 1 = .ok (.iload_n 1, 1) := by decide +kernel
theorem dX7_minutes_2 : decode cX7_minutes 2 = .ok (.iload_n 2, 1) := by decide +kernel
theorem dX7_minutes_3 : decode cX7_minutes 3 = .ok (.invokevirtual 210, 3) := by decide +kernel
theorem dX7_minutes_6 : decode cX7_minutes 6 = .ok (.istore_n 3, 1) := by decide +kernel
theorem dX7_minutes_7 : decode cX7_minutes 7 = .ok (.iload_n 3, 1) := by decide +kernel
theorem dX7_minutes_8 : decode cX7_minutes 8 = .ok (.ifCond .eq 9, 3) := by decide +kernel
theorem dX7_minutes_11 : decode cX7_minutes 11 = .ok (.aload_n 0, 1) := by decide +kernel
theorem dX7_minutes_12 : decode cX7_minutes 12 = .ok (.iload_n 3, 1) := by decide +kernel
theorem dX7_minutes_13 : decode cX7_minutes 13 = .ok (.invokevirtual 139, 3) := by decide +kernel
theorem dX7_minutes_16 : decode cX7_minutes 16 = .ok (.ireturn, 1) := by decide +kernel
theorem dX7_minutes_17 : decode cX7_minutes 17 = .ok (.aload_n 0, 1) := by decide +kernel
theorem dX7_minutes_18 : decode cX7_minutes 18 = .ok (.getfield 56, 3) := by decide +kernel
theorem dX7_minutes_21 : decode cX7_minutes 21 = .ok (.aload_n 0, 1) := by decide +kernel
theorem dX7_minutes_22 : decode cX7_minutes 22 = .ok (.getfield 18, 3) := by decide +kernel
theorem dX7_minutes_25 : decode cX7_minutes 25 = .ok (.iload_n 2, 1) := by decide +kernel
theorem dX7_minutes_26 : decode cX7_minutes 26 = .ok (.invokevirtual 148, 3) := by decide +kernel
theorem dX7_minutes_29 : decode cX7_minutes 29 = .ok (.iconst 0, 1) := by decide +kernel
theorem dX7_minutes_30 : decode cX7_minutes 30 = .ok (.istore 4, 2) := by decide +kernel
theorem dX7_minutes_32 : decode cX7_minutes 32 = .ok (.iload 4, 2) := by decide +kernel
theorem dX7_minutes_34 : decode cX7_minutes 34 = .ok (.aload_n 0, 1) := by decide +kernel
theorem dX7_minutes_35 : decode cX7_minutes 35 = .ok (.getfield 18, 3) := by decide +kernel
theorem dX7_minutes_38 : decode cX7_minutes 38 = .ok (.getfield 178, 3) := by decide +kernel
theorem dX7_minutes_41 : decode cX7_minutes 41 = .ok (.if_icmp .gt 54, 3) := by decide +kernel
theorem dX7_minutes_44 : decode cX7_minutes 44 = .ok (.aload_n 0, 1) := by decide +kernel
theorem dX7_minutes_45 : decode cX7_minutes 45 = .ok (.getfield 56, 3) := by decide +kernel
theorem dX7_minutes_48 : decode cX7_minutes 48 = .ok (.aload_n 0, 1) := by decide +kernel
theorem dX7_minutes_49 : decode cX7_minutes 49 = .ok (.getfield 18, 3) := by decide +kernel
theorem dX7_minutes_52 : decode cX7_minutes 52 = .ok (.getfield 178, 3) := by decide +kernel
theorem dX7_minutes_55 : decode cX7_minutes 55 = .ok (.iload 4, 2) := by decide +kernel
theorem dX7_minutes_57 : decode cX7_minutes 57 = .ok (.isub, 1) := by decide +kernel
theorem dX7_minutes_58 : decode cX7_minutes 58 = .ok (.putfield 270, 3) := by decide +kernel
theorem dX7_minutes_61 : decode cX7_minutes 61 = .ok (.aload_n 0, 1) := by decide +kernel
theorem dX7_minutes_62 : decode cX7_minutes 62 = .ok (.getfield 56, 3) := by decide +kernel
theorem dX7_minutes_65 : decode cX7_minutes 65 = .ok (.aload_n 0, 1) := by decide +kernel
theorem dX7_minutes_66 : decode cX7_minutes 66 = .ok (.getfield 49, 3) := by decide +kernel
theorem dX7_minutes_69 : decode cX7_minutes 69 = .ok (.invokevirtual 158, 3) := by decide +kernel
theorem dX7_minutes_72 : decode cX7_minutes 72 = .ok (.aload_n 0, 1) := by decide +kernel
theorem dX7_minutes_73 : decode cX7_minutes 73 = .ok (.getfield 18, 3) := by decide +kernel
theorem dX7_minutes_76 : decode cX7_minutes 76 = .ok (.aload_n 0, 1) := by decide +kernel
theorem dX7_minutes_77 : decode cX7_minutes 77 = .ok (.getfield 56, 3) := by decide +kernel
theorem dX7_minutes_80 : decode cX7_minutes 80 = .ok (.invokevirtual 221, 3) := by decide +kernel
theorem dX7_minutes_83 : decode cX7_minutes 83 = .ok (.ifCond .ne 6, 3) := by decide +kernel
theorem dX7_minutes_86 : decode cX7_minutes 86 = .ok (.iload 4, 2) := by decide +kernel
theorem dX7_minutes_88 : decode cX7_minutes 88 = .ok (.ireturn, 1) := by decide +kernel
theorem dX7_minutes_89 : decode cX7_minutes 89 = .ok (.iinc 4 1, 3) := by decide +kernel
theorem dX7_minutes_92 : decode cX7_minutes 92 = .ok (.goto (-60), 3) := by decide +kernel
theorem dX7_minutes_95 : decode cX7_minutes 95 = .ok (.iconst (-1), 1) := by decide +kernel
theorem dX7_minutes_96 : decode cX7_minutes 96 = .ok (.ireturn, 1) := by decide +kernel
def B7_minutes_32 (k32 : Int32 → fkS → Option (Int32 × fkS)) (v4 : Int32) (st : fkS) : Option (Int32 × fkS) :=
 fk_let (gI st 5 19) <| fun x6 =>
 if x6 < v4 then
 (some ((-1 : Int32), st))
 else
 (fk_let (gI st 5 19) <| fun x7 =>
 fk_let (sI st 123 40 (x7 - v4)) <| fun st8 =>
 fk_bind (F6_speak 40 st8) <| fun _ st9 =>
 fk_bind (F0_illsOf 19 40 st9) <| fun x10 st11 =>
 if x10 = 0 then
 (some (v4, st11))
 else
 (k32 (v4 + (1 : Int32)) st11))
set_option maxHeartbeats 1000000 in
set_option maxRecDepth 20000 in
theorem T7_minutes_32 {g : fkG} {k : fkK} (hk : fk_ok wC g k RX7 cX7_minutes 5 (some (.int)) 5 143) (k32 : Int32 → fkS → Option (Int32 × fkS)) (H32 : ∀ (v4 : Int32) (st : fkS), fk_J wC g fk_eI k 32 [(0, fk_r g 0), (4, .int v4)] [] st (k32 v4 st)) : ∀ (v4 : Int32) (st : fkS), fk_J wC g fk_eI k 32 [(0, fk_r g 0), (4, .int v4)] [] st (B7_minutes_32 k32 v4 st) := by
  intro v4 st
  unfold B7_minutes_32
  refine j_iload (pc := 32) hk 1 rfl dX7_minutes_32 ?_
  refine j_aload_n (pc := 34) hk 0 rfl ⟨_, rfl⟩ dX7_minutes_34 ?_
  refine f_7_18 (pc := 35) hk (rfl) dX7_minutes_35 ?_
  refine f_7_178 (pc := 38) hk (rfl) dX7_minutes_38 (fun x6 => ?_)
  refine j_icmp_gt (tgt := 95) (pc := 41) hk (by decide) dX7_minutes_41 (fun _ => ?_) (fun _ => ?_)
  · refine j_iconst (pc := 95) hk dX7_minutes_95 (v := -1) (by decide) ?_
    exact j_iret (pc := 96) hk dX7_minutes_96
  · refine j_aload_n (pc := 44) hk 0 rfl ⟨_, rfl⟩ dX7_minutes_44 ?_
    refine f_7_56 (pc := 45) hk (rfl) dX7_minutes_45 ?_
    refine j_aload_n (pc := 48) hk 0 rfl ⟨_, rfl⟩ dX7_minutes_48 ?_
    refine f_7_18 (pc := 49) hk (rfl) dX7_minutes_49 ?_
    refine f_7_178 (pc := 52) hk (rfl) dX7_minutes_52 (fun x7 => ?_)
    refine j_iload (pc := 55) hk 1 rfl dX7_minutes_55 ?_
    refine j_isub (pc := 57) hk dX7_minutes_57 ?_
    refine p_7_270 (pc := 58) hk (rfl) dX7_minutes_58 (fun st8 => ?_)
    refine j_aload_n (pc := 61) hk 0 rfl ⟨_, rfl⟩ dX7_minutes_61 ?_
    refine f_7_56 (pc := 62) hk (rfl) dX7_minutes_62 ?_
    refine j_aload_n (pc := 65) hk 0 rfl ⟨_, rfl⟩ dX7_minutes_65 ?_
    refine f_7_49 (pc := 66) hk (rfl) dX7_minutes_66 ?_
    refine j_callVNv (pc := 69) hk [fk_r g 38] [] rfl (fun l o hq9 => C6_speak 40 (rfl) st8 l o hq9) (rcv_6 (rfl)) yv_X6_speak ml_7_158 rfl (Nat.le_of_ble_eq_true rfl) (Nat.le_of_ble_eq_true rfl) (Nat.le_of_ble_eq_true rfl) dX7_minutes_69 (fun _ st9 => ?_)
    refine j_aload_n (pc := 72) hk 0 rfl ⟨_, rfl⟩ dX7_minutes_72 ?_
    refine f_7_18 (pc := 73) hk (rfl) dX7_minutes_73 ?_
    refine j_aload_n (pc := 76) hk 0 rfl ⟨_, rfl⟩ dX7_minutes_76 ?_
    refine f_7_56 (pc := 77) hk (rfl) dX7_minutes_77 ?_
    refine j_callVNi (pc := 80) hk [fk_r g 40] [] rfl (fun l o hq9 => C0_illsOf 19 40 (rfl) (rfl) st9 l o hq9) (rcv_0 (rfl)) yv_X0_illsOf ml_7_221 rfl (Nat.le_of_ble_eq_true rfl) (Nat.le_of_ble_eq_true rfl) (Nat.le_of_ble_eq_true rfl) dX7_minutes_80 (fun x10 st11 => ?_)
    refine j_if_ne (tgt := 89) (pc := 83) hk (by decide) dX7_minutes_83 (fun _ => ?_) (fun _ => ?_)
    · refine j_iload (pc := 86) hk 1 rfl dX7_minutes_86 ?_
      exact j_iret (pc := 88) hk dX7_minutes_88
    · refine j_iinc (dd := (1 : Int32)) (lv' := ((4, .int (v4 + (1 : Int32))) :: [(0, fk_r g 0)])) (pc := 89) hk 1 rfl (by decide) (by decide) rfl dX7_minutes_89 ?_
      refine j_sub hk (lv' := [(0, fk_r g 0), (4, .int (v4 + (1 : Int32)))]) [1, 0] rfl ?_
      refine j_goto (tgt := 32) (pc := 92) hk (by decide) dX7_minutes_92 ?_
      exact j_sub hk [0, 1] rfl (H32 (v4 + (1 : Int32)) st11)
set_option maxHeartbeats 1000000 in
set_option maxRecDepth 20000 in
theorem L7_minutes_32 {g : fkG} {k : fkK} (hk : fk_ok wC g k RX7 cX7_minutes 5 (some (.int)) 5 143) (fu : Nat) : ∀ (v4 : Int32) (st : fkS), fk_J wC g fk_eI k 32 [(0, fk_r g 0), (4, .int v4)] [] st (fk_lp1 (B7_minutes_32) fu v4 st) := by
  induction fu with
  | zero =>
    intro v4 st
    exact j_none hk
  | succ fu ih =>
    exact T7_minutes_32 hk _ ih
def F7_minutes (p1 : Int32) (p2 : Int32) (st : fkS) : Option (Int32 × fkS) :=
 fk_bind (F7_noPieOf p1 p2 st) <| fun x1 st2 =>
 if x1 = 0 then
 (fk_bind (F6_take 40 19 p2 st2) <| fun _ st3 =>
 fk_lp1 (B7_minutes_32) fk_fuel (0 : Int32) st3)
 else
 (fk_bind (F7_refuseFar x1 st2) <| fun x4 st5 =>
 some (x4, st5))
set_option maxHeartbeats 1000000 in
set_option maxRecDepth 20000 in
theorem C7_minutes (p1 : Int32) (p2 : Int32) (st : fkS) {g : fkG} (l : Launch) (o : Int32 × fkS) (hF : F7_minutes p1 p2 st = some o) : fk_C wC yX7_minutes cX7_minutes 5 (some (.int)) 5 143 l g [fk_r g 0, .int p1, .int p2] st (fk_eI o.1) o.2 := by
  refine fk_begin rfl (Nat.le_of_ble_eq_true rfl) (fun k hk => ?_) o hF
  have hk : fk_ok wC g k RX7 cX7_minutes 5 (some (.int)) 5 143 := hk
  show fk_J wC g fk_eI k 0 [(0, fk_r g 0), (1, .int p1), (2, .int p2)] [] st (F7_minutes p1 p2 st)
  unfold F7_minutes
  refine j_aload_n (pc := 0) hk 0 rfl ⟨_, rfl⟩ dX7_minutes_0 ?_
  refine j_iload_n (pc := 1) hk 1 rfl dX7_minutes_1 ?_
  refine j_iload_n (pc := 2) hk 2 rfl dX7_minutes_2 ?_
  refine j_callVi (pc := 3) hk [.int p1, .int p2] [] rfl (fun l o hq9 => C7_noPieOf p1 p2 st l o hq9) (rcv_7 (rfl)) yv_X7_noPieOf ml_7_210 rfl (Nat.le_of_ble_eq_true rfl) (Nat.le_of_ble_eq_true rfl) (Nat.le_of_ble_eq_true rfl) dX7_minutes_3 (fun x1 st2 => ?_)
  refine j_istore_n (lv' := ((3, .int x1) :: [(0, fk_r g 0), (1, .int p1), (2, .int p2)])) (pc := 6) hk rfl (by decide) rfl dX7_minutes_6 ?_
  refine j_sub hk (lv' := [(0, fk_r g 0), (1, .int p1), (2, .int p2), (3, .int x1)]) [1, 2, 3, 0] rfl ?_
  refine j_iload_n (pc := 7) hk 3 rfl dX7_minutes_7 ?_
  refine j_if_eq (tgt := 17) (pc := 8) hk (by decide) dX7_minutes_8 (fun _ => ?_) (fun _ => ?_)
  · refine j_aload_n (pc := 17) hk 0 rfl ⟨_, rfl⟩ dX7_minutes_17 ?_
    refine f_7_56 (pc := 18) hk (rfl) dX7_minutes_18 ?_
    refine j_aload_n (pc := 21) hk 0 rfl ⟨_, rfl⟩ dX7_minutes_21 ?_
    refine f_7_18 (pc := 22) hk (rfl) dX7_minutes_22 ?_
    refine j_iload_n (pc := 25) hk 2 rfl dX7_minutes_25 ?_
    refine j_callVNv (pc := 26) hk [fk_r g 19, .int p2] [] rfl (fun l o hq9 => C6_take 40 19 (rfl) (rfl) p2 st2 l o hq9) (rcv_6 (rfl)) yv_X6_take ml_7_148 rfl (Nat.le_of_ble_eq_true rfl) (Nat.le_of_ble_eq_true rfl) (Nat.le_of_ble_eq_true rfl) dX7_minutes_26 (fun _ st3 => ?_)
    refine j_iconst (pc := 29) hk dX7_minutes_29 (v := 0) (by decide) ?_
    refine j_istore (lv' := ((4, .int (0 : Int32)) :: [(0, fk_r g 0), (1, .int p1), (2, .int p2), (3, .int x1)])) (pc := 30) hk (by decide) rfl dX7_minutes_30 ?_
    refine j_sub hk (lv' := [(0, fk_r g 0), (1, .int p1), (2, .int p2), (3, .int x1), (4, .int (0 : Int32))]) [1, 2, 3, 4, 0] rfl ?_
    exact j_sub hk [0, 4] rfl (L7_minutes_32 hk fk_fuel (0 : Int32) st3)
  · refine j_aload_n (pc := 11) hk 0 rfl ⟨_, rfl⟩ dX7_minutes_11 ?_
    refine j_iload_n (pc := 12) hk 3 rfl dX7_minutes_12 ?_
    refine j_callVi (pc := 13) hk [.int x1] [] rfl (fun l o hq9 => C7_refuseFar x1 st2 l o hq9) (rcv_7 (rfl)) yv_X7_refuseFar ml_7_139 rfl (Nat.le_of_ble_eq_true rfl) (Nat.le_of_ble_eq_true rfl) (Nat.le_of_ble_eq_true rfl) dX7_minutes_13 (fun x4 st5 => ?_)
    exact j_iret (pc := 16) hk dX7_minutes_16
theorem dX7_after_0 : decode cX7_after 0 = .ok (.aload_n 0, 1) := by decide +kernel
theorem dX7_after_1 : decode cX7_after 1 = .ok (.iload_n 1, 1) := by decide +kernel
theorem dX7_after_2 : decode cX7_after 2 = .ok (.iload_n 2, 1) := by decide +kernel
theorem dX7_after_3 : decode cX7_after 3 = .ok (.invokevirtual 210, 3) := by decide +kernel
theorem dX7_after_6 : decode cX7_after 6 = .ok (.istore 4, 2) := by decide +kernel
theorem dX7_after_8 : decode cX7_after 8 = .ok (.iload 4, 2) := by decide +kernel
theorem dX7_after_10 : decode cX7_after 10 = .ok (.ifCond .eq 10, 3) := by decide +kernel
theorem dX7_after_13 : decode cX7_after 13 = .ok (.aload_n 0, 1) := by decide +kernel
theorem dX7_after_14 : decode cX7_after 14 = .ok (.iload 4, 2) := by decide +kernel
theorem dX7_after_16 : decode cX7_after 16 = .ok (.invokevirtual 79, 3) := by decide +kernel
theorem dX7_after_19 : decode cX7_after 19 = .ok (.ireturn, 1) := by decide +kernel
theorem dX7_after_20 : decode cX7_after 20 = .ok (.iload_n 3, 1) := by decide +kernel
theorem dX7_after_21 : decode cX7_after 21 = .ok (.ifCond .lt 9, 3) := by decide +kernel
theorem dX7_after_24 : decode cX7_after 24 = .ok (.iload_n 3, 1) := by decide +kernel
theorem dX7_after_25 : decode cX7_after 25 = .ok (.bipush 40, 2) := by decide +kernel
theorem dX7_after_27 : decode cX7_after 27 = .ok (.if_icmp .le 10, 3) := by decide +kernel
theorem dX7_after_30 : decode cX7_after 30 = .ok (.aload_n 0, 1) := by decide +kernel
theorem dX7_after_31 : decode cX7_after 31 = .ok (.bipush (-6), 2) := by decide +kernel
theorem dX7_after_33 : decode cX7_after 33 = .ok (.invokevirtual 79, 3) := by decide +kernel
theorem dX7_after_36 : decode cX7_after 36 = .ok (.ireturn, 1) := by decide +kernel
theorem dX7_after_37 : decode cX7_after 37 = .ok (.aload_n 0, 1) := by decide +kernel
theorem dX7_after_38 : decode cX7_after 38 = .ok (.getfield 56, 3) := by decide +kernel
theorem dX7_after_41 : decode cX7_after 41 = .ok (.aload_n 0, 1) := by decide +kernel
theorem dX7_after_42 : decode cX7_after 42 = .ok (.getfield 18, 3) := by decide +kernel
theorem dX7_after_45 : decode cX7_after 45 = .ok (.iload_n 2, 1) := by decide +kernel
theorem dX7_after_46 : decode cX7_after 46 = .ok (.invokevirtual 148, 3) := by decide +kernel
theorem dX7_after_49 : decode cX7_after 49 = .ok (.aload_n 0, 1) := by decide +kernel
theorem dX7_after_50 : decode cX7_after 50 = .ok (.getfield 56, 3) := by decide +kernel
theorem dX7_after_53 : decode cX7_after 53 = .ok (.aload_n 0, 1) := by decide +kernel
theorem dX7_after_54 : decode cX7_after 54 = .ok (.getfield 49, 3) := by decide +kernel
theorem dX7_after_57 : decode cX7_after 57 = .ok (.invokevirtual 158, 3) := by decide +kernel
theorem dX7_after_60 : decode cX7_after 60 = .ok (.aload_n 0, 1) := by decide +kernel
theorem dX7_after_61 : decode cX7_after 61 = .ok (.getfield 18, 3) := by decide +kernel
theorem dX7_after_64 : decode cX7_after 64 = .ok (.getfield 181, 3) := by decide +kernel
theorem dX7_after_67 : decode cX7_after 67 = .ok (.istore 5, 2) := by decide +kernel
theorem dX7_after_69 : decode cX7_after 69 = .ok (.iconst 0, 1) := by decide +kernel
theorem dX7_after_70 : decode cX7_after 70 = .ok (.istore 6, 2) := by decide +kernel
theorem dX7_after_72 : decode cX7_after 72 = .ok (.iload 6, 2) := by decide +kernel
theorem dX7_after_74 : decode cX7_after 74 = .ok (.iload_n 3, 1) := by decide +kernel
theorem dX7_after_75 : decode cX7_after 75 = .ok (.if_icmp .ge 24, 3) := by decide +kernel
theorem dX7_after_78 : decode cX7_after 78 = .ok (.aload_n 0, 1) := by decide +kernel
theorem dX7_after_79 : decode cX7_after 79 = .ok (.getfield 18, 3) := by decide +kernel
theorem dX7_after_82 : decode cX7_after 82 = .ok (.aload_n 0, 1) := by decide +kernel
theorem dX7_after_83 : decode cX7_after 83 = .ok (.getfield 56, 3) := by decide +kernel
theorem dX7_after_86 : decode cX7_after 86 = .ok (.iload 5, 2) := by decide +kernel
theorem dX7_after_88 : decode cX7_after 88 = .ok (.invokevirtual 217, 3) := by decide +kernel
theorem dX7_after_91 : decode cX7_after 91 = .ok (.istore 5, 2) := by decide +kernel
theorem dX7_after_93 : decode cX7_after 93 = .ok (.iinc 6 1, 3) := by decide +kernel
theorem dX7_after_96 : decode cX7_after 96 = .ok (.goto (-24), 3) := by decide +kernel
theorem dX7_after_99 : decode cX7_after 99 = .ok (.iload 5, 2) := by decide +kernel
theorem dX7_after_101 : decode cX7_after 101 = .ok (.ireturn, 1) := by decide +kernel
def B7_after_30 (st : fkS) : Option (Int32 × fkS) :=
 fk_bind (F7_refuse (-6 : Int32) st) <| fun x8 st9 =>
 some (x8, st9)
set_option maxHeartbeats 1000000 in
set_option maxRecDepth 20000 in
theorem T7_after_30 {g : fkG} {k : fkK} (hk : fk_ok wC g k RX7 cX7_after 7 (some (.int)) 5 143) : ∀ (st : fkS), fk_J wC g fk_eI k 30 [(0, fk_r g 0)] [] st (B7_after_30 st) := by
  intro st
  unfold B7_after_30
  refine j_aload_n (pc := 30) hk 0 rfl ⟨_, rfl⟩ dX7_after_30 ?_
  refine j_bipush (pc := 31) hk dX7_after_31 (v := -6) (by decide) ?_
  refine j_callVi (pc := 33) hk [.int (-6 : Int32)] [] rfl (fun l o hq9 => C7_refuse (-6 : Int32) st l o hq9) (rcv_7 (rfl)) yv_X7_refuse ml_7_79 rfl (Nat.le_of_ble_eq_true rfl) (Nat.le_of_ble_eq_true rfl) (Nat.le_of_ble_eq_true rfl) dX7_after_33 (fun x8 st9 => ?_)
  exact j_iret (pc := 36) hk dX7_after_36
def B7_after_72 (k72 : Int32 → Int32 → Int32 → fkS → Option (Int32 × fkS)) (v3 : Int32) (v5 : Int32) (v6 : Int32) (st : fkS) : Option (Int32 × fkS) :=
 if v3 ≤ v6 then
 (some (v5, st))
 else
 (fk_bind (F0_endOf 19 40 v5 st) <| fun x10 st11 =>
 k72 v3 x10 (v6 + (1 : Int32)) st11)
set_option maxHeartbeats 1000000 in
set_option maxRecDepth 20000 in
theorem T7_after_72 {g : fkG} {k : fkK} (hk : fk_ok wC g k RX7 cX7_after 7 (some (.int)) 5 143) (k72 : Int32 → Int32 → Int32 → fkS → Option (Int32 × fkS)) (H72 : ∀ (v3 : Int32) (v5 : Int32) (v6 : Int32) (st : fkS), fk_J wC g fk_eI k 72 [(0, fk_r g 0), (3, .int v3), (5, .int v5), (6, .int v6)] [] st (k72 v3 v5 v6 st)) : ∀ (v3 : Int32) (v5 : Int32) (v6 : Int32) (st : fkS), fk_J wC g fk_eI k 72 [(0, fk_r g 0), (3, .int v3), (5, .int v5), (6, .int v6)] [] st (B7_after_72 k72 v3 v5 v6 st) := by
  intro v3 v5 v6 st
  unfold B7_after_72
  refine j_iload (pc := 72) hk 3 rfl dX7_after_72 ?_
  refine j_iload_n (pc := 74) hk 1 rfl dX7_after_74 ?_
  refine j_icmp_ge (tgt := 99) (pc := 75) hk (by decide) dX7_after_75 (fun _ => ?_) (fun _ => ?_)
  · refine j_iload (pc := 99) hk 2 rfl dX7_after_99 ?_
    exact j_iret (pc := 101) hk dX7_after_101
  · refine j_aload_n (pc := 78) hk 0 rfl ⟨_, rfl⟩ dX7_after_78 ?_
    refine f_7_18 (pc := 79) hk (rfl) dX7_after_79 ?_
    refine j_aload_n (pc := 82) hk 0 rfl ⟨_, rfl⟩ dX7_after_82 ?_
    refine f_7_56 (pc := 83) hk (rfl) dX7_after_83 ?_
    refine j_iload (pc := 86) hk 2 rfl dX7_after_86 ?_
    refine j_callVNi (pc := 88) hk [fk_r g 40, .int v5] [] rfl (fun l o hq9 => C0_endOf 19 40 (rfl) (rfl) v5 st l o hq9) (rcv_0 (rfl)) yv_X0_endOf ml_7_217 rfl (Nat.le_of_ble_eq_true rfl) (Nat.le_of_ble_eq_true rfl) (Nat.le_of_ble_eq_true rfl) dX7_after_88 (fun x10 st11 => ?_)
    refine j_istore (lv' := ((5, .int x10) :: [(0, fk_r g 0), (3, .int v3), (6, .int v6)])) (pc := 91) hk (by decide) rfl dX7_after_91 ?_
    refine j_sub hk (lv' := [(0, fk_r g 0), (3, .int v3), (5, .int x10), (6, .int v6)]) [1, 2, 0, 3] rfl ?_
    refine j_iinc (dd := (1 : Int32)) (lv' := ((6, .int (v6 + (1 : Int32))) :: [(0, fk_r g 0), (3, .int v3), (5, .int x10)])) (pc := 93) hk 3 rfl (by decide) (by decide) rfl dX7_after_93 ?_
    refine j_sub hk (lv' := [(0, fk_r g 0), (3, .int v3), (5, .int x10), (6, .int (v6 + (1 : Int32)))]) [1, 2, 3, 0] rfl ?_
    refine j_goto (tgt := 72) (pc := 96) hk (by decide) dX7_after_96 ?_
    exact j_sub hk [0, 1, 2, 3] rfl (H72 v3 x10 (v6 + (1 : Int32)) st11)
set_option maxHeartbeats 1000000 in
set_option maxRecDepth 20000 in
theorem L7_after_72 {g : fkG} {k : fkK} (hk : fk_ok wC g k RX7 cX7_after 7 (some (.int)) 5 143) (fu : Nat) : ∀ (v3 : Int32) (v5 : Int32) (v6 : Int32) (st : fkS), fk_J wC g fk_eI k 72 [(0, fk_r g 0), (3, .int v3), (5, .int v5), (6, .int v6)] [] st (fk_lp3 (B7_after_72) fu v3 v5 v6 st) := by
  induction fu with
  | zero =>
    intro v3 v5 v6 st
    exact j_none hk
  | succ fu ih =>
    exact T7_after_72 hk _ ih
def F7_after (p1 : Int32) (p2 : Int32) (p3 : Int32) (st : fkS) : Option (Int32 × fkS) :=
 fk_bind (F7_noPieOf p1 p2 st) <| fun x1 st2 =>
 if x1 = 0 then
 (if p3 < 0 then
 (B7_after_30 st2)
 else
 (if p3 ≤ (40 : Int32) then
 (fk_bind (F6_take 40 19 p2 st2) <| fun _ st3 =>
 fk_bind (F6_speak 40 st3) <| fun _ st4 =>
 fk_let (gI st4 6 19) <| fun x5 =>
 fk_lp3 (B7_after_72) fk_fuel p3 x5 (0 : Int32) st4)
 else
 (B7_after_30 st2)))
 else
 (fk_bind (F7_refuse x1 st2) <| fun x6 st7 =>
 some (x6, st7))
set_option maxHeartbeats 1000000 in
set_option maxRecDepth 20000 in
theorem C7_after (p1 : Int32) (p2 : Int32) (p3 : Int32) (st : fkS) {g : fkG} (l : Launch) (o : Int32 × fkS) (hF : F7_after p1 p2 p3 st = some o) : fk_C wC yX7_after cX7_after 7 (some (.int)) 5 143 l g [fk_r g 0, .int p1, .int p2, .int p3] st (fk_eI o.1) o.2 := by
  refine fk_begin rfl (Nat.le_of_ble_eq_true rfl) (fun k hk => ?_) o hF
  have hk : fk_ok wC g k RX7 cX7_after 7 (some (.int)) 5 143 := hk
  show fk_J wC g fk_eI k 0 [(0, fk_r g 0), (1, .int p1), (2, .int p2), (3, .int p3)] [] st (F7_after p1 p2 p3 st)
  unfold F7_after
  refine j_aload_n (pc := 0) hk 0 rfl ⟨_, rfl⟩ dX7_after_0 ?_
  refine j_iload_n (pc := 1) hk 1 rfl dX7_after_1 ?_
  refine j_iload_n (pc := 2) hk 2 rfl dX7_after_2 ?_
  refine j_callVi (pc := 3) hk [.int p1, .int p2] [] rfl (fun l o hq9 => C7_noPieOf p1 p2 st l o hq9) (rcv_7 (rfl)) yv_X7_noPieOf ml_7_210 rfl (Nat.le_of_ble_eq_true rfl) (Nat.le_of_ble_eq_true rfl) (Nat.le_of_ble_eq_true rfl) dX7_after_3 (fun x1 st2 => ?_)
  refine j_istore (lv' := ((4, .int x1) :: [(0, fk_r g 0), (1, .int p1), (2, .int p2), (3, .int p3)])) (pc := 6) hk (by decide) rfl dX7_after_6 ?_
  refine j_sub hk (lv' := [(0, fk_r g 0), (1, .int p1), (2, .int p2), (3, .int p3), (4, .int x1)]) [1, 2, 3, 4, 0] rfl ?_
  refine j_iload (pc := 8) hk 4 rfl dX7_after_8 ?_
  refine j_if_eq (tgt := 20) (pc := 10) hk (by decide) dX7_after_10 (fun _ => ?_) (fun _ => ?_)
  · refine j_iload_n (pc := 20) hk 3 rfl dX7_after_20 ?_
    refine j_if_lt (tgt := 30) (pc := 21) hk (by decide) dX7_after_21 (fun _ => ?_) (fun _ => ?_)
    · exact j_sub hk [0] rfl (T7_after_30 hk st2)
    · refine j_iload_n (pc := 24) hk 3 rfl dX7_after_24 ?_
      refine j_bipush (pc := 25) hk dX7_after_25 (v := 40) (by decide) ?_
      refine j_icmp_le (tgt := 37) (pc := 27) hk (by decide) dX7_after_27 (fun _ => ?_) (fun _ => ?_)
      · refine j_aload_n (pc := 37) hk 0 rfl ⟨_, rfl⟩ dX7_after_37 ?_
        refine f_7_56 (pc := 38) hk (rfl) dX7_after_38 ?_
        refine j_aload_n (pc := 41) hk 0 rfl ⟨_, rfl⟩ dX7_after_41 ?_
        refine f_7_18 (pc := 42) hk (rfl) dX7_after_42 ?_
        refine j_iload_n (pc := 45) hk 2 rfl dX7_after_45 ?_
        refine j_callVNv (pc := 46) hk [fk_r g 19, .int p2] [] rfl (fun l o hq9 => C6_take 40 19 (rfl) (rfl) p2 st2 l o hq9) (rcv_6 (rfl)) yv_X6_take ml_7_148 rfl (Nat.le_of_ble_eq_true rfl) (Nat.le_of_ble_eq_true rfl) (Nat.le_of_ble_eq_true rfl) dX7_after_46 (fun _ st3 => ?_)
        refine j_aload_n (pc := 49) hk 0 rfl ⟨_, rfl⟩ dX7_after_49 ?_
        refine f_7_56 (pc := 50) hk (rfl) dX7_after_50 ?_
        refine j_aload_n (pc := 53) hk 0 rfl ⟨_, rfl⟩ dX7_after_53 ?_
        refine f_7_49 (pc := 54) hk (rfl) dX7_after_54 ?_
        refine j_callVNv (pc := 57) hk [fk_r g 38] [] rfl (fun l o hq9 => C6_speak 40 (rfl) st3 l o hq9) (rcv_6 (rfl)) yv_X6_speak ml_7_158 rfl (Nat.le_of_ble_eq_true rfl) (Nat.le_of_ble_eq_true rfl) (Nat.le_of_ble_eq_true rfl) dX7_after_57 (fun _ st4 => ?_)
        refine j_aload_n (pc := 60) hk 0 rfl ⟨_, rfl⟩ dX7_after_60 ?_
        refine f_7_18 (pc := 61) hk (rfl) dX7_after_61 ?_
        refine f_7_181 (pc := 64) hk (rfl) dX7_after_64 (fun x5 => ?_)
        refine j_istore (lv' := ((5, .int x5) :: [(0, fk_r g 0), (1, .int p1), (2, .int p2), (3, .int p3), (4, .int x1)])) (pc := 67) hk (by decide) rfl dX7_after_67 ?_
        refine j_sub hk (lv' := [(0, fk_r g 0), (1, .int p1), (2, .int p2), (3, .int p3), (4, .int x1), (5, .int x5)]) [1, 2, 3, 4, 5, 0] rfl ?_
        refine j_iconst (pc := 69) hk dX7_after_69 (v := 0) (by decide) ?_
        refine j_istore (lv' := ((6, .int (0 : Int32)) :: [(0, fk_r g 0), (1, .int p1), (2, .int p2), (3, .int p3), (4, .int x1), (5, .int x5)])) (pc := 70) hk (by decide) rfl dX7_after_70 ?_
        refine j_sub hk (lv' := [(0, fk_r g 0), (1, .int p1), (2, .int p2), (3, .int p3), (4, .int x1), (5, .int x5), (6, .int (0 : Int32))]) [1, 2, 3, 4, 5, 6, 0] rfl ?_
        exact j_sub hk [0, 3, 5, 6] rfl (L7_after_72 hk fk_fuel p3 x5 (0 : Int32) st4)
      · exact j_sub hk [0] rfl (T7_after_30 hk st2)
  · refine j_aload_n (pc := 13) hk 0 rfl ⟨_, rfl⟩ dX7_after_13 ?_
    refine j_iload (pc := 14) hk 4 rfl dX7_after_14 ?_
    refine j_callVi (pc := 16) hk [.int x1] [] rfl (fun l o hq9 => C7_refuse x1 st2 l o hq9) (rcv_7 (rfl)) yv_X7_refuse ml_7_79 rfl (Nat.le_of_ble_eq_true rfl) (Nat.le_of_ble_eq_true rfl) (Nat.le_of_ble_eq_true rfl) dX7_after_16 (fun x6 st7 => ?_)
    exact j_iret (pc := 19) hk dX7_after_19
theorem dX7_fewestIllsByLast_0 : decode cX7_fewestIllsByLast 0 = .ok (.iconst (-1), 1) := by decide +kernel
theorem dX7_fewestIllsByLast_1 : decode cX7_fewestIllsByLast 1 = .ok (.istore_n 1, 1) := by decide +kernel
theorem dX7_fewestIllsByLast_2 : decode cX7_fewestIllsByLast 2 = .ok (.iconst 0, 1) := by decide +kernel
theorem dX7_fewestIllsByLast_3 : decode cX7_fewestIllsByLast 3 = .ok (.istore_n 2, 1) := by decide +kernel
theorem dX7_fewestIllsByLast_4 : decode cX7_fewestIllsByLast 4 = .ok (.iload_n 2, 1) := by decide +kernel
theorem dX7_fewestIllsByLast_5 : decode cX7_fewestIllsByLast 5 = .ok (.bipush 10, 2) := by decide +kernel
theorem dX7_fewestIllsByLast_7 : decode cX7_fewestIllsByLast 7 = .ok (.if_icmp .ge 64, 3) := by decide +kernel
theorem dX7_fewestIllsByLast_10 : decode cX7_fewestIllsByLast 10 = .ok (.aload_n 0, 1) := by decide +kernel
theorem dX7_fewestIllsByLast_11 : decode cX7_fewestIllsByLast 11 = .ok (.getfield 49, 3) := by decide +kernel
theorem dX7_fewestIllsByLast_14 : decode cX7_fewestIllsByLast 14 = .ok (.aload_n 0, 1) := by decide +kernel
theorem dX7_fewestIllsByLast_15 : decode cX7_fewestIllsByLast 15 = .ok (.getfield 49, 3) := by decide +kernel
theorem dX7_fewestIllsByLast_18 : decode cX7_fewestIllsByLast 18 = .ok (.getfield 228, 3) := by decide +kernel
theorem dX7_fewestIllsByLast_21 : decode cX7_fewestIllsByLast 21 = .ok (.iconst 1, 1) := by decide +kernel
theorem dX7_fewestIllsByLast_22 : decode cX7_fewestIllsByLast 22 = .ok (.isub, 1) := by decide +kernel
theorem dX7_fewestIllsByLast_23 : decode cX7_fewestIllsByLast 23 = .ok (.iload_n 2, 1) := by decide +kernel
theorem dX7_fewestIllsByLast_24 : decode cX7_fewestIllsByLast 24 = .ok (.invokevirtual 305, 3) := by decide +kernel
theorem dX7_fewestIllsByLast_27 : decode cX7_fewestIllsByLast 27 = .ok (.aload_n 0, 1) := by decide +kernel
theorem dX7_fewestIllsByLast_28 : decode cX7_fewestIllsByLast 28 = .ok (.getfield 56, 3) := by decide +kernel
theorem dX7_fewestIllsByLast_31 : decode cX7_fewestIllsByLast 31 = .ok (.aload_n 0, 1) := by decide +kernel
theorem dX7_fewestIllsByLast_32 : decode cX7_fewestIllsByLast 32 = .ok (.getfield 49, 3) := by decide +kernel
theorem dX7_fewestIllsByLast_35 : decode cX7_fewestIllsByLast 35 = .ok (.invokevirtual 158, 3) := by decide +kernel
theorem dX7_fewestIllsByLast_38 : decode cX7_fewestIllsByLast 38 = .ok (.aload_n 0, 1) := by decide +kernel
theorem dX7_fewestIllsByLast_39 : decode cX7_fewestIllsByLast 39 = .ok (.getfield 18, 3) := by decide +kernel
theorem dX7_fewestIllsByLast_42 : decode cX7_fewestIllsByLast 42 = .ok (.aload_n 0, 1) := by decide +kernel
theorem dX7_fewestIllsByLast_43 : decode cX7_fewestIllsByLast 43 = .ok (.getfield 56, 3) := by decide +kernel
theorem dX7_fewestIllsByLast_46 : decode cX7_fewestIllsByLast 46 = .ok (.invokevirtual 221, 3) := by decide +kernel
theorem dX7_fewestIllsByLast_49 : decode cX7_fewestIllsByLast 49 = .ok (.istore_n 3, 1) := by decide +kernel
theorem dX7_fewestIllsByLast_50 : decode cX7_fewestIllsByLast 50 = .ok (.iload_n 1, 1) := by decide +kernel
theorem dX7_fewestIllsByLast_51 : decode cX7_fewestIllsByLast 51 = .ok (.iconst (-1), 1) := by decide +kernel
theorem dX7_fewestIllsByLast_52 : decode cX7_fewestIllsByLast 52 = .ok (.if_icmp .ne 7, 3) := by decide +kernel
theorem dX7_fewestIllsByLast_55 : decode cX7_fewestIllsByLast 55 = .ok (.iload_n 3, 1) := by decide +kernel
theorem dX7_fewestIllsByLast_56 : decode cX7_fewestIllsByLast 56 = .ok (.goto 8, 3) := by decide +kernel
theorem dX7_fewestIllsByLast_59 : decode cX7_fewestIllsByLast 59 = .ok (.iload_n 1, 1) := by decide +kernel
theorem dX7_fewestIllsByLast_60 : decode cX7_fewestIllsByLast 60 = .ok (.iload_n 3, 1) := by decide +kernel
theorem dX7_fewestIllsByLast_61 : decode cX7_fewestIllsByLast 61 = .ok (.invokestatic 338, 3) := by decide +kernel
theorem dX7_fewestIllsByLast_64 : decode cX7_fewestIllsByLast 64 = .ok (.istore_n 1, 1) := by decide +kernel
theorem dX7_fewestIllsByLast_65 : decode cX7_fewestIllsByLast 65 = .ok (.iinc 2 1, 3) := by decide +kernel
theorem dX7_fewestIllsByLast_68 : decode cX7_fewestIllsByLast 68 = .ok (.goto (-64), 3) := by decide +kernel
theorem dX7_fewestIllsByLast_71 : decode cX7_fewestIllsByLast 71 = .ok (.iload_n 1, 1) := by decide +kernel
theorem dX7_fewestIllsByLast_72 : decode cX7_fewestIllsByLast 72 = .ok (.ireturn, 1) := by decide +kernel
def B7_fewestIllsByLast_64 (k4 : Int32 → Int32 → fkS → Option (Int32 × fkS)) (v2 : Int32) (s0 : Int32) (st : fkS) : Option (Int32 × fkS) :=
 k4 s0 (v2 + (1 : Int32)) st
set_option maxHeartbeats 1000000 in
set_option maxRecDepth 20000 in
theorem T7_fewestIllsByLast_64 {g : fkG} {k : fkK} (hk : fk_ok wC g k RX7 cX7_fewestIllsByLast 4 (some (.int)) 3 143) (k4 : Int32 → Int32 → fkS → Option (Int32 × fkS)) (H4 : ∀ (v1 : Int32) (v2 : Int32) (st : fkS), fk_J wC g fk_eI k 4 [(0, fk_r g 0), (1, .int v1), (2, .int v2)] [] st (k4 v1 v2 st)) : ∀ (v2 : Int32) (s0 : Int32) (st : fkS), fk_J wC g fk_eI k 64 [(0, fk_r g 0), (2, .int v2)] [.int s0] st (B7_fewestIllsByLast_64 k4 v2 s0 st) := by
  intro v2 s0 st
  unfold B7_fewestIllsByLast_64
  refine j_istore_n (lv' := ((1, .int s0) :: [(0, fk_r g 0), (2, .int v2)])) (pc := 64) hk rfl (by decide) rfl dX7_fewestIllsByLast_64 ?_
  refine j_sub hk (lv' := [(0, fk_r g 0), (1, .int s0), (2, .int v2)]) [1, 0, 2] rfl ?_
  refine j_iinc (dd := (1 : Int32)) (lv' := ((2, .int (v2 + (1 : Int32))) :: [(0, fk_r g 0), (1, .int s0)])) (pc := 65) hk 2 rfl (by decide) (by decide) rfl dX7_fewestIllsByLast_65 ?_
  refine j_sub hk (lv' := [(0, fk_r g 0), (1, .int s0), (2, .int (v2 + (1 : Int32)))]) [1, 2, 0] rfl ?_
  refine j_goto (tgt := 4) (pc := 68) hk (by decide) dX7_fewestIllsByLast_68 ?_
  exact j_sub hk [0, 1, 2] rfl (H4 s0 (v2 + (1 : Int32)) st)
def B7_fewestIllsByLast_4 (k4 : Int32 → Int32 → fkS → Option (Int32 × fkS)) (v1 : Int32) (v2 : Int32) (st : fkS) : Option (Int32 × fkS) :=
 if (10 : Int32) ≤ v2 then
 (some (v1, st))
 else
 (fk_let (gI st 61 38) <| fun x1 =>
 fk_bind (F3_setLayer (x1 - (1 : Int32)) v2 st) <| fun _ st2 =>
 fk_bind (F6_speak 40 st2) <| fun _ st3 =>
 fk_bind (F0_illsOf 19 40 st3) <| fun x4 st5 =>
 if v1 = (-1 : Int32) then
 (B7_fewestIllsByLast_64 k4 v2 x4 st5)
 else
 (B7_fewestIllsByLast_64 k4 v2 (fk_min v1 x4) st5))
set_option maxHeartbeats 1000000 in
set_option maxRecDepth 20000 in
theorem T7_fewestIllsByLast_4 {g : fkG} {k : fkK} (hk : fk_ok wC g k RX7 cX7_fewestIllsByLast 4 (some (.int)) 3 143) (k4 : Int32 → Int32 → fkS → Option (Int32 × fkS)) (H4 : ∀ (v1 : Int32) (v2 : Int32) (st : fkS), fk_J wC g fk_eI k 4 [(0, fk_r g 0), (1, .int v1), (2, .int v2)] [] st (k4 v1 v2 st)) : ∀ (v1 : Int32) (v2 : Int32) (st : fkS), fk_J wC g fk_eI k 4 [(0, fk_r g 0), (1, .int v1), (2, .int v2)] [] st (B7_fewestIllsByLast_4 k4 v1 v2 st) := by
  intro v1 v2 st
  unfold B7_fewestIllsByLast_4
  refine j_iload_n (pc := 4) hk 2 rfl dX7_fewestIllsByLast_4 ?_
  refine j_bipush (pc := 5) hk dX7_fewestIllsByLast_5 (v := 10) (by decide) ?_
  refine j_icmp_ge (tgt := 71) (pc := 7) hk (by decide) dX7_fewestIllsByLast_7 (fun _ => ?_) (fun _ => ?_)
  · refine j_iload_n (pc := 71) hk 1 rfl dX7_fewestIllsByLast_71 ?_
    exact j_iret (pc := 72) hk dX7_fewestIllsByLast_72
  · refine j_aload_n (pc := 10) hk 0 rfl ⟨_, rfl⟩ dX7_fewestIllsByLast_10 ?_
    refine f_7_49 (pc := 11) hk (rfl) dX7_fewestIllsByLast_11 ?_
    refine j_aload_n (pc := 14) hk 0 rfl ⟨_, rfl⟩ dX7_fewestIllsByLast_14 ?_
    refine f_7_49 (pc := 15) hk (rfl) dX7_fewestIllsByLast_15 ?_
    refine f_7_228 (pc := 18) hk (rfl) dX7_fewestIllsByLast_18 (fun x1 => ?_)
    refine j_iconst (pc := 21) hk dX7_fewestIllsByLast_21 (v := 1) (by decide) ?_
    refine j_isub (pc := 22) hk dX7_fewestIllsByLast_22 ?_
    refine j_iload_n (pc := 23) hk 2 rfl dX7_fewestIllsByLast_23 ?_
    refine j_callVNv (pc := 24) hk [.int (x1 - (1 : Int32)), .int v2] [] rfl (fun l o hq9 => C3_setLayer (x1 - (1 : Int32)) v2 st l o hq9) (rcv_3 (rfl)) yv_X3_setLayer ml_7_305 rfl (Nat.le_of_ble_eq_true rfl) (Nat.le_of_ble_eq_true rfl) (Nat.le_of_ble_eq_true rfl) dX7_fewestIllsByLast_24 (fun _ st2 => ?_)
    refine j_aload_n (pc := 27) hk 0 rfl ⟨_, rfl⟩ dX7_fewestIllsByLast_27 ?_
    refine f_7_56 (pc := 28) hk (rfl) dX7_fewestIllsByLast_28 ?_
    refine j_aload_n (pc := 31) hk 0 rfl ⟨_, rfl⟩ dX7_fewestIllsByLast_31 ?_
    refine f_7_49 (pc := 32) hk (rfl) dX7_fewestIllsByLast_32 ?_
    refine j_callVNv (pc := 35) hk [fk_r g 38] [] rfl (fun l o hq9 => C6_speak 40 (rfl) st2 l o hq9) (rcv_6 (rfl)) yv_X6_speak ml_7_158 rfl (Nat.le_of_ble_eq_true rfl) (Nat.le_of_ble_eq_true rfl) (Nat.le_of_ble_eq_true rfl) dX7_fewestIllsByLast_35 (fun _ st3 => ?_)
    refine j_aload_n (pc := 38) hk 0 rfl ⟨_, rfl⟩ dX7_fewestIllsByLast_38 ?_
    refine f_7_18 (pc := 39) hk (rfl) dX7_fewestIllsByLast_39 ?_
    refine j_aload_n (pc := 42) hk 0 rfl ⟨_, rfl⟩ dX7_fewestIllsByLast_42 ?_
    refine f_7_56 (pc := 43) hk (rfl) dX7_fewestIllsByLast_43 ?_
    refine j_callVNi (pc := 46) hk [fk_r g 40] [] rfl (fun l o hq9 => C0_illsOf 19 40 (rfl) (rfl) st3 l o hq9) (rcv_0 (rfl)) yv_X0_illsOf ml_7_221 rfl (Nat.le_of_ble_eq_true rfl) (Nat.le_of_ble_eq_true rfl) (Nat.le_of_ble_eq_true rfl) dX7_fewestIllsByLast_46 (fun x4 st5 => ?_)
    refine j_istore_n (lv' := ((3, .int x4) :: [(0, fk_r g 0), (1, .int v1), (2, .int v2)])) (pc := 49) hk rfl (by decide) rfl dX7_fewestIllsByLast_49 ?_
    refine j_sub hk (lv' := [(0, fk_r g 0), (1, .int v1), (2, .int v2), (3, .int x4)]) [1, 2, 3, 0] rfl ?_
    refine j_iload_n (pc := 50) hk 1 rfl dX7_fewestIllsByLast_50 ?_
    refine j_iconst (pc := 51) hk dX7_fewestIllsByLast_51 (v := -1) (by decide) ?_
    refine j_icmp_ne (tgt := 59) (pc := 52) hk (by decide) dX7_fewestIllsByLast_52 (fun _ => ?_) (fun _ => ?_)
    · refine j_iload_n (pc := 55) hk 3 rfl dX7_fewestIllsByLast_55 ?_
      refine j_goto (tgt := 64) (pc := 56) hk (by decide) dX7_fewestIllsByLast_56 ?_
      exact j_sub hk [0, 2] rfl (T7_fewestIllsByLast_64 hk k4 H4 v2 x4 st5)
    · refine j_iload_n (pc := 59) hk 1 rfl dX7_fewestIllsByLast_59 ?_
      refine j_iload_n (pc := 60) hk 3 rfl dX7_fewestIllsByLast_60 ?_
      refine j_mmin (pc := 61) hk ml_7_338 wd_min1 wd_math wd_min2 (Nat.le_of_ble_eq_true rfl) (Nat.le_of_ble_eq_true rfl) dX7_fewestIllsByLast_61 ?_
      exact j_sub hk [0, 2] rfl (T7_fewestIllsByLast_64 hk k4 H4 v2 (fk_min v1 x4) st5)
set_option maxHeartbeats 1000000 in
set_option maxRecDepth 20000 in
theorem L7_fewestIllsByLast_4 {g : fkG} {k : fkK} (hk : fk_ok wC g k RX7 cX7_fewestIllsByLast 4 (some (.int)) 3 143) (fu : Nat) : ∀ (v1 : Int32) (v2 : Int32) (st : fkS), fk_J wC g fk_eI k 4 [(0, fk_r g 0), (1, .int v1), (2, .int v2)] [] st (fk_lp2 (B7_fewestIllsByLast_4) fu v1 v2 st) := by
  induction fu with
  | zero =>
    intro v1 v2 st
    exact j_none hk
  | succ fu ih =>
    exact T7_fewestIllsByLast_4 hk _ ih
def F7_fewestIllsByLast (st : fkS) : Option (Int32 × fkS) :=
 fk_lp2 (B7_fewestIllsByLast_4) fk_fuel (-1 : Int32) (0 : Int32) st
set_option maxHeartbeats 1000000 in
set_option maxRecDepth 20000 in
theorem C7_fewestIllsByLast (st : fkS) {g : fkG} (l : Launch) (o : Int32 × fkS) (hF : F7_fewestIllsByLast st = some o) : fk_C wC yX7_fewestIllsByLast cX7_fewestIllsByLast 4 (some (.int)) 3 143 l g [fk_r g 0] st (fk_eI o.1) o.2 := by
  refine fk_begin rfl (Nat.le_of_ble_eq_true rfl) (fun k hk => ?_) o hF
  have hk : fk_ok wC g k RX7 cX7_fewestIllsByLast 4 (some (.int)) 3 143 := hk
  show fk_J wC g fk_eI k 0 [(0, fk_r g 0)] [] st (F7_fewestIllsByLast st)
  unfold F7_fewestIllsByLast
  refine j_iconst (pc := 0) hk dX7_fewestIllsByLast_0 (v := -1) (by decide) ?_
  refine j_istore_n (lv' := ((1, .int (-1 : Int32)) :: [(0, fk_r g 0)])) (pc := 1) hk rfl (by decide) rfl dX7_fewestIllsByLast_1 ?_
  refine j_sub hk (lv' := [(0, fk_r g 0), (1, .int (-1 : Int32))]) [1, 0] rfl ?_
  refine j_iconst (pc := 2) hk dX7_fewestIllsByLast_2 (v := 0) (by decide) ?_
  refine j_istore_n (lv' := ((2, .int (0 : Int32)) :: [(0, fk_r g 0), (1, .int (-1 : Int32))])) (pc := 3) hk rfl (by decide) rfl dX7_fewestIllsByLast_3 ?_
  refine j_sub hk (lv' := [(0, fk_r g 0), (1, .int (-1 : Int32)), (2, .int (0 : Int32))]) [1, 2, 0] rfl ?_
  exact j_sub hk [0, 1, 2] rfl (L7_fewestIllsByLast_4 hk fk_fuel (-1 : Int32) (0 : Int32) st)
theorem dX7_kings_0 : decode cX7_kings 0 = .ok (.aload_n 0, 1) := by decide +kernel
theorem dX7_kings_1 : decode cX7_kings 1 = .ok (.iload_n 1, 1) := by decide +kernel
theorem dX7_kings_2 : decode cX7_kings 2 = .ok (.iload_n 2, 1) := by decide +kernel
theorem dX7_kings_3 : decode cX7_kings 3 = .ok (.iload_n 3, 1) := by decide +kernel
theorem dX7_kings_4 : decode cX7_kings 4 = .ok (.iconst 1, 1) := by decide +kernel
theorem dX7_kings_5 : decode cX7_kings 5 = .ok (.invokevirtual 213, 3) := by decide +kernel
theorem dX7_kings_8 : decode cX7_kings 8 = .ok (.istore 4, 2) := by decide +kernel
theorem dX7_kings_10 : decode cX7_kings 10 = .ok (.iload 4, 2) := by decide +kernel
theorem dX7_kings_12 : decode cX7_kings 12 = .ok (.ifCond .eq 10, 3) := by decide +kernel
theorem dX7_kings_15 : decode cX7_kings 15 = .ok (.aload_n 0, 1) := by decide +kernel
theorem dX7_kings_16 : decode cX7_kings 16 = .ok (.iload 4, 2) := by decide +kernel
theorem dX7_kings_18 : decode cX7_kings 18 = .ok (.invokevirtual 79, 3) := by decide +kernel
theorem dX7_kings_21 : decode cX7_kings 21 = .ok (.ireturn, 1) := by decide +kernel
theorem dX7_kings_22 : decode cX7_kings 22 = .ok (.aload_n 0, 1) := by decide +kernel
theorem dX7_kings_23 : decode cX7_kings 23 = .ok (.getfield 49, 3) := by decide +kernel
theorem dX7_kings_26 : decode cX7_kings 26 = .ok (.getfield 228, 3) := by decide +kernel
theorem dX7_kings_29 : decode cX7_kings 29 = .ok (.ifCond .ne 10, 3) := by decide +kernel
theorem dX7_kings_32 : decode cX7_kings 32 = .ok (.aload_n 0, 1) := by decide +kernel
theorem dX7_kings_33 : decode cX7_kings 33 = .ok (.bipush (-6), 2) := by decide +kernel
theorem dX7_kings_35 : decode cX7_kings 35 = .ok (.invokevirtual 79, 3) := by decide +kernel
theorem dX7_kings_38 : decode cX7_kings 38 = .ok (.ireturn, 1) := by decide +kernel
theorem dX7_kings_39 : decode cX7_kings 39 = .ok (.aload_n 0, 1) := by decide +kernel
theorem dX7_kings_40 : decode cX7_kings 40 = .ok (.getfield 56, 3) := by decide +kernel
theorem dX7_kings_43 : decode cX7_kings 43 = .ok (.aload_n 0, 1) := by decide +kernel
theorem dX7_kings_44 : decode cX7_kings 44 = .ok (.getfield 18, 3) := by decide +kernel
theorem dX7_kings_47 : decode cX7_kings 47 = .ok (.iload_n 2, 1) := by decide +kernel
theorem dX7_kings_48 : decode cX7_kings 48 = .ok (.invokevirtual 148, 3) := by decide +kernel
theorem dX7_kings_51 : decode cX7_kings 51 = .ok (.iconst (-1), 1) := by decide +kernel
theorem dX7_kings_52 : decode cX7_kings 52 = .ok (.istore 5, 2) := by decide +kernel
theorem dX7_kings_54 : decode cX7_kings 54 = .ok (.iconst 0, 1) := by decide +kernel
theorem dX7_kings_55 : decode cX7_kings 55 = .ok (.istore 6, 2) := by decide +kernel
theorem dX7_kings_57 : decode cX7_kings 57 = .ok (.iconst 0, 1) := by decide +kernel
theorem dX7_kings_58 : decode cX7_kings 58 = .ok (.istore 7, 2) := by decide +kernel
theorem dX7_kings_60 : decode cX7_kings 60 = .ok (.iload 7, 2) := by decide +kernel
theorem dX7_kings_62 : decode cX7_kings 62 = .ok (.bipush 10, 2) := by decide +kernel
theorem dX7_kings_64 : decode cX7_kings 64 = .ok (.if_icmp .ge 39, 3) := by decide +kernel
theorem dX7_kings_67 : decode cX7_kings 67 = .ok (.aload_n 0, 1) := by decide +kernel
theorem dX7_kings_68 : decode cX7_kings 68 = .ok (.getfield 56, 3) := by decide +kernel
theorem dX7_kings_71 : decode cX7_kings 71 = .ok (.iload 7, 2) := by decide +kernel
theorem dX7_kings_73 : decode cX7_kings 73 = .ok (.putfield 270, 3) := by decide +kernel
theorem dX7_kings_76 : decode cX7_kings 76 = .ok (.aload_n 0, 1) := by decide +kernel
theorem dX7_kings_77 : decode cX7_kings 77 = .ok (.invokevirtual 271, 3) := by decide +kernel
theorem dX7_kings_80 : decode cX7_kings 80 = .ok (.istore 8, 2) := by decide +kernel
theorem dX7_kings_82 : decode cX7_kings 82 = .ok (.iload 8, 2) := by decide +kernel
theorem dX7_kings_84 : decode cX7_kings 84 = .ok (.iload 5, 2) := by decide +kernel
theorem dX7_kings_86 : decode cX7_kings 86 = .ok (.if_icmp .le 11, 3) := by decide +kernel
theorem dX7_kings_89 : decode cX7_kings 89 = .ok (.iload 8, 2) := by decide +kernel
theorem dX7_kings_91 : decode cX7_kings 91 = .ok (.istore 5, 2) := by decide +kernel
theorem dX7_kings_93 : decode cX7_kings 93 = .ok (.iload 7, 2) := by decide +kernel
theorem dX7_kings_95 : decode cX7_kings 95 = .ok (.istore 6, 2) := by decide +kernel
theorem dX7_kings_97 : decode cX7_kings 97 = .ok (.iinc 7 1, 3) := by decide +kernel
theorem dX7_kings_100 : decode cX7_kings 100 = .ok (.goto (-40), 3) := by decide +kernel
theorem dX7_kings_103 : decode cX7_kings 103 = .ok (.iload_n 3, 1) := by decide +kernel
theorem dX7_kings_104 : decode cX7_kings 104 = .ok (.ifCond .ne 8, 3) := by decide +kernel
theorem dX7_kings_107 : decode cX7_kings 107 = .ok (.iload 5, 2) := by decide +kernel
theorem dX7_kings_109 : decode cX7_kings 109 = .ok (.goto 5, 3) := by decide +kernel
theorem dX7_kings_112 : decode cX7_kings 112 = .ok (.iload 6, 2) := by decide +kernel
theorem dX7_kings_114 : decode cX7_kings 114 = .ok (.ireturn, 1) := by decide +kernel
def B7_kings_97 (k60 : Int32 → Int32 → Int32 → Int32 → fkS → Option (Int32 × fkS)) (v3 : Int32) (v5 : Int32) (v6 : Int32) (v7 : Int32) (st : fkS) : Option (Int32 × fkS) :=
 k60 v3 v5 v6 (v7 + (1 : Int32)) st
set_option maxHeartbeats 1000000 in
set_option maxRecDepth 20000 in
theorem T7_kings_97 {g : fkG} {k : fkK} (hk : fk_ok wC g k RX7 cX7_kings 9 (some (.int)) 4 166) (k60 : Int32 → Int32 → Int32 → Int32 → fkS → Option (Int32 × fkS)) (H60 : ∀ (v3 : Int32) (v5 : Int32) (v6 : Int32) (v7 : Int32) (st : fkS), fk_J wC g fk_eI k 60 [(0, fk_r g 0), (3, .int v3), (5, .int v5), (6, .int v6), (7, .int v7)] [] st (k60 v3 v5 v6 v7 st)) : ∀ (v3 : Int32) (v5 : Int32) (v6 : Int32) (v7 : Int32) (st : fkS), fk_J wC g fk_eI k 97 [(0, fk_r g 0), (3, .int v3), (5, .int v5), (6, .int v6), (7, .int v7)] [] st (B7_kings_97 k60 v3 v5 v6 v7 st) := by
  intro v3 v5 v6 v7 st
  unfold B7_kings_97
  refine j_iinc (dd := (1 : Int32)) (lv' := ((7, .int (v7 + (1 : Int32))) :: [(0, fk_r g 0), (3, .int v3), (5, .int v5), (6, .int v6)])) (pc := 97) hk 4 rfl (by decide) (by decide) rfl dX7_kings_97 ?_
  refine j_sub hk (lv' := [(0, fk_r g 0), (3, .int v3), (5, .int v5), (6, .int v6), (7, .int (v7 + (1 : Int32)))]) [1, 2, 3, 4, 0] rfl ?_
  refine j_goto (tgt := 60) (pc := 100) hk (by decide) dX7_kings_100 ?_
  exact j_sub hk [0, 1, 2, 3, 4] rfl (H60 v3 v5 v6 (v7 + (1 : Int32)) st)
def B7_kings_60 (k60 : Int32 → Int32 → Int32 → Int32 → fkS → Option (Int32 × fkS)) (v3 : Int32) (v5 : Int32) (v6 : Int32) (v7 : Int32) (st : fkS) : Option (Int32 × fkS) :=
 if (10 : Int32) ≤ v7 then
 (if v3 = 0 then
 (some (v5, st))
 else
 (some (v6, st)))
 else
 (fk_let (sI st 123 40 v7) <| fun st9 =>
 fk_bind (F7_fewestIllsByLast st9) <| fun x10 st11 =>
 if x10 ≤ v5 then
 (B7_kings_97 k60 v3 v5 v6 v7 st11)
 else
 (B7_kings_97 k60 v3 x10 v7 v7 st11))
set_option maxHeartbeats 1000000 in
set_option maxRecDepth 20000 in
theorem T7_kings_60 {g : fkG} {k : fkK} (hk : fk_ok wC g k RX7 cX7_kings 9 (some (.int)) 4 166) (k60 : Int32 → Int32 → Int32 → Int32 → fkS → Option (Int32 × fkS)) (H60 : ∀ (v3 : Int32) (v5 : Int32) (v6 : Int32) (v7 : Int32) (st : fkS), fk_J wC g fk_eI k 60 [(0, fk_r g 0), (3, .int v3), (5, .int v5), (6, .int v6), (7, .int v7)] [] st (k60 v3 v5 v6 v7 st)) : ∀ (v3 : Int32) (v5 : Int32) (v6 : Int32) (v7 : Int32) (st : fkS), fk_J wC g fk_eI k 60 [(0, fk_r g 0), (3, .int v3), (5, .int v5), (6, .int v6), (7, .int v7)] [] st (B7_kings_60 k60 v3 v5 v6 v7 st) := by
  intro v3 v5 v6 v7 st
  unfold B7_kings_60
  refine j_iload (pc := 60) hk 4 rfl dX7_kings_60 ?_
  refine j_bipush (pc := 62) hk dX7_kings_62 (v := 10) (by decide) ?_
  refine j_icmp_ge (tgt := 103) (pc := 64) hk (by decide) dX7_kings_64 (fun _ => ?_) (fun _ => ?_)
  · refine j_iload_n (pc := 103) hk 1 rfl dX7_kings_103 ?_
    refine j_if_ne (tgt := 112) (pc := 104) hk (by decide) dX7_kings_104 (fun _ => ?_) (fun _ => ?_)
    · refine j_iload (pc := 107) hk 2 rfl dX7_kings_107 ?_
      refine j_goto (tgt := 114) (pc := 109) hk (by decide) dX7_kings_109 ?_
      exact j_iret (pc := 114) hk dX7_kings_114
    · refine j_iload (pc := 112) hk 3 rfl dX7_kings_112 ?_
      exact j_iret (pc := 114) hk dX7_kings_114
  · refine j_aload_n (pc := 67) hk 0 rfl ⟨_, rfl⟩ dX7_kings_67 ?_
    refine f_7_56 (pc := 68) hk (rfl) dX7_kings_68 ?_
    refine j_iload (pc := 71) hk 4 rfl dX7_kings_71 ?_
    refine p_7_270 (pc := 73) hk (rfl) dX7_kings_73 (fun st9 => ?_)
    refine j_aload_n (pc := 76) hk 0 rfl ⟨_, rfl⟩ dX7_kings_76 ?_
    refine j_callVi (pc := 77) hk [] [] rfl (fun l o hq9 => C7_fewestIllsByLast st9 l o hq9) (rcv_7 (rfl)) yv_X7_fewestIllsByLast ml_7_271 rfl (Nat.le_of_ble_eq_true rfl) (Nat.le_of_ble_eq_true rfl) (Nat.le_of_ble_eq_true rfl) dX7_kings_77 (fun x10 st11 => ?_)
    refine j_istore (lv' := ((8, .int x10) :: [(0, fk_r g 0), (3, .int v3), (5, .int v5), (6, .int v6), (7, .int v7)])) (pc := 80) hk (by decide) rfl dX7_kings_80 ?_
    refine j_sub hk (lv' := [(0, fk_r g 0), (3, .int v3), (5, .int v5), (6, .int v6), (7, .int v7), (8, .int x10)]) [1, 2, 3, 4, 5, 0] rfl ?_
    refine j_iload (pc := 82) hk 5 rfl dX7_kings_82 ?_
    refine j_iload (pc := 84) hk 2 rfl dX7_kings_84 ?_
    refine j_icmp_le (tgt := 97) (pc := 86) hk (by decide) dX7_kings_86 (fun _ => ?_) (fun _ => ?_)
    · exact j_sub hk [0, 1, 2, 3, 4] rfl (T7_kings_97 hk k60 H60 v3 v5 v6 v7 st11)
    · refine j_iload (pc := 89) hk 5 rfl dX7_kings_89 ?_
      refine j_istore (lv' := ((5, .int x10) :: [(0, fk_r g 0), (3, .int v3), (6, .int v6), (7, .int v7), (8, .int x10)])) (pc := 91) hk (by decide) rfl dX7_kings_91 ?_
      refine j_sub hk (lv' := [(0, fk_r g 0), (3, .int v3), (5, .int x10), (6, .int v6), (7, .int v7), (8, .int x10)]) [1, 2, 0, 3, 4, 5] rfl ?_
      refine j_iload (pc := 93) hk 4 rfl dX7_kings_93 ?_
      refine j_istore (lv' := ((6, .int v7) :: [(0, fk_r g 0), (3, .int v3), (5, .int x10), (7, .int v7), (8, .int x10)])) (pc := 95) hk (by decide) rfl dX7_kings_95 ?_
      refine j_sub hk (lv' := [(0, fk_r g 0), (3, .int v3), (5, .int x10), (6, .int v7), (7, .int v7), (8, .int x10)]) [1, 2, 3, 0, 4, 5] rfl ?_
      exact j_sub hk [0, 1, 2, 3, 4] rfl (T7_kings_97 hk k60 H60 v3 x10 v7 v7 st11)
set_option maxHeartbeats 1000000 in
set_option maxRecDepth 20000 in
theorem L7_kings_60 {g : fkG} {k : fkK} (hk : fk_ok wC g k RX7 cX7_kings 9 (some (.int)) 4 166) (fu : Nat) : ∀ (v3 : Int32) (v5 : Int32) (v6 : Int32) (v7 : Int32) (st : fkS), fk_J wC g fk_eI k 60 [(0, fk_r g 0), (3, .int v3), (5, .int v5), (6, .int v6), (7, .int v7)] [] st (fk_lp4 (B7_kings_60) fu v3 v5 v6 v7 st) := by
  induction fu with
  | zero =>
    intro v3 v5 v6 v7 st
    exact j_none hk
  | succ fu ih =>
    exact T7_kings_60 hk _ ih
def F7_kings (p1 : Int32) (p2 : Int32) (p3 : Int32) (st : fkS) : Option (Int32 × fkS) :=
 fk_bind (F7_noPieOfWhat p1 p2 p3 (1 : Int32) st) <| fun x1 st2 =>
 if x1 = 0 then
 (fk_let (gI st2 61 38) <| fun x3 =>
 if x3 = 0 then
 (fk_bind (F7_refuse (-6 : Int32) st2) <| fun x4 st5 =>
 some (x4, st5))
 else
 (fk_bind (F6_take 40 19 p2 st2) <| fun _ st6 =>
 fk_lp4 (B7_kings_60) fk_fuel p3 (-1 : Int32) (0 : Int32) (0 : Int32) st6))
 else
 (fk_bind (F7_refuse x1 st2) <| fun x7 st8 =>
 some (x7, st8))
set_option maxHeartbeats 1000000 in
set_option maxRecDepth 20000 in
theorem C7_kings (p1 : Int32) (p2 : Int32) (p3 : Int32) (st : fkS) {g : fkG} (l : Launch) (o : Int32 × fkS) (hF : F7_kings p1 p2 p3 st = some o) : fk_C wC yX7_kings cX7_kings 9 (some (.int)) 4 166 l g [fk_r g 0, .int p1, .int p2, .int p3] st (fk_eI o.1) o.2 := by
  refine fk_begin rfl (Nat.le_of_ble_eq_true rfl) (fun k hk => ?_) o hF
  have hk : fk_ok wC g k RX7 cX7_kings 9 (some (.int)) 4 166 := hk
  show fk_J wC g fk_eI k 0 [(0, fk_r g 0), (1, .int p1), (2, .int p2), (3, .int p3)] [] st (F7_kings p1 p2 p3 st)
  unfold F7_kings
  refine j_aload_n (pc := 0) hk 0 rfl ⟨_, rfl⟩ dX7_kings_0 ?_
  refine j_iload_n (pc := 1) hk 1 rfl dX7_kings_1 ?_
  refine j_iload_n (pc := 2) hk 2 rfl dX7_kings_2 ?_
  refine j_iload_n (pc := 3) hk 3 rfl dX7_kings_3 ?_
  refine j_iconst (pc := 4) hk dX7_kings_4 (v := 1) (by decide) ?_
  refine j_callVi (pc := 5) hk [.int p1, .int p2, .int p3, .int (1 : Int32)] [] rfl (fun l o hq9 => C7_noPieOfWhat p1 p2 p3 (1 : Int32) st l o hq9) (rcv_7 (rfl)) yv_X7_noPieOfWhat ml_7_213 rfl (Nat.le_of_ble_eq_true rfl) (Nat.le_of_ble_eq_true rfl) (Nat.le_of_ble_eq_true rfl) dX7_kings_5 (fun x1 st2 => ?_)
  refine j_istore (lv' := ((4, .int x1) :: [(0, fk_r g 0), (1, .int p1), (2, .int p2), (3, .int p3)])) (pc := 8) hk (by decide) rfl dX7_kings_8 ?_
  refine j_sub hk (lv' := [(0, fk_r g 0), (1, .int p1), (2, .int p2), (3, .int p3), (4, .int x1)]) [1, 2, 3, 4, 0] rfl ?_
  refine j_iload (pc := 10) hk 4 rfl dX7_kings_10 ?_
  refine j_if_eq (tgt := 22) (pc := 12) hk (by decide) dX7_kings_12 (fun _ => ?_) (fun _ => ?_)
  · refine j_aload_n (pc := 22) hk 0 rfl ⟨_, rfl⟩ dX7_kings_22 ?_
    refine f_7_49 (pc := 23) hk (rfl) dX7_kings_23 ?_
    refine f_7_228 (pc := 26) hk (rfl) dX7_kings_26 (fun x3 => ?_)
    refine j_if_ne (tgt := 39) (pc := 29) hk (by decide) dX7_kings_29 (fun _ => ?_) (fun _ => ?_)
    · refine j_aload_n (pc := 32) hk 0 rfl ⟨_, rfl⟩ dX7_kings_32 ?_
      refine j_bipush (pc := 33) hk dX7_kings_33 (v := -6) (by decide) ?_
      refine j_callVi (pc := 35) hk [.int (-6 : Int32)] [] rfl (fun l o hq9 => C7_refuse (-6 : Int32) st2 l o hq9) (rcv_7 (rfl)) yv_X7_refuse ml_7_79 rfl (Nat.le_of_ble_eq_true rfl) (Nat.le_of_ble_eq_true rfl) (Nat.le_of_ble_eq_true rfl) dX7_kings_35 (fun x4 st5 => ?_)
      exact j_iret (pc := 38) hk dX7_kings_38
    · refine j_aload_n (pc := 39) hk 0 rfl ⟨_, rfl⟩ dX7_kings_39 ?_
      refine f_7_56 (pc := 40) hk (rfl) dX7_kings_40 ?_
      refine j_aload_n (pc := 43) hk 0 rfl ⟨_, rfl⟩ dX7_kings_43 ?_
      refine f_7_18 (pc := 44) hk (rfl) dX7_kings_44 ?_
      refine j_iload_n (pc := 47) hk 2 rfl dX7_kings_47 ?_
      refine j_callVNv (pc := 48) hk [fk_r g 19, .int p2] [] rfl (fun l o hq9 => C6_take 40 19 (rfl) (rfl) p2 st2 l o hq9) (rcv_6 (rfl)) yv_X6_take ml_7_148 rfl (Nat.le_of_ble_eq_true rfl) (Nat.le_of_ble_eq_true rfl) (Nat.le_of_ble_eq_true rfl) dX7_kings_48 (fun _ st6 => ?_)
      refine j_iconst (pc := 51) hk dX7_kings_51 (v := -1) (by decide) ?_
      refine j_istore (lv' := ((5, .int (-1 : Int32)) :: [(0, fk_r g 0), (1, .int p1), (2, .int p2), (3, .int p3), (4, .int x1)])) (pc := 52) hk (by decide) rfl dX7_kings_52 ?_
      refine j_sub hk (lv' := [(0, fk_r g 0), (1, .int p1), (2, .int p2), (3, .int p3), (4, .int x1), (5, .int (-1 : Int32))]) [1, 2, 3, 4, 5, 0] rfl ?_
      refine j_iconst (pc := 54) hk dX7_kings_54 (v := 0) (by decide) ?_
      refine j_istore (lv' := ((6, .int (0 : Int32)) :: [(0, fk_r g 0), (1, .int p1), (2, .int p2), (3, .int p3), (4, .int x1), (5, .int (-1 : Int32))])) (pc := 55) hk (by decide) rfl dX7_kings_55 ?_
      refine j_sub hk (lv' := [(0, fk_r g 0), (1, .int p1), (2, .int p2), (3, .int p3), (4, .int x1), (5, .int (-1 : Int32)), (6, .int (0 : Int32))]) [1, 2, 3, 4, 5, 6, 0] rfl ?_
      refine j_iconst (pc := 57) hk dX7_kings_57 (v := 0) (by decide) ?_
      refine j_istore (lv' := ((7, .int (0 : Int32)) :: [(0, fk_r g 0), (1, .int p1), (2, .int p2), (3, .int p3), (4, .int x1), (5, .int (-1 : Int32)), (6, .int (0 : Int32))])) (pc := 58) hk (by decide) rfl dX7_kings_58 ?_
      refine j_sub hk (lv' := [(0, fk_r g 0), (1, .int p1), (2, .int p2), (3, .int p3), (4, .int x1), (5, .int (-1 : Int32)), (6, .int (0 : Int32)), (7, .int (0 : Int32))]) [1, 2, 3, 4, 5, 6, 7, 0] rfl ?_
      exact j_sub hk [0, 3, 5, 6, 7] rfl (L7_kings_60 hk fk_fuel p3 (-1 : Int32) (0 : Int32) (0 : Int32) st6)
  · refine j_aload_n (pc := 15) hk 0 rfl ⟨_, rfl⟩ dX7_kings_15 ?_
    refine j_iload (pc := 16) hk 4 rfl dX7_kings_16 ?_
    refine j_callVi (pc := 18) hk [.int x1] [] rfl (fun l o hq9 => C7_refuse x1 st2 l o hq9) (rcv_7 (rfl)) yv_X7_refuse ml_7_79 rfl (Nat.le_of_ble_eq_true rfl) (Nat.le_of_ble_eq_true rfl) (Nat.le_of_ble_eq_true rfl) dX7_kings_18 (fun x7 st8 => ?_)
    exact j_iret (pc := 21) hk dX7_kings_21
theorem dX7_tribes_0 : decode cX7_tribes 0 = .ok (.aload_n 0, 1) := by decide +kernel
theorem dX7_tribes_1 : decode cX7_tribes 1 = .ok (.iload_n 1, 1) := by decide +kernel
theorem dX7_tribes_2 : decode cX7_tribes 2 = .ok (.iload_n 2, 1) := by decide +kernel
theorem dX7_tribes_3 : decode cX7_tribes 3 = .ok (.invokevirtual 98, 3) := by decide +kernel
theorem dX7_tribes_6 : decode cX7_tribes 6 = .ok (.istore 4, 2) := by decide +kernel
theorem dX7_tribes_8 : decode cX7_tribes 8 = .ok (.iload 4, 2) := by decide +kernel
theorem dX7_tribes_10 : decode cX7_tribes 10 = .ok (.ifCond .eq 10, 3) := by decide +kernel
theorem dX7_tribes_13 : decode cX7_tribes 13 = .ok (.aload_n 0, 1) := by decide +kernel
theorem dX7_tribes_14 : decode cX7_tribes 14 = .ok (.iload 4, 2) := by decide +kernel
theorem dX7_tribes_16 : decode cX7_tribes 16 = .ok (.invokevirtual 139, 3) := by decide +kernel
theorem dX7_tribes_19 : decode cX7_tribes 19 = .ok (.ireturn, 1) := by decide +kernel
theorem dX7_tribes_20 : decode cX7_tribes 20 = .ok (.aload_n 0, 1) := by decide +kernel
theorem dX7_tribes_21 : decode cX7_tribes 21 = .ok (.getfield 49, 3) := by decide +kernel
theorem dX7_tribes_24 : decode cX7_tribes 24 = .ok (.aload_n 0, 1) := by decide +kernel
theorem dX7_tribes_25 : decode cX7_tribes 25 = .ok (.getfield 11, 3) := by decide +kernel
theorem dX7_tribes_28 : decode cX7_tribes 28 = .ok (.iload_n 1, 1) := by decide +kernel
theorem dX7_tribes_29 : decode cX7_tribes 29 = .ok (.aaload, 1) := by decide +kernel
theorem dX7_tribes_30 : decode cX7_tribes 30 = .ok (.iconst 0, 1) := by decide +kernel
theorem dX7_tribes_31 : decode cX7_tribes 31 = .ok (.invokevirtual 234, 3) := by decide +kernel
theorem dX7_tribes_34 : decode cX7_tribes 34 = .ok (.ifCond .eq 19, 3) := by decide +kernel
theorem dX7_tribes_37 : decode cX7_tribes 37 = .ok (.aload_n 0, 1) := by decide +kernel
theorem dX7_tribes_38 : decode cX7_tribes 38 = .ok (.getfield 66, 3) := by decide +kernel
theorem dX7_tribes_41 : decode cX7_tribes 41 = .ok (.aload_n 0, 1) := by decide +kernel
theorem dX7_tribes_42 : decode cX7_tribes 42 = .ok (.getfield 11, 3) := by decide +kernel
theorem dX7_tribes_45 : decode cX7_tribes 45 = .ok (.iload_n 2, 1) := by decide +kernel
theorem dX7_tribes_46 : decode cX7_tribes 46 = .ok (.aaload, 1) := by decide +kernel
theorem dX7_tribes_47 : decode cX7_tribes 47 = .ok (.invokevirtual 274, 3) := by decide +kernel
theorem dX7_tribes_50 : decode cX7_tribes 50 = .ok (.ifCond .ne 10, 3) := by decide +kernel
theorem dX7_tribes_53 : decode cX7_tribes 53 = .ok (.aload_n 0, 1) := by decide +kernel
theorem dX7_tribes_54 : decode cX7_tribes 54 = .ok (.bipush (-6), 2) := by decide +kernel
theorem dX7_tribes_56 : decode cX7_tribes 56 = .ok (.invokevirtual 139, 3) := by decide +kernel
theorem dX7_tribes_59 : decode cX7_tribes 59 = .ok (.ireturn, 1) := by decide +kernel
theorem dX7_tribes_60 : decode cX7_tribes 60 = .ok (.iload_n 3, 1) := by decide +kernel
theorem dX7_tribes_61 : decode cX7_tribes 61 = .ok (.iconst (-1), 1) := by decide +kernel
theorem dX7_tribes_62 : decode cX7_tribes 62 = .ok (.if_icmp .eq 25, 3) := by decide +kernel
theorem dX7_tribes_65 : decode cX7_tribes 65 = .ok (.iload_n 3, 1) := by decide +kernel
theorem dX7_tribes_66 : decode cX7_tribes 66 = .ok (.ifCond .lt 14, 3) := by decide +kernel
theorem dX7_tribes_69 : decode cX7_tribes 69 = .ok (.iload_n 3, 1) := by decide +kernel
theorem dX7_tribes_70 : decode cX7_tribes 70 = .ok (.aload_n 0, 1) := by decide +kernel
theorem dX7_tribes_71 : decode cX7_tribes 71 = .ok (.getfield 66, 3) := by decide +kernel
theorem dX7_tribes_74 : decode cX7_tribes 74 = .ok (.getfield 277, 3) := by decide +kernel
theorem dX7_tribes_77 : decode cX7_tribes 77 = .ok (.if_icmp .lt 10, 3) := by decide +kernel
theorem dX7_tribes_80 : decode cX7_tribes 80 = .ok (.aload_n 0, 1) := by decide +kernel
theorem dX7_tribes_81 : decode cX7_tribes 81 = .ok (.bipush (-5), 2) := by decide +kernel
theorem dX7_tribes_83 : decode cX7_tribes 83 = .ok (.invokevirtual 139, 3) := by decide +kernel
theorem dX7_tribes_86 : decode cX7_tribes 86 = .ok (.ireturn, 1) := by decide +kernel
theorem dX7_tribes_87 : decode cX7_tribes 87 = .ok (.iconst 0, 1) := by decide +kernel
theorem dX7_tribes_88 : decode cX7_tribes 88 = .ok (.istore 5, 2) := by decide +kernel
theorem dX7_tribes_90 : decode cX7_tribes 90 = .ok (.iload 5, 2) := by decide +kernel
theorem dX7_tribes_92 : decode cX7_tribes 92 = .ok (.aload_n 0, 1) := by decide +kernel
theorem dX7_tribes_93 : decode cX7_tribes 93 = .ok (.getfield 18, 3) := by decide +kernel
theorem dX7_tribes_96 : decode cX7_tribes 96 = .ok (.getfield 171, 3) := by decide +kernel
theorem dX7_tribes_99 : decode cX7_tribes 99 = .ok (.if_icmp .ge 60, 3) := by decide +kernel
theorem dX7_tribes_102 : decode cX7_tribes 102 = .ok (.aload_n 0, 1) := by decide +kernel
theorem dX7_tribes_103 : decode cX7_tribes 103 = .ok (.getfield 56, 3) := by decide +kernel
theorem dX7_tribes_106 : decode cX7_tribes 106 = .ok (.aload_n 0, 1) := by decide +kernel
theorem dX7_tribes_107 : decode cX7_tribes 107 = .ok (.getfield 18, 3) := by decide +kernel
theorem dX7_tribes_110 : decode cX7_tribes 110 = .ok (.iload 5, 2) := by decide +kernel
theorem dX7_tribes_112 : decode cX7_tribes 112 = .ok (.invokevirtual 148, 3) := by decide +kernel
theorem dX7_tribes_115 : decode cX7_tribes 115 = .ok (.aload_n 0, 1) := by decide +kernel
theorem dX7_tribes_116 : decode cX7_tribes 116 = .ok (.getfield 56, 3) := by decide +kernel
theorem dX7_tribes_119 : decode cX7_tribes 119 = .ok (.aload_n 0, 1) := by decide +kernel
theorem dX7_tribes_120 : decode cX7_tribes 120 = .ok (.getfield 49, 3) := by decide +kernel
theorem dX7_tribes_123 : decode cX7_tribes 123 = .ok (.invokevirtual 158, 3) := by decide +kernel
theorem dX7_tribes_126 : decode cX7_tribes 126 = .ok (.aload_n 0, 1) := by decide +kernel
theorem dX7_tribes_127 : decode cX7_tribes 127 = .ok (.getfield 66, 3) := by decide +kernel
theorem dX7_tribes_130 : decode cX7_tribes 130 = .ok (.iload 5, 2) := by decide +kernel
theorem dX7_tribes_132 : decode cX7_tribes 132 = .ok (.aload_n 0, 1) := by decide +kernel
theorem dX7_tribes_133 : decode cX7_tribes 133 = .ok (.getfield 18, 3) := by decide +kernel
theorem dX7_tribes_136 : decode cX7_tribes 136 = .ok (.aload_n 0, 1) := by decide +kernel
theorem dX7_tribes_137 : decode cX7_tribes 137 = .ok (.getfield 56, 3) := by decide +kernel
theorem dX7_tribes_140 : decode cX7_tribes 140 = .ok (.aload_n 0, 1) := by decide +kernel
theorem dX7_tribes_141 : decode cX7_tribes 141 = .ok (.getfield 18, 3) := by decide +kernel
theorem dX7_tribes_144 : decode cX7_tribes 144 = .ok (.getfield 181, 3) := by decide +kernel
theorem dX7_tribes_147 : decode cX7_tribes 147 = .ok (.invokevirtual 217, 3) := by decide +kernel
theorem dX7_tribes_150 : decode cX7_tribes 150 = .ok (.invokevirtual 280, 3) := by decide +kernel
theorem dX7_tribes_153 : decode cX7_tribes 153 = .ok (.iinc 5 1, 3) := by decide +kernel
theorem dX7_tribes_156 : decode cX7_tribes 156 = .ok (.goto (-66), 3) := by decide +kernel
theorem dX7_tribes_159 : decode cX7_tribes 159 = .ok (.aload_n 0, 1) := by decide +kernel
theorem dX7_tribes_160 : decode cX7_tribes 160 = .ok (.getfield 66, 3) := by decide +kernel
theorem dX7_tribes_163 : decode cX7_tribes 163 = .ok (.aload_n 0, 1) := by decide +kernel
theorem dX7_tribes_164 : decode cX7_tribes 164 = .ok (.getfield 18, 3) := by decide +kernel
theorem dX7_tribes_167 : decode cX7_tribes 167 = .ok (.getfield 171, 3) := by decide +kernel
theorem dX7_tribes_170 : decode cX7_tribes 170 = .ok (.invokevirtual 283, 3) := by decide +kernel
theorem dX7_tribes_173 : decode cX7_tribes 173 = .ok (.iload_n 3, 1) := by decide +kernel
theorem dX7_tribes_174 : decode cX7_tribes 174 = .ok (.iconst (-1), 1) := by decide +kernel
theorem dX7_tribes_175 : decode cX7_tribes 175 = .ok (.if_icmp .ne 13, 3) := by decide +kernel
theorem dX7_tribes_178 : decode cX7_tribes 178 = .ok (.aload_n 0, 1) := by decide +kernel
theorem dX7_tribes_179 : decode cX7_tribes 179 = .ok (.getfield 66, 3) := by decide +kernel
theorem dX7_tribes_182 : decode cX7_tribes 182 = .ok (.getfield 286, 3) := by decide +kernel
theorem dX7_tribes_185 : decode cX7_tribes 185 = .ok (.goto 11, 3) := by decide +kernel
theorem dX7_tribes_188 : decode cX7_tribes 188 = .ok (.aload_n 0, 1) := by decide +kernel
theorem dX7_tribes_189 : decode cX7_tribes 189 = .ok (.getfield 66, 3) := by decide +kernel
theorem dX7_tribes_192 : decode cX7_tribes 192 = .ok (.iload_n 3, 1) := by decide +kernel
theorem dX7_tribes_193 : decode cX7_tribes 193 = .ok (.invokevirtual 289, 3) := by decide +kernel
theorem dX7_tribes_196 : decode cX7_tribes 196 = .ok (.ireturn, 1) := by decide +kernel
def B7_tribes_53 (st : fkS) : Option (Int32 × fkS) :=
 fk_bind (F7_refuseFar (-6 : Int32) st) <| fun x12 st13 =>
 some (x12, st13)
set_option maxHeartbeats 1000000 in
set_option maxRecDepth 20000 in
theorem T7_tribes_53 {g : fkG} {k : fkK} (hk : fk_ok wC g k RX7 cX7_tribes 6 (some (.int)) 3 143) : ∀ (st : fkS), fk_J wC g fk_eI k 53 [(0, fk_r g 0)] [] st (B7_tribes_53 st) := by
  intro st
  unfold B7_tribes_53
  refine j_aload_n (pc := 53) hk 0 rfl ⟨_, rfl⟩ dX7_tribes_53 ?_
  refine j_bipush (pc := 54) hk dX7_tribes_54 (v := -6) (by decide) ?_
  refine j_callVi (pc := 56) hk [.int (-6 : Int32)] [] rfl (fun l o hq9 => C7_refuseFar (-6 : Int32) st l o hq9) (rcv_7 (rfl)) yv_X7_refuseFar ml_7_139 rfl (Nat.le_of_ble_eq_true rfl) (Nat.le_of_ble_eq_true rfl) (Nat.le_of_ble_eq_true rfl) dX7_tribes_56 (fun x12 st13 => ?_)
  exact j_iret (pc := 59) hk dX7_tribes_59
def B7_tribes_80 (st : fkS) : Option (Int32 × fkS) :=
 fk_bind (F7_refuseFar (-5 : Int32) st) <| fun x14 st15 =>
 some (x14, st15)
set_option maxHeartbeats 1000000 in
set_option maxRecDepth 20000 in
theorem T7_tribes_80 {g : fkG} {k : fkK} (hk : fk_ok wC g k RX7 cX7_tribes 6 (some (.int)) 3 143) : ∀ (st : fkS), fk_J wC g fk_eI k 80 [(0, fk_r g 0)] [] st (B7_tribes_80 st) := by
  intro st
  unfold B7_tribes_80
  refine j_aload_n (pc := 80) hk 0 rfl ⟨_, rfl⟩ dX7_tribes_80 ?_
  refine j_bipush (pc := 81) hk dX7_tribes_81 (v := -5) (by decide) ?_
  refine j_callVi (pc := 83) hk [.int (-5 : Int32)] [] rfl (fun l o hq9 => C7_refuseFar (-5 : Int32) st l o hq9) (rcv_7 (rfl)) yv_X7_refuseFar ml_7_139 rfl (Nat.le_of_ble_eq_true rfl) (Nat.le_of_ble_eq_true rfl) (Nat.le_of_ble_eq_true rfl) dX7_tribes_83 (fun x14 st15 => ?_)
  exact j_iret (pc := 86) hk dX7_tribes_86
def B7_tribes_90 (k90 : Int32 → Int32 → fkS → Option (Int32 × fkS)) (v3 : Int32) (v5 : Int32) (st : fkS) : Option (Int32 × fkS) :=
 fk_let (gI st 0 19) <| fun x16 =>
 if x16 ≤ v5 then
 (fk_let (gI st 0 19) <| fun x17 =>
 fk_bind (F2_part x17 st) <| fun _ st18 =>
 if v3 = (-1 : Int32) then
 (fk_let (gI st18 41 44) <| fun x19 =>
 some (x19, st18))
 else
 (fk_bind (F2_whomHas v3 st18) <| fun x20 st21 =>
 some (x20, st21)))
 else
 (fk_bind (F6_take 40 19 v5 st) <| fun _ st22 =>
 fk_bind (F6_speak 40 st22) <| fun _ st23 =>
 fk_let (gI st23 6 19) <| fun x24 =>
 fk_bind (F0_endOf 19 40 x24 st23) <| fun x25 st26 =>
 fk_bind (F2_bringsOf v5 x25 st26) <| fun _ st27 =>
 k90 v3 (v5 + (1 : Int32)) st27)
set_option maxHeartbeats 1000000 in
set_option maxRecDepth 20000 in
theorem T7_tribes_90 {g : fkG} {k : fkK} (hk : fk_ok wC g k RX7 cX7_tribes 6 (some (.int)) 3 143) (k90 : Int32 → Int32 → fkS → Option (Int32 × fkS)) (H90 : ∀ (v3 : Int32) (v5 : Int32) (st : fkS), fk_J wC g fk_eI k 90 [(0, fk_r g 0), (3, .int v3), (5, .int v5)] [] st (k90 v3 v5 st)) : ∀ (v3 : Int32) (v5 : Int32) (st : fkS), fk_J wC g fk_eI k 90 [(0, fk_r g 0), (3, .int v3), (5, .int v5)] [] st (B7_tribes_90 k90 v3 v5 st) := by
  intro v3 v5 st
  unfold B7_tribes_90
  refine j_iload (pc := 90) hk 2 rfl dX7_tribes_90 ?_
  refine j_aload_n (pc := 92) hk 0 rfl ⟨_, rfl⟩ dX7_tribes_92 ?_
  refine f_7_18 (pc := 93) hk (rfl) dX7_tribes_93 ?_
  refine f_7_171 (pc := 96) hk (rfl) dX7_tribes_96 (fun x16 => ?_)
  refine j_icmp_ge (tgt := 159) (pc := 99) hk (by decide) dX7_tribes_99 (fun _ => ?_) (fun _ => ?_)
  · refine j_aload_n (pc := 159) hk 0 rfl ⟨_, rfl⟩ dX7_tribes_159 ?_
    refine f_7_66 (pc := 160) hk (rfl) dX7_tribes_160 ?_
    refine j_aload_n (pc := 163) hk 0 rfl ⟨_, rfl⟩ dX7_tribes_163 ?_
    refine f_7_18 (pc := 164) hk (rfl) dX7_tribes_164 ?_
    refine f_7_171 (pc := 167) hk (rfl) dX7_tribes_167 (fun x17 => ?_)
    refine j_callVNv (pc := 170) hk [.int x17] [] rfl (fun l o hq9 => C2_part x17 st l o hq9) (rcv_2 (rfl)) yv_X2_part ml_7_283 rfl (Nat.le_of_ble_eq_true rfl) (Nat.le_of_ble_eq_true rfl) (Nat.le_of_ble_eq_true rfl) dX7_tribes_170 (fun _ st18 => ?_)
    refine j_iload_n (pc := 173) hk 1 rfl dX7_tribes_173 ?_
    refine j_iconst (pc := 174) hk dX7_tribes_174 (v := -1) (by decide) ?_
    refine j_icmp_ne (tgt := 188) (pc := 175) hk (by decide) dX7_tribes_175 (fun _ => ?_) (fun _ => ?_)
    · refine j_aload_n (pc := 178) hk 0 rfl ⟨_, rfl⟩ dX7_tribes_178 ?_
      refine f_7_66 (pc := 179) hk (rfl) dX7_tribes_179 ?_
      refine f_7_286 (pc := 182) hk (rfl) dX7_tribes_182 (fun x19 => ?_)
      refine j_goto (tgt := 196) (pc := 185) hk (by decide) dX7_tribes_185 ?_
      exact j_iret (pc := 196) hk dX7_tribes_196
    · refine j_aload_n (pc := 188) hk 0 rfl ⟨_, rfl⟩ dX7_tribes_188 ?_
      refine f_7_66 (pc := 189) hk (rfl) dX7_tribes_189 ?_
      refine j_iload_n (pc := 192) hk 1 rfl dX7_tribes_192 ?_
      refine j_callVNi (pc := 193) hk [.int v3] [] rfl (fun l o hq9 => C2_whomHas v3 st18 l o hq9) (rcv_2 (rfl)) yv_X2_whomHas ml_7_289 rfl (Nat.le_of_ble_eq_true rfl) (Nat.le_of_ble_eq_true rfl) (Nat.le_of_ble_eq_true rfl) dX7_tribes_193 (fun x20 st21 => ?_)
      exact j_iret (pc := 196) hk dX7_tribes_196
  · refine j_aload_n (pc := 102) hk 0 rfl ⟨_, rfl⟩ dX7_tribes_102 ?_
    refine f_7_56 (pc := 103) hk (rfl) dX7_tribes_103 ?_
    refine j_aload_n (pc := 106) hk 0 rfl ⟨_, rfl⟩ dX7_tribes_106 ?_
    refine f_7_18 (pc := 107) hk (rfl) dX7_tribes_107 ?_
    refine j_iload (pc := 110) hk 2 rfl dX7_tribes_110 ?_
    refine j_callVNv (pc := 112) hk [fk_r g 19, .int v5] [] rfl (fun l o hq9 => C6_take 40 19 (rfl) (rfl) v5 st l o hq9) (rcv_6 (rfl)) yv_X6_take ml_7_148 rfl (Nat.le_of_ble_eq_true rfl) (Nat.le_of_ble_eq_true rfl) (Nat.le_of_ble_eq_true rfl) dX7_tribes_112 (fun _ st22 => ?_)
    refine j_aload_n (pc := 115) hk 0 rfl ⟨_, rfl⟩ dX7_tribes_115 ?_
    refine f_7_56 (pc := 116) hk (rfl) dX7_tribes_116 ?_
    refine j_aload_n (pc := 119) hk 0 rfl ⟨_, rfl⟩ dX7_tribes_119 ?_
    refine f_7_49 (pc := 120) hk (rfl) dX7_tribes_120 ?_
    refine j_callVNv (pc := 123) hk [fk_r g 38] [] rfl (fun l o hq9 => C6_speak 40 (rfl) st22 l o hq9) (rcv_6 (rfl)) yv_X6_speak ml_7_158 rfl (Nat.le_of_ble_eq_true rfl) (Nat.le_of_ble_eq_true rfl) (Nat.le_of_ble_eq_true rfl) dX7_tribes_123 (fun _ st23 => ?_)
    refine j_aload_n (pc := 126) hk 0 rfl ⟨_, rfl⟩ dX7_tribes_126 ?_
    refine f_7_66 (pc := 127) hk (rfl) dX7_tribes_127 ?_
    refine j_iload (pc := 130) hk 2 rfl dX7_tribes_130 ?_
    refine j_aload_n (pc := 132) hk 0 rfl ⟨_, rfl⟩ dX7_tribes_132 ?_
    refine f_7_18 (pc := 133) hk (rfl) dX7_tribes_133 ?_
    refine j_aload_n (pc := 136) hk 0 rfl ⟨_, rfl⟩ dX7_tribes_136 ?_
    refine f_7_56 (pc := 137) hk (rfl) dX7_tribes_137 ?_
    refine j_aload_n (pc := 140) hk 0 rfl ⟨_, rfl⟩ dX7_tribes_140 ?_
    refine f_7_18 (pc := 141) hk (rfl) dX7_tribes_141 ?_
    refine f_7_181 (pc := 144) hk (rfl) dX7_tribes_144 (fun x24 => ?_)
    refine j_callVNi (pc := 147) hk [fk_r g 40, .int x24] [.int v5, fk_r g 44] rfl (fun l o hq9 => C0_endOf 19 40 (rfl) (rfl) x24 st23 l o hq9) (rcv_0 (rfl)) yv_X0_endOf ml_7_217 rfl (Nat.le_of_ble_eq_true rfl) (Nat.le_of_ble_eq_true rfl) (Nat.le_of_ble_eq_true rfl) dX7_tribes_147 (fun x25 st26 => ?_)
    refine j_callVNv (pc := 150) hk [.int v5, .int x25] [] rfl (fun l o hq9 => C2_bringsOf v5 x25 st26 l o hq9) (rcv_2 (rfl)) yv_X2_bringsOf ml_7_280 rfl (Nat.le_of_ble_eq_true rfl) (Nat.le_of_ble_eq_true rfl) (Nat.le_of_ble_eq_true rfl) dX7_tribes_150 (fun _ st27 => ?_)
    refine j_iinc (dd := (1 : Int32)) (lv' := ((5, .int (v5 + (1 : Int32))) :: [(0, fk_r g 0), (3, .int v3)])) (pc := 153) hk 2 rfl (by decide) (by decide) rfl dX7_tribes_153 ?_
    refine j_sub hk (lv' := [(0, fk_r g 0), (3, .int v3), (5, .int (v5 + (1 : Int32)))]) [1, 2, 0] rfl ?_
    refine j_goto (tgt := 90) (pc := 156) hk (by decide) dX7_tribes_156 ?_
    exact j_sub hk [0, 1, 2] rfl (H90 v3 (v5 + (1 : Int32)) st27)
set_option maxHeartbeats 1000000 in
set_option maxRecDepth 20000 in
theorem L7_tribes_90 {g : fkG} {k : fkK} (hk : fk_ok wC g k RX7 cX7_tribes 6 (some (.int)) 3 143) (fu : Nat) : ∀ (v3 : Int32) (v5 : Int32) (st : fkS), fk_J wC g fk_eI k 90 [(0, fk_r g 0), (3, .int v3), (5, .int v5)] [] st (fk_lp2 (B7_tribes_90) fu v3 v5 st) := by
  induction fu with
  | zero =>
    intro v3 v5 st
    exact j_none hk
  | succ fu ih =>
    exact T7_tribes_90 hk _ ih
def B7_tribes_87 (v3 : Int32) (st : fkS) : Option (Int32 × fkS) :=
 fk_lp2 (B7_tribes_90) fk_fuel v3 (0 : Int32) st
set_option maxHeartbeats 1000000 in
set_option maxRecDepth 20000 in
theorem T7_tribes_87 {g : fkG} {k : fkK} (hk : fk_ok wC g k RX7 cX7_tribes 6 (some (.int)) 3 143) : ∀ (v3 : Int32) (st : fkS), fk_J wC g fk_eI k 87 [(0, fk_r g 0), (3, .int v3)] [] st (B7_tribes_87 v3 st) := by
  intro v3 st
  unfold B7_tribes_87
  refine j_iconst (pc := 87) hk dX7_tribes_87 (v := 0) (by decide) ?_
  refine j_istore (lv' := ((5, .int (0 : Int32)) :: [(0, fk_r g 0), (3, .int v3)])) (pc := 88) hk (by decide) rfl dX7_tribes_88 ?_
  refine j_sub hk (lv' := [(0, fk_r g 0), (3, .int v3), (5, .int (0 : Int32))]) [1, 2, 0] rfl ?_
  exact j_sub hk [0, 1, 2] rfl (L7_tribes_90 hk fk_fuel v3 (0 : Int32) st)
def F7_tribes (p1 : Int32) (p2 : Int32) (p3 : Int32) (st : fkS) : Option (Int32 × fkS) :=
 fk_bind (F7_noRows p1 p2 st) <| fun x1 st2 =>
 if x1 = 0 then
 (fk_chk (fk_in p1 8) <|
 fk_bind (F3_take (3 + p1.toNatClampNeg) (0 : Int32) st2) <| fun x4 st5 =>
 if x4 = 0 then
 (B7_tribes_53 st5)
 else
 (fk_chk (fk_in p2 8) <|
 fk_bind (F2_takeWishes (3 + p2.toNatClampNeg) st5) <| fun x7 st8 =>
 if x7 = 0 then
 (B7_tribes_53 st8)
 else
 (if p3 = (-1 : Int32) then
 (B7_tribes_87 p3 st8)
 else
 (if p3 < 0 then
 (B7_tribes_80 st8)
 else
 (fk_let (gI st8 40 44) <| fun x9 =>
 if p3 < x9 then
 (B7_tribes_87 p3 st8)
 else
 (B7_tribes_80 st8))))))
 else
 (fk_bind (F7_refuseFar x1 st2) <| fun x10 st11 =>
 some (x10, st11))
set_option maxHeartbeats 1000000 in
set_option maxRecDepth 20000 in
theorem C7_tribes (p1 : Int32) (p2 : Int32) (p3 : Int32) (st : fkS) {g : fkG} (l : Launch) (o : Int32 × fkS) (hF : F7_tribes p1 p2 p3 st = some o) : fk_C wC yX7_tribes cX7_tribes 6 (some (.int)) 3 143 l g [fk_r g 0, .int p1, .int p2, .int p3] st (fk_eI o.1) o.2 := by
  refine fk_begin rfl (Nat.le_of_ble_eq_true rfl) (fun k hk => ?_) o hF
  have hk : fk_ok wC g k RX7 cX7_tribes 6 (some (.int)) 3 143 := hk
  show fk_J wC g fk_eI k 0 [(0, fk_r g 0), (1, .int p1), (2, .int p2), (3, .int p3)] [] st (F7_tribes p1 p2 p3 st)
  unfold F7_tribes
  refine j_aload_n (pc := 0) hk 0 rfl ⟨_, rfl⟩ dX7_tribes_0 ?_
  refine j_iload_n (pc := 1) hk 1 rfl dX7_tribes_1 ?_
  refine j_iload_n (pc := 2) hk 2 rfl dX7_tribes_2 ?_
  refine j_callVi (pc := 3) hk [.int p1, .int p2] [] rfl (fun l o hq9 => C7_noRows p1 p2 st l o hq9) (rcv_7 (rfl)) yv_X7_noRows ml_7_98 rfl (Nat.le_of_ble_eq_true rfl) (Nat.le_of_ble_eq_true rfl) (Nat.le_of_ble_eq_true rfl) dX7_tribes_3 (fun x1 st2 => ?_)
  refine j_istore (lv' := ((4, .int x1) :: [(0, fk_r g 0), (1, .int p1), (2, .int p2), (3, .int p3)])) (pc := 6) hk (by decide) rfl dX7_tribes_6 ?_
  refine j_sub hk (lv' := [(0, fk_r g 0), (1, .int p1), (2, .int p2), (3, .int p3), (4, .int x1)]) [1, 2, 3, 4, 0] rfl ?_
  refine j_iload (pc := 8) hk 4 rfl dX7_tribes_8 ?_
  refine j_if_eq (tgt := 20) (pc := 10) hk (by decide) dX7_tribes_10 (fun _ => ?_) (fun _ => ?_)
  · refine j_aload_n (pc := 20) hk 0 rfl ⟨_, rfl⟩ dX7_tribes_20 ?_
    refine f_7_49 (pc := 21) hk (rfl) dX7_tribes_21 ?_
    refine j_aload_n (pc := 24) hk 0 rfl ⟨_, rfl⟩ dX7_tribes_24 ?_
    refine f_7_11 (pc := 25) hk (rfl) dX7_tribes_25 ?_
    refine j_iload_n (pc := 28) hk 1 rfl dX7_tribes_28 ?_
    refine a_shelf (pc := 29) hk dX7_tribes_29 (fun hs3 => ?_)
    refine j_iconst (pc := 30) hk dX7_tribes_30 (v := 0) (by decide) ?_
    refine j_callVNi (pc := 31) hk [fk_r g (3 + p1.toNatClampNeg), .int (0 : Int32)] [] rfl (fun l o hq9 => C3_take (3 + p1.toNatClampNeg) (hs3) (0 : Int32) st2 l o hq9) (rcv_3 (rfl)) yv_X3_take ml_7_234 rfl (Nat.le_of_ble_eq_true rfl) (Nat.le_of_ble_eq_true rfl) (Nat.le_of_ble_eq_true rfl) dX7_tribes_31 (fun x4 st5 => ?_)
    refine j_if_eq (tgt := 53) (pc := 34) hk (by decide) dX7_tribes_34 (fun _ => ?_) (fun _ => ?_)
    · exact j_sub hk [0] rfl (T7_tribes_53 hk st5)
    · refine j_aload_n (pc := 37) hk 0 rfl ⟨_, rfl⟩ dX7_tribes_37 ?_
      refine f_7_66 (pc := 38) hk (rfl) dX7_tribes_38 ?_
      refine j_aload_n (pc := 41) hk 0 rfl ⟨_, rfl⟩ dX7_tribes_41 ?_
      refine f_7_11 (pc := 42) hk (rfl) dX7_tribes_42 ?_
      refine j_iload_n (pc := 45) hk 2 rfl dX7_tribes_45 ?_
      refine a_shelf (pc := 46) hk dX7_tribes_46 (fun hs6 => ?_)
      refine j_callVNi (pc := 47) hk [fk_r g (3 + p2.toNatClampNeg)] [] rfl (fun l o hq9 => C2_takeWishes (3 + p2.toNatClampNeg) (hs6) st5 l o hq9) (rcv_2 (rfl)) yv_X2_takeWishes ml_7_274 rfl (Nat.le_of_ble_eq_true rfl) (Nat.le_of_ble_eq_true rfl) (Nat.le_of_ble_eq_true rfl) dX7_tribes_47 (fun x7 st8 => ?_)
      refine j_if_ne (tgt := 60) (pc := 50) hk (by decide) dX7_tribes_50 (fun _ => ?_) (fun _ => ?_)
      · exact j_sub hk [0] rfl (T7_tribes_53 hk st8)
      · refine j_iload_n (pc := 60) hk 3 rfl dX7_tribes_60 ?_
        refine j_iconst (pc := 61) hk dX7_tribes_61 (v := -1) (by decide) ?_
        refine j_icmp_eq (tgt := 87) (pc := 62) hk (by decide) dX7_tribes_62 (fun _ => ?_) (fun _ => ?_)
        · exact j_sub hk [0, 3] rfl (T7_tribes_87 hk p3 st8)
        · refine j_iload_n (pc := 65) hk 3 rfl dX7_tribes_65 ?_
          refine j_if_lt (tgt := 80) (pc := 66) hk (by decide) dX7_tribes_66 (fun _ => ?_) (fun _ => ?_)
          · exact j_sub hk [0] rfl (T7_tribes_80 hk st8)
          · refine j_iload_n (pc := 69) hk 3 rfl dX7_tribes_69 ?_
            refine j_aload_n (pc := 70) hk 0 rfl ⟨_, rfl⟩ dX7_tribes_70 ?_
            refine f_7_66 (pc := 71) hk (rfl) dX7_tribes_71 ?_
            refine f_7_277 (pc := 74) hk (rfl) dX7_tribes_74 (fun x9 => ?_)
            refine j_icmp_lt (tgt := 87) (pc := 77) hk (by decide) dX7_tribes_77 (fun _ => ?_) (fun _ => ?_)
            · exact j_sub hk [0, 3] rfl (T7_tribes_87 hk p3 st8)
            · exact j_sub hk [0] rfl (T7_tribes_80 hk st8)
  · refine j_aload_n (pc := 13) hk 0 rfl ⟨_, rfl⟩ dX7_tribes_13 ?_
    refine j_iload (pc := 14) hk 4 rfl dX7_tribes_14 ?_
    refine j_callVi (pc := 16) hk [.int x1] [] rfl (fun l o hq9 => C7_refuseFar x1 st2 l o hq9) (rcv_7 (rfl)) yv_X7_refuseFar ml_7_139 rfl (Nat.le_of_ble_eq_true rfl) (Nat.le_of_ble_eq_true rfl) (Nat.le_of_ble_eq_true rfl) dX7_tribes_16 (fun x10 st11 => ?_)
    exact j_iret (pc := 19) hk dX7_tribes_19
theorem dX7_alike_0 : decode cX7_alike 0 = .ok (.aload_n 0, 1) := by decide +kernel
theorem dX7_alike_1 : decode cX7_alike 1 = .ok (.getfield 18, 3) := by decide +kernel
theorem dX7_alike_4 : decode cX7_alike 4 = .ok (.iload_n 1, 1) := by decide +kernel
theorem dX7_alike_5 : decode cX7_alike 5 = .ok (.invokevirtual 126, 3) := by decide +kernel
theorem dX7_alike_8 : decode cX7_alike 8 = .ok (.ifCond .ne 14, 3) := by decide +kernel
theorem dX7_alike_11 : decode cX7_alike 11 = .ok (.aload_n 0, 1) := by decide +kernel
theorem dX7_alike_12 : decode cX7_alike 12 = .ok (.getfield 18, 3) := by decide +kernel
theorem dX7_alike_15 : decode cX7_alike 15 = .ok (.iload_n 2, 1) := by decide +kernel
theorem dX7_alike_16 : decode cX7_alike 16 = .ok (.invokevirtual 126, 3) := by decide +kernel
theorem dX7_alike_19 : decode cX7_alike 19 = .ok (.ifCond .eq 9, 3) := by decide +kernel
theorem dX7_alike_22 : decode cX7_alike 22 = .ok (.aload_n 0, 1) := by decide +kernel
theorem dX7_alike_23 : decode cX7_alike 23 = .ok (.iconst (-1), 1) := by decide +kernel
theorem dX7_alike_24 : decode cX7_alike 24 = .ok (.invokevirtual 79, 3) := by decide +kernel
theorem dX7_alike_27 : decode cX7_alike 27 = .ok (.ireturn, 1) := by decide +kernel
theorem dX7_alike_28 : decode cX7_alike 28 = .ok (.aload_n 0, 1) := by decide +kernel
theorem dX7_alike_29 : decode cX7_alike 29 = .ok (.getfield 56, 3) := by decide +kernel
theorem dX7_alike_32 : decode cX7_alike 32 = .ok (.aload_n 0, 1) := by decide +kernel
theorem dX7_alike_33 : decode cX7_alike 33 = .ok (.getfield 18, 3) := by decide +kernel
theorem dX7_alike_36 : decode cX7_alike 36 = .ok (.iload_n 1, 1) := by decide +kernel
theorem dX7_alike_37 : decode cX7_alike 37 = .ok (.invokevirtual 148, 3) := by decide +kernel
theorem dX7_alike_40 : decode cX7_alike 40 = .ok (.aload_n 0, 1) := by decide +kernel
theorem dX7_alike_41 : decode cX7_alike 41 = .ok (.getfield 60, 3) := by decide +kernel
theorem dX7_alike_44 : decode cX7_alike 44 = .ok (.aload_n 0, 1) := by decide +kernel
theorem dX7_alike_45 : decode cX7_alike 45 = .ok (.getfield 18, 3) := by decide +kernel
theorem dX7_alike_48 : decode cX7_alike 48 = .ok (.iload_n 2, 1) := by decide +kernel
theorem dX7_alike_49 : decode cX7_alike 49 = .ok (.invokevirtual 148, 3) := by decide +kernel
theorem dX7_alike_52 : decode cX7_alike 52 = .ok (.iconst 0, 1) := by decide +kernel
theorem dX7_alike_53 : decode cX7_alike 53 = .ok (.istore_n 3, 1) := by decide +kernel
theorem dX7_alike_54 : decode cX7_alike 54 = .ok (.iconst 0, 1) := by decide +kernel
theorem dX7_alike_55 : decode cX7_alike 55 = .ok (.istore 4, 2) := by decide +kernel
theorem dX7_alike_57 : decode cX7_alike 57 = .ok (.iload 4, 2) := by decide +kernel
theorem dX7_alike_59 : decode cX7_alike 59 = .ok (.bipush 100, 2) := by decide +kernel
theorem dX7_alike_61 : decode cX7_alike 61 = .ok (.if_icmp .ge 58, 3) := by decide +kernel
theorem dX7_alike_64 : decode cX7_alike 64 = .ok (.aload_n 0, 1) := by decide +kernel
theorem dX7_alike_65 : decode cX7_alike 65 = .ok (.getfield 49, 3) := by decide +kernel
theorem dX7_alike_68 : decode cX7_alike 68 = .ok (.iconst 2, 1) := by decide +kernel
theorem dX7_alike_69 : decode cX7_alike 69 = .ok (.iload 4, 2) := by decide +kernel
theorem dX7_alike_71 : decode cX7_alike 71 = .ok (.invokevirtual 155, 3) := by decide +kernel
theorem dX7_alike_74 : decode cX7_alike 74 = .ok (.aload_n 0, 1) := by decide +kernel
theorem dX7_alike_75 : decode cX7_alike 75 = .ok (.getfield 56, 3) := by decide +kernel
theorem dX7_alike_78 : decode cX7_alike 78 = .ok (.aload_n 0, 1) := by decide +kernel
theorem dX7_alike_79 : decode cX7_alike 79 = .ok (.getfield 49, 3) := by decide +kernel
theorem dX7_alike_82 : decode cX7_alike 82 = .ok (.invokevirtual 158, 3) := by decide +kernel
theorem dX7_alike_85 : decode cX7_alike 85 = .ok (.aload_n 0, 1) := by decide +kernel
theorem dX7_alike_86 : decode cX7_alike 86 = .ok (.getfield 60, 3) := by decide +kernel
theorem dX7_alike_89 : decode cX7_alike 89 = .ok (.aload_n 0, 1) := by decide +kernel
theorem dX7_alike_90 : decode cX7_alike 90 = .ok (.getfield 49, 3) := by decide +kernel
theorem dX7_alike_93 : decode cX7_alike 93 = .ok (.invokevirtual 158, 3) := by decide +kernel
theorem dX7_alike_96 : decode cX7_alike 96 = .ok (.aload_n 0, 1) := by decide +kernel
theorem dX7_alike_97 : decode cX7_alike 97 = .ok (.getfield 56, 3) := by decide +kernel
theorem dX7_alike_100 : decode cX7_alike 100 = .ok (.aload_n 0, 1) := by decide +kernel
theorem dX7_alike_101 : decode cX7_alike 101 = .ok (.getfield 60, 3) := by decide +kernel
theorem dX7_alike_104 : decode cX7_alike 104 = .ok (.invokevirtual 292, 3) := by decide +kernel
theorem dX7_alike_107 : decode cX7_alike 107 = .ok (.ifCond .eq 6, 3) := by decide +kernel
theorem dX7_alike_110 : decode cX7_alike 110 = .ok (.iinc 3 1, 3) := by decide +kernel
theorem dX7_alike_113 : decode cX7_alike 113 = .ok (.iinc 4 1, 3) := by decide +kernel
theorem dX7_alike_116 : decode cX7_alike 116 = .ok (.goto (-59), 3) := by decide +kernel
theorem dX7_alike_119 : decode cX7_alike 119 = .ok (.iload_n 3, 1) := by decide +kernel
theorem dX7_alike_120 : decode cX7_alike 120 = .ok (.ireturn, 1) := by decide +kernel
def B7_alike_22 (st : fkS) : Option (Int32 × fkS) :=
 fk_bind (F7_refuse (-1 : Int32) st) <| fun x12 st13 =>
 some (x12, st13)
set_option maxHeartbeats 1000000 in
set_option maxRecDepth 20000 in
theorem T7_alike_22 {g : fkG} {k : fkK} (hk : fk_ok wC g k RX7 cX7_alike 5 (some (.int)) 3 143) : ∀ (st : fkS), fk_J wC g fk_eI k 22 [(0, fk_r g 0)] [] st (B7_alike_22 st) := by
  intro st
  unfold B7_alike_22
  refine j_aload_n (pc := 22) hk 0 rfl ⟨_, rfl⟩ dX7_alike_22 ?_
  refine j_iconst (pc := 23) hk dX7_alike_23 (v := -1) (by decide) ?_
  refine j_callVi (pc := 24) hk [.int (-1 : Int32)] [] rfl (fun l o hq9 => C7_refuse (-1 : Int32) st l o hq9) (rcv_7 (rfl)) yv_X7_refuse ml_7_79 rfl (Nat.le_of_ble_eq_true rfl) (Nat.le_of_ble_eq_true rfl) (Nat.le_of_ble_eq_true rfl) dX7_alike_24 (fun x12 st13 => ?_)
  exact j_iret (pc := 27) hk dX7_alike_27
def B7_alike_113 (k57 : Int32 → Int32 → fkS → Option (Int32 × fkS)) (v3 : Int32) (v4 : Int32) (st : fkS) : Option (Int32 × fkS) :=
 k57 v3 (v4 + (1 : Int32)) st
set_option maxHeartbeats 1000000 in
set_option maxRecDepth 20000 in
theorem T7_alike_113 {g : fkG} {k : fkK} (hk : fk_ok wC g k RX7 cX7_alike 5 (some (.int)) 3 143) (k57 : Int32 → Int32 → fkS → Option (Int32 × fkS)) (H57 : ∀ (v3 : Int32) (v4 : Int32) (st : fkS), fk_J wC g fk_eI k 57 [(0, fk_r g 0), (3, .int v3), (4, .int v4)] [] st (k57 v3 v4 st)) : ∀ (v3 : Int32) (v4 : Int32) (st : fkS), fk_J wC g fk_eI k 113 [(0, fk_r g 0), (3, .int v3), (4, .int v4)] [] st (B7_alike_113 k57 v3 v4 st) := by
  intro v3 v4 st
  unfold B7_alike_113
  refine j_iinc (dd := (1 : Int32)) (lv' := ((4, .int (v4 + (1 : Int32))) :: [(0, fk_r g 0), (3, .int v3)])) (pc := 113) hk 2 rfl (by decide) (by decide) rfl dX7_alike_113 ?_
  refine j_sub hk (lv' := [(0, fk_r g 0), (3, .int v3), (4, .int (v4 + (1 : Int32)))]) [1, 2, 0] rfl ?_
  refine j_goto (tgt := 57) (pc := 116) hk (by decide) dX7_alike_116 ?_
  exact j_sub hk [0, 1, 2] rfl (H57 v3 (v4 + (1 : Int32)) st)
def B7_alike_57 (k57 : Int32 → Int32 → fkS → Option (Int32 × fkS)) (v3 : Int32) (v4 : Int32) (st : fkS) : Option (Int32 × fkS) :=
 if (100 : Int32) ≤ v4 then
 (some (v3, st))
 else
 (fk_bind (F3_setByNumber (2 : Int32) v4 st) <| fun _ st7 =>
 fk_bind (F6_speak 40 st7) <| fun _ st8 =>
 fk_bind (F6_speak 41 st8) <| fun _ st9 =>
 fk_bind (F6_saysSame 40 41 st9) <| fun x10 st11 =>
 if x10 = 0 then
 (B7_alike_113 k57 v3 v4 st11)
 else
 (B7_alike_113 k57 (v3 + (1 : Int32)) v4 st11))
set_option maxHeartbeats 1000000 in
set_option maxRecDepth 20000 in
theorem T7_alike_57 {g : fkG} {k : fkK} (hk : fk_ok wC g k RX7 cX7_alike 5 (some (.int)) 3 143) (k57 : Int32 → Int32 → fkS → Option (Int32 × fkS)) (H57 : ∀ (v3 : Int32) (v4 : Int32) (st : fkS), fk_J wC g fk_eI k 57 [(0, fk_r g 0), (3, .int v3), (4, .int v4)] [] st (k57 v3 v4 st)) : ∀ (v3 : Int32) (v4 : Int32) (st : fkS), fk_J wC g fk_eI k 57 [(0, fk_r g 0), (3, .int v3), (4, .int v4)] [] st (B7_alike_57 k57 v3 v4 st) := by
  intro v3 v4 st
  unfold B7_alike_57
  refine j_iload (pc := 57) hk 2 rfl dX7_alike_57 ?_
  refine j_bipush (pc := 59) hk dX7_alike_59 (v := 100) (by decide) ?_
  refine j_icmp_ge (tgt := 119) (pc := 61) hk (by decide) dX7_alike_61 (fun _ => ?_) (fun _ => ?_)
  · refine j_iload_n (pc := 119) hk 1 rfl dX7_alike_119 ?_
    exact j_iret (pc := 120) hk dX7_alike_120
  · refine j_aload_n (pc := 64) hk 0 rfl ⟨_, rfl⟩ dX7_alike_64 ?_
    refine f_7_49 (pc := 65) hk (rfl) dX7_alike_65 ?_
    refine j_iconst (pc := 68) hk dX7_alike_68 (v := 2) (by decide) ?_
    refine j_iload (pc := 69) hk 2 rfl dX7_alike_69 ?_
    refine j_callVNv (pc := 71) hk [.int (2 : Int32), .int v4] [] rfl (fun l o hq9 => C3_setByNumber (2 : Int32) v4 st l o hq9) (rcv_3 (rfl)) yv_X3_setByNumber ml_7_155 rfl (Nat.le_of_ble_eq_true rfl) (Nat.le_of_ble_eq_true rfl) (Nat.le_of_ble_eq_true rfl) dX7_alike_71 (fun _ st7 => ?_)
    refine j_aload_n (pc := 74) hk 0 rfl ⟨_, rfl⟩ dX7_alike_74 ?_
    refine f_7_56 (pc := 75) hk (rfl) dX7_alike_75 ?_
    refine j_aload_n (pc := 78) hk 0 rfl ⟨_, rfl⟩ dX7_alike_78 ?_
    refine f_7_49 (pc := 79) hk (rfl) dX7_alike_79 ?_
    refine j_callVNv (pc := 82) hk [fk_r g 38] [] rfl (fun l o hq9 => C6_speak 40 (rfl) st7 l o hq9) (rcv_6 (rfl)) yv_X6_speak ml_7_158 rfl (Nat.le_of_ble_eq_true rfl) (Nat.le_of_ble_eq_true rfl) (Nat.le_of_ble_eq_true rfl) dX7_alike_82 (fun _ st8 => ?_)
    refine j_aload_n (pc := 85) hk 0 rfl ⟨_, rfl⟩ dX7_alike_85 ?_
    refine f_7_60 (pc := 86) hk (rfl) dX7_alike_86 ?_
    refine j_aload_n (pc := 89) hk 0 rfl ⟨_, rfl⟩ dX7_alike_89 ?_
    refine f_7_49 (pc := 90) hk (rfl) dX7_alike_90 ?_
    refine j_callVNv (pc := 93) hk [fk_r g 38] [] rfl (fun l o hq9 => C6_speak 41 (rfl) st8 l o hq9) (rcv_6 (rfl)) yv_X6_speak ml_7_158 rfl (Nat.le_of_ble_eq_true rfl) (Nat.le_of_ble_eq_true rfl) (Nat.le_of_ble_eq_true rfl) dX7_alike_93 (fun _ st9 => ?_)
    refine j_aload_n (pc := 96) hk 0 rfl ⟨_, rfl⟩ dX7_alike_96 ?_
    refine f_7_56 (pc := 97) hk (rfl) dX7_alike_97 ?_
    refine j_aload_n (pc := 100) hk 0 rfl ⟨_, rfl⟩ dX7_alike_100 ?_
    refine f_7_60 (pc := 101) hk (rfl) dX7_alike_101 ?_
    refine j_callVNi (pc := 104) hk [fk_r g 41] [] rfl (fun l o hq9 => C6_saysSame 40 41 (rfl) (rfl) st9 l o hq9) (rcv_6 (rfl)) yv_X6_saysSame ml_7_292 rfl (Nat.le_of_ble_eq_true rfl) (Nat.le_of_ble_eq_true rfl) (Nat.le_of_ble_eq_true rfl) dX7_alike_104 (fun x10 st11 => ?_)
    refine j_if_eq (tgt := 113) (pc := 107) hk (by decide) dX7_alike_107 (fun _ => ?_) (fun _ => ?_)
    · exact j_sub hk [0, 1, 2] rfl (T7_alike_113 hk k57 H57 v3 v4 st11)
    · refine j_iinc (dd := (1 : Int32)) (lv' := ((3, .int (v3 + (1 : Int32))) :: [(0, fk_r g 0), (4, .int v4)])) (pc := 110) hk 1 rfl (by decide) (by decide) rfl dX7_alike_110 ?_
      refine j_sub hk (lv' := [(0, fk_r g 0), (3, .int (v3 + (1 : Int32))), (4, .int v4)]) [1, 0, 2] rfl ?_
      exact j_sub hk [0, 1, 2] rfl (T7_alike_113 hk k57 H57 (v3 + (1 : Int32)) v4 st11)
set_option maxHeartbeats 1000000 in
set_option maxRecDepth 20000 in
theorem L7_alike_57 {g : fkG} {k : fkK} (hk : fk_ok wC g k RX7 cX7_alike 5 (some (.int)) 3 143) (fu : Nat) : ∀ (v3 : Int32) (v4 : Int32) (st : fkS), fk_J wC g fk_eI k 57 [(0, fk_r g 0), (3, .int v3), (4, .int v4)] [] st (fk_lp2 (B7_alike_57) fu v3 v4 st) := by
  induction fu with
  | zero =>
    intro v3 v4 st
    exact j_none hk
  | succ fu ih =>
    exact T7_alike_57 hk _ ih
def F7_alike (p1 : Int32) (p2 : Int32) (st : fkS) : Option (Int32 × fkS) :=
 fk_bind (F0_lacks 19 p1 st) <| fun x1 st2 =>
 if x1 = 0 then
 (fk_bind (F0_lacks 19 p2 st2) <| fun x3 st4 =>
 if x3 = 0 then
 (fk_bind (F6_take 40 19 p1 st4) <| fun _ st5 =>
 fk_bind (F6_take 41 19 p2 st5) <| fun _ st6 =>
 fk_lp2 (B7_alike_57) fk_fuel (0 : Int32) (0 : Int32) st6)
 else
 (B7_alike_22 st4))
 else
 (B7_alike_22 st2)
set_option maxHeartbeats 1000000 in
set_option maxRecDepth 20000 in
theorem C7_alike (p1 : Int32) (p2 : Int32) (st : fkS) {g : fkG} (l : Launch) (o : Int32 × fkS) (hF : F7_alike p1 p2 st = some o) : fk_C wC yX7_alike cX7_alike 5 (some (.int)) 3 143 l g [fk_r g 0, .int p1, .int p2] st (fk_eI o.1) o.2 := by
  refine fk_begin rfl (Nat.le_of_ble_eq_true rfl) (fun k hk => ?_) o hF
  have hk : fk_ok wC g k RX7 cX7_alike 5 (some (.int)) 3 143 := hk
  show fk_J wC g fk_eI k 0 [(0, fk_r g 0), (1, .int p1), (2, .int p2)] [] st (F7_alike p1 p2 st)
  unfold F7_alike
  refine j_aload_n (pc := 0) hk 0 rfl ⟨_, rfl⟩ dX7_alike_0 ?_
  refine f_7_18 (pc := 1) hk (rfl) dX7_alike_1 ?_
  refine j_iload_n (pc := 4) hk 1 rfl dX7_alike_4 ?_
  refine j_callVNi (pc := 5) hk [.int p1] [] rfl (fun l o hq9 => C0_lacks 19 (rfl) p1 st l o hq9) (rcv_0 (rfl)) yv_X0_lacks ml_7_126 rfl (Nat.le_of_ble_eq_true rfl) (Nat.le_of_ble_eq_true rfl) (Nat.le_of_ble_eq_true rfl) dX7_alike_5 (fun x1 st2 => ?_)
  refine j_if_ne (tgt := 22) (pc := 8) hk (by decide) dX7_alike_8 (fun _ => ?_) (fun _ => ?_)
  · refine j_aload_n (pc := 11) hk 0 rfl ⟨_, rfl⟩ dX7_alike_11 ?_
    refine f_7_18 (pc := 12) hk (rfl) dX7_alike_12 ?_
    refine j_iload_n (pc := 15) hk 2 rfl dX7_alike_15 ?_
    refine j_callVNi (pc := 16) hk [.int p2] [] rfl (fun l o hq9 => C0_lacks 19 (rfl) p2 st2 l o hq9) (rcv_0 (rfl)) yv_X0_lacks ml_7_126 rfl (Nat.le_of_ble_eq_true rfl) (Nat.le_of_ble_eq_true rfl) (Nat.le_of_ble_eq_true rfl) dX7_alike_16 (fun x3 st4 => ?_)
    refine j_if_eq (tgt := 28) (pc := 19) hk (by decide) dX7_alike_19 (fun _ => ?_) (fun _ => ?_)
    · refine j_aload_n (pc := 28) hk 0 rfl ⟨_, rfl⟩ dX7_alike_28 ?_
      refine f_7_56 (pc := 29) hk (rfl) dX7_alike_29 ?_
      refine j_aload_n (pc := 32) hk 0 rfl ⟨_, rfl⟩ dX7_alike_32 ?_
      refine f_7_18 (pc := 33) hk (rfl) dX7_alike_33 ?_
      refine j_iload_n (pc := 36) hk 1 rfl dX7_alike_36 ?_
      refine j_callVNv (pc := 37) hk [fk_r g 19, .int p1] [] rfl (fun l o hq9 => C6_take 40 19 (rfl) (rfl) p1 st4 l o hq9) (rcv_6 (rfl)) yv_X6_take ml_7_148 rfl (Nat.le_of_ble_eq_true rfl) (Nat.le_of_ble_eq_true rfl) (Nat.le_of_ble_eq_true rfl) dX7_alike_37 (fun _ st5 => ?_)
      refine j_aload_n (pc := 40) hk 0 rfl ⟨_, rfl⟩ dX7_alike_40 ?_
      refine f_7_60 (pc := 41) hk (rfl) dX7_alike_41 ?_
      refine j_aload_n (pc := 44) hk 0 rfl ⟨_, rfl⟩ dX7_alike_44 ?_
      refine f_7_18 (pc := 45) hk (rfl) dX7_alike_45 ?_
      refine j_iload_n (pc := 48) hk 2 rfl dX7_alike_48 ?_
      refine j_callVNv (pc := 49) hk [fk_r g 19, .int p2] [] rfl (fun l o hq9 => C6_take 41 19 (rfl) (rfl) p2 st5 l o hq9) (rcv_6 (rfl)) yv_X6_take ml_7_148 rfl (Nat.le_of_ble_eq_true rfl) (Nat.le_of_ble_eq_true rfl) (Nat.le_of_ble_eq_true rfl) dX7_alike_49 (fun _ st6 => ?_)
      refine j_iconst (pc := 52) hk dX7_alike_52 (v := 0) (by decide) ?_
      refine j_istore_n (lv' := ((3, .int (0 : Int32)) :: [(0, fk_r g 0), (1, .int p1), (2, .int p2)])) (pc := 53) hk rfl (by decide) rfl dX7_alike_53 ?_
      refine j_sub hk (lv' := [(0, fk_r g 0), (1, .int p1), (2, .int p2), (3, .int (0 : Int32))]) [1, 2, 3, 0] rfl ?_
      refine j_iconst (pc := 54) hk dX7_alike_54 (v := 0) (by decide) ?_
      refine j_istore (lv' := ((4, .int (0 : Int32)) :: [(0, fk_r g 0), (1, .int p1), (2, .int p2), (3, .int (0 : Int32))])) (pc := 55) hk (by decide) rfl dX7_alike_55 ?_
      refine j_sub hk (lv' := [(0, fk_r g 0), (1, .int p1), (2, .int p2), (3, .int (0 : Int32)), (4, .int (0 : Int32))]) [1, 2, 3, 4, 0] rfl ?_
      exact j_sub hk [0, 3, 4] rfl (L7_alike_57 hk fk_fuel (0 : Int32) (0 : Int32) st6)
    · exact j_sub hk [0] rfl (T7_alike_22 hk st4)
  · exact j_sub hk [0] rfl (T7_alike_22 hk st2)
theorem dX7_judge_0 : decode cX7_judge 0 = .ok (.aload_n 0, 1) := by decide +kernel
theorem dX7_judge_1 : decode cX7_judge 1 = .ok (.iload_n 1, 1) := by decide +kernel
theorem dX7_judge_2 : decode cX7_judge 2 = .ok (.iload_n 2, 1) := by decide +kernel
theorem dX7_judge_3 : decode cX7_judge 3 = .ok (.invokevirtual 98, 3) := by decide +kernel
theorem dX7_judge_6 : decode cX7_judge 6 = .ok (.istore 4, 2) := by decide +kernel
theorem dX7_judge_8 : decode cX7_judge 8 = .ok (.iload 4, 2) := by decide +kernel
theorem dX7_judge_10 : decode cX7_judge 10 = .ok (.ifCond .eq 10, 3) := by decide +kernel
theorem dX7_judge_13 : decode cX7_judge 13 = .ok (.aload_n 0, 1) := by decide +kernel
theorem dX7_judge_14 : decode cX7_judge 14 = .ok (.iload 4, 2) := by decide +kernel
theorem dX7_judge_16 : decode cX7_judge 16 = .ok (.invokevirtual 139, 3) := by decide +kernel
theorem dX7_judge_19 : decode cX7_judge 19 = .ok (.ireturn, 1) := by decide +kernel
theorem dX7_judge_20 : decode cX7_judge 20 = .ok (.iload_n 3, 1) := by decide +kernel
theorem dX7_judge_21 : decode cX7_judge 21 = .ok (.ifCond .ge 10, 3) := by decide +kernel
theorem dX7_judge_24 : decode cX7_judge 24 = .ok (.aload_n 0, 1) := by decide +kernel
theorem dX7_judge_25 : decode cX7_judge 25 = .ok (.bipush (-4), 2) := by decide +kernel
theorem dX7_judge_27 : decode cX7_judge 27 = .ok (.invokevirtual 139, 3) := by decide +kernel
theorem dX7_judge_30 : decode cX7_judge 30 = .ok (.ireturn, 1) := by decide +kernel
theorem dX7_judge_31 : decode cX7_judge 31 = .ok (.aload_n 0, 1) := by decide +kernel
theorem dX7_judge_32 : decode cX7_judge 32 = .ok (.getfield 11, 3) := by decide +kernel
theorem dX7_judge_35 : decode cX7_judge 35 = .ok (.iload_n 2, 1) := by decide +kernel
theorem dX7_judge_36 : decode cX7_judge 36 = .ok (.aaload, 1) := by decide +kernel
theorem dX7_judge_37 : decode cX7_judge 37 = .ok (.astore 5, 2) := by decide +kernel
theorem dX7_judge_39 : decode cX7_judge 39 = .ok (.iload_n 3, 1) := by decide +kernel
theorem dX7_judge_40 : decode cX7_judge 40 = .ok (.aload 5, 2) := by decide +kernel
theorem dX7_judge_42 : decode cX7_judge 42 = .ok (.getfield 90, 3) := by decide +kernel
theorem dX7_judge_45 : decode cX7_judge 45 = .ok (.iconst 2, 1) := by decide +kernel
theorem dX7_judge_46 : decode cX7_judge 46 = .ok (.idiv, 1) := by decide +kernel
theorem dX7_judge_47 : decode cX7_judge 47 = .ok (.if_icmp .le 10, 3) := by decide +kernel
theorem dX7_judge_50 : decode cX7_judge 50 = .ok (.aload_n 0, 1) := by decide +kernel
theorem dX7_judge_51 : decode cX7_judge 51 = .ok (.bipush (-5), 2) := by decide +kernel
theorem dX7_judge_53 : decode cX7_judge 53 = .ok (.invokevirtual 139, 3) := by decide +kernel
theorem dX7_judge_56 : decode cX7_judge 56 = .ok (.ireturn, 1) := by decide +kernel
theorem dX7_judge_57 : decode cX7_judge 57 = .ok (.aload_n 0, 1) := by decide +kernel
theorem dX7_judge_58 : decode cX7_judge 58 = .ok (.getfield 49, 3) := by decide +kernel
theorem dX7_judge_61 : decode cX7_judge 61 = .ok (.aload_n 0, 1) := by decide +kernel
theorem dX7_judge_62 : decode cX7_judge 62 = .ok (.getfield 11, 3) := by decide +kernel
theorem dX7_judge_65 : decode cX7_judge 65 = .ok (.iload_n 1, 1) := by decide +kernel
theorem dX7_judge_66 : decode cX7_judge 66 = .ok (.aaload, 1) := by decide +kernel
theorem dX7_judge_67 : decode cX7_judge 67 = .ok (.iconst 0, 1) := by decide +kernel
theorem dX7_judge_68 : decode cX7_judge 68 = .ok (.invokevirtual 234, 3) := by decide +kernel
theorem dX7_judge_71 : decode cX7_judge 71 = .ok (.ifCond .eq 9, 3) := by decide +kernel
theorem dX7_judge_74 : decode cX7_judge 74 = .ok (.iload_n 3, 1) := by decide +kernel
theorem dX7_judge_75 : decode cX7_judge 75 = .ok (.bipush 40, 2) := by decide +kernel
theorem dX7_judge_77 : decode cX7_judge 77 = .ok (.if_icmp .le 10, 3) := by decide +kernel
theorem dX7_judge_80 : decode cX7_judge 80 = .ok (.aload_n 0, 1) := by decide +kernel
theorem dX7_judge_81 : decode cX7_judge 81 = .ok (.bipush (-6), 2) := by decide +kernel
theorem dX7_judge_83 : decode cX7_judge 83 = .ok (.invokevirtual 139, 3) := by decide +kernel
theorem dX7_judge_86 : decode cX7_judge 86 = .ok (.ireturn, 1) := by decide +kernel
theorem dX7_judge_87 : decode cX7_judge 87 = .ok (.aload_n 0, 1) := by decide +kernel
theorem dX7_judge_88 : decode cX7_judge 88 = .ok (.getfield 18, 3) := by decide +kernel
theorem dX7_judge_91 : decode cX7_judge 91 = .ok (.getfield 181, 3) := by decide +kernel
theorem dX7_judge_94 : decode cX7_judge 94 = .ok (.istore 6, 2) := by decide +kernel
theorem dX7_judge_96 : decode cX7_judge 96 = .ok (.iconst 0, 1) := by decide +kernel
theorem dX7_judge_97 : decode cX7_judge 97 = .ok (.istore 7, 2) := by decide +kernel
theorem dX7_judge_99 : decode cX7_judge 99 = .ok (.iload 7, 2) := by decide +kernel
theorem dX7_judge_101 : decode cX7_judge 101 = .ok (.iload_n 3, 1) := by decide +kernel
theorem dX7_judge_102 : decode cX7_judge 102 = .ok (.if_icmp .ge 93, 3) := by decide +kernel
theorem dX7_judge_105 : decode cX7_judge 105 = .ok (.aload 5, 2) := by decide +kernel
theorem dX7_judge_107 : decode cX7_judge 107 = .ok (.iconst 2, 1) := by decide +kernel
theorem dX7_judge_108 : decode cX7_judge 108 = .ok (.iload 7, 2) := by decide +kernel
theorem dX7_judge_110 : decode cX7_judge 110 = .ok (.imul, 1) := by decide +kernel
theorem dX7_judge_111 : decode cX7_judge 111 = .ok (.invokevirtual 296, 3) := by decide +kernel
theorem dX7_judge_114 : decode cX7_judge 114 = .ok (.istore 8, 2) := by decide +kernel
theorem dX7_judge_116 : decode cX7_judge 116 = .ok (.aload_n 0, 1) := by decide +kernel
theorem dX7_judge_117 : decode cX7_judge 117 = .ok (.getfield 18, 3) := by decide +kernel
theorem dX7_judge_120 : decode cX7_judge 120 = .ok (.iload 8, 2) := by decide +kernel
theorem dX7_judge_122 : decode cX7_judge 122 = .ok (.invokevirtual 126, 3) := by decide +kernel
theorem dX7_judge_125 : decode cX7_judge 125 = .ok (.ifCond .eq 6, 3) := by decide +kernel
theorem dX7_judge_128 : decode cX7_judge 128 = .ok (.iload 7, 2) := by decide +kernel
theorem dX7_judge_130 : decode cX7_judge 130 = .ok (.ireturn, 1) := by decide +kernel
theorem dX7_judge_131 : decode cX7_judge 131 = .ok (.aload_n 0, 1) := by decide +kernel
theorem dX7_judge_132 : decode cX7_judge 132 = .ok (.getfield 56, 3) := by decide +kernel
theorem dX7_judge_135 : decode cX7_judge 135 = .ok (.aload_n 0, 1) := by decide +kernel
theorem dX7_judge_136 : decode cX7_judge 136 = .ok (.getfield 18, 3) := by decide +kernel
theorem dX7_judge_139 : decode cX7_judge 139 = .ok (.iload 8, 2) := by decide +kernel
theorem dX7_judge_141 : decode cX7_judge 141 = .ok (.invokevirtual 148, 3) := by decide +kernel
theorem dX7_judge_144 : decode cX7_judge 144 = .ok (.aload_n 0, 1) := by decide +kernel
theorem dX7_judge_145 : decode cX7_judge 145 = .ok (.getfield 56, 3) := by decide +kernel
theorem dX7_judge_148 : decode cX7_judge 148 = .ok (.aload_n 0, 1) := by decide +kernel
theorem dX7_judge_149 : decode cX7_judge 149 = .ok (.getfield 49, 3) := by decide +kernel
theorem dX7_judge_152 : decode cX7_judge 152 = .ok (.invokevirtual 158, 3) := by decide +kernel
theorem dX7_judge_155 : decode cX7_judge 155 = .ok (.aload_n 0, 1) := by decide +kernel
theorem dX7_judge_156 : decode cX7_judge 156 = .ok (.getfield 18, 3) := by decide +kernel
theorem dX7_judge_159 : decode cX7_judge 159 = .ok (.aload_n 0, 1) := by decide +kernel
theorem dX7_judge_160 : decode cX7_judge 160 = .ok (.getfield 56, 3) := by decide +kernel
theorem dX7_judge_163 : decode cX7_judge 163 = .ok (.iload 6, 2) := by decide +kernel
theorem dX7_judge_165 : decode cX7_judge 165 = .ok (.invokevirtual 217, 3) := by decide +kernel
theorem dX7_judge_168 : decode cX7_judge 168 = .ok (.istore 6, 2) := by decide +kernel
theorem dX7_judge_170 : decode cX7_judge 170 = .ok (.iload 6, 2) := by decide +kernel
theorem dX7_judge_172 : decode cX7_judge 172 = .ok (.aload 5, 2) := by decide +kernel
theorem dX7_judge_174 : decode cX7_judge 174 = .ok (.iconst 2, 1) := by decide +kernel
theorem dX7_judge_175 : decode cX7_judge 175 = .ok (.iload 7, 2) := by decide +kernel
theorem dX7_judge_177 : decode cX7_judge 177 = .ok (.imul, 1) := by decide +kernel
theorem dX7_judge_178 : decode cX7_judge 178 = .ok (.iconst 1, 1) := by decide +kernel
theorem dX7_judge_179 : decode cX7_judge 179 = .ok (.iadd, 1) := by decide +kernel
theorem dX7_judge_180 : decode cX7_judge 180 = .ok (.invokevirtual 296, 3) := by decide +kernel
theorem dX7_judge_183 : decode cX7_judge 183 = .ok (.if_icmp .eq 6, 3) := by decide +kernel
theorem dX7_judge_186 : decode cX7_judge 186 = .ok (.iload 7, 2) := by decide +kernel
theorem dX7_judge_188 : decode cX7_judge 188 = .ok (.ireturn, 1) := by decide +kernel
theorem dX7_judge_189 : decode cX7_judge 189 = .ok (.iinc 7 1, 3) := by decide +kernel
theorem dX7_judge_192 : decode cX7_judge 192 = .ok (.goto (-93), 3) := by decide +kernel
theorem dX7_judge_195 : decode cX7_judge 195 = .ok (.iconst (-1), 1) := by decide +kernel
theorem dX7_judge_196 : decode cX7_judge 196 = .ok (.ireturn, 1) := by decide +kernel
def B7_judge_80 (st : fkS) : Option (Int32 × fkS) :=
 fk_bind (F7_refuseFar (-6 : Int32) st) <| fun x15 st16 =>
 some (x15, st16)
set_option maxHeartbeats 1000000 in
set_option maxRecDepth 20000 in
theorem T7_judge_80 {g : fkG} {k : fkK} (hk : fk_ok wC g k RX7 cX7_judge 9 (some (.int)) 3 143) : ∀ (st : fkS), fk_J wC g fk_eI k 80 [(0, fk_r g 0)] [] st (B7_judge_80 st) := by
  intro st
  unfold B7_judge_80
  refine j_aload_n (pc := 80) hk 0 rfl ⟨_, rfl⟩ dX7_judge_80 ?_
  refine j_bipush (pc := 81) hk dX7_judge_81 (v := -6) (by decide) ?_
  refine j_callVi (pc := 83) hk [.int (-6 : Int32)] [] rfl (fun l o hq9 => C7_refuseFar (-6 : Int32) st l o hq9) (rcv_7 (rfl)) yv_X7_refuseFar ml_7_139 rfl (Nat.le_of_ble_eq_true rfl) (Nat.le_of_ble_eq_true rfl) (Nat.le_of_ble_eq_true rfl) dX7_judge_83 (fun x15 st16 => ?_)
  exact j_iret (pc := 86) hk dX7_judge_86
def B7_judge_99 (k99 : Int32 → Nat → Int32 → Int32 → fkS → Option (Int32 × fkS)) (v3 : Int32) (v5 : Nat) (v6 : Int32) (v7 : Int32) (st : fkS) : Option (Int32 × fkS) :=
 if v3 ≤ v7 then
 (some ((-1 : Int32), st))
 else
 (fk_bind (F5_number v5 ((2 : Int32) * v7) st) <| fun x17 st18 =>
 fk_bind (F0_lacks 19 x17 st18) <| fun x19 st20 =>
 if x19 = 0 then
 (fk_bind (F6_take 40 19 x17 st20) <| fun _ st21 =>
 fk_bind (F6_speak 40 st21) <| fun _ st22 =>
 fk_bind (F0_endOf 19 40 v6 st22) <| fun x23 st24 =>
 fk_bind (F5_number v5 (((2 : Int32) * v7) + (1 : Int32)) st24) <| fun x25 st26 =>
 if x23 = x25 then
 (k99 v3 v5 x23 (v7 + (1 : Int32)) st26)
 else
 (some (v7, st26)))
 else
 (some (v7, st20)))
set_option maxHeartbeats 1000000 in
set_option maxRecDepth 20000 in
theorem T7_judge_99 {g : fkG} {k : fkK} (hk : fk_ok wC g k RX7 cX7_judge 9 (some (.int)) 3 143) (k99 : Int32 → Nat → Int32 → Int32 → fkS → Option (Int32 × fkS)) (H99 : ∀ (v3 : Int32) (v5 : Nat) (hv5 : kdC v5 = 5) (v6 : Int32) (v7 : Int32) (st : fkS), fk_J wC g fk_eI k 99 [(0, fk_r g 0), (3, .int v3), (5, fk_r g v5), (6, .int v6), (7, .int v7)] [] st (k99 v3 v5 v6 v7 st)) : ∀ (v3 : Int32) (v5 : Nat) (hv5 : kdC v5 = 5) (v6 : Int32) (v7 : Int32) (st : fkS), fk_J wC g fk_eI k 99 [(0, fk_r g 0), (3, .int v3), (5, fk_r g v5), (6, .int v6), (7, .int v7)] [] st (B7_judge_99 k99 v3 v5 v6 v7 st) := by
  intro v3 v5 hv5 v6 v7 st
  unfold B7_judge_99
  refine j_iload (pc := 99) hk 4 rfl dX7_judge_99 ?_
  refine j_iload_n (pc := 101) hk 1 rfl dX7_judge_101 ?_
  refine j_icmp_ge (tgt := 195) (pc := 102) hk (by decide) dX7_judge_102 (fun _ => ?_) (fun _ => ?_)
  · refine j_iconst (pc := 195) hk dX7_judge_195 (v := -1) (by decide) ?_
    exact j_iret (pc := 196) hk dX7_judge_196
  · refine j_aload (pc := 105) hk 2 rfl ⟨_, rfl⟩ dX7_judge_105 ?_
    refine j_iconst (pc := 107) hk dX7_judge_107 (v := 2) (by decide) ?_
    refine j_iload (pc := 108) hk 4 rfl dX7_judge_108 ?_
    refine j_imul (pc := 110) hk dX7_judge_110 ?_
    refine j_callVNi (pc := 111) hk [.int ((2 : Int32) * v7)] [] rfl (fun l o hq9 => C5_number v5 (hv5) ((2 : Int32) * v7) st l o hq9) (rcv_5 (hv5)) yv_X5_number ml_7_296 rfl (Nat.le_of_ble_eq_true rfl) (Nat.le_of_ble_eq_true rfl) (Nat.le_of_ble_eq_true rfl) dX7_judge_111 (fun x17 st18 => ?_)
    refine j_istore (lv' := ((8, .int x17) :: [(0, fk_r g 0), (3, .int v3), (5, fk_r g v5), (6, .int v6), (7, .int v7)])) (pc := 114) hk (by decide) rfl dX7_judge_114 ?_
    refine j_sub hk (lv' := [(0, fk_r g 0), (3, .int v3), (5, fk_r g v5), (6, .int v6), (7, .int v7), (8, .int x17)]) [1, 2, 3, 4, 5, 0] rfl ?_
    refine j_aload_n (pc := 116) hk 0 rfl ⟨_, rfl⟩ dX7_judge_116 ?_
    refine f_7_18 (pc := 117) hk (rfl) dX7_judge_117 ?_
    refine j_iload (pc := 120) hk 5 rfl dX7_judge_120 ?_
    refine j_callVNi (pc := 122) hk [.int x17] [] rfl (fun l o hq9 => C0_lacks 19 (rfl) x17 st18 l o hq9) (rcv_0 (rfl)) yv_X0_lacks ml_7_126 rfl (Nat.le_of_ble_eq_true rfl) (Nat.le_of_ble_eq_true rfl) (Nat.le_of_ble_eq_true rfl) dX7_judge_122 (fun x19 st20 => ?_)
    refine j_if_eq (tgt := 131) (pc := 125) hk (by decide) dX7_judge_125 (fun _ => ?_) (fun _ => ?_)
    · refine j_aload_n (pc := 131) hk 0 rfl ⟨_, rfl⟩ dX7_judge_131 ?_
      refine f_7_56 (pc := 132) hk (rfl) dX7_judge_132 ?_
      refine j_aload_n (pc := 135) hk 0 rfl ⟨_, rfl⟩ dX7_judge_135 ?_
      refine f_7_18 (pc := 136) hk (rfl) dX7_judge_136 ?_
      refine j_iload (pc := 139) hk 5 rfl dX7_judge_139 ?_
      refine j_callVNv (pc := 141) hk [fk_r g 19, .int x17] [] rfl (fun l o hq9 => C6_take 40 19 (rfl) (rfl) x17 st20 l o hq9) (rcv_6 (rfl)) yv_X6_take ml_7_148 rfl (Nat.le_of_ble_eq_true rfl) (Nat.le_of_ble_eq_true rfl) (Nat.le_of_ble_eq_true rfl) dX7_judge_141 (fun _ st21 => ?_)
      refine j_aload_n (pc := 144) hk 0 rfl ⟨_, rfl⟩ dX7_judge_144 ?_
      refine f_7_56 (pc := 145) hk (rfl) dX7_judge_145 ?_
      refine j_aload_n (pc := 148) hk 0 rfl ⟨_, rfl⟩ dX7_judge_148 ?_
      refine f_7_49 (pc := 149) hk (rfl) dX7_judge_149 ?_
      refine j_callVNv (pc := 152) hk [fk_r g 38] [] rfl (fun l o hq9 => C6_speak 40 (rfl) st21 l o hq9) (rcv_6 (rfl)) yv_X6_speak ml_7_158 rfl (Nat.le_of_ble_eq_true rfl) (Nat.le_of_ble_eq_true rfl) (Nat.le_of_ble_eq_true rfl) dX7_judge_152 (fun _ st22 => ?_)
      refine j_aload_n (pc := 155) hk 0 rfl ⟨_, rfl⟩ dX7_judge_155 ?_
      refine f_7_18 (pc := 156) hk (rfl) dX7_judge_156 ?_
      refine j_aload_n (pc := 159) hk 0 rfl ⟨_, rfl⟩ dX7_judge_159 ?_
      refine f_7_56 (pc := 160) hk (rfl) dX7_judge_160 ?_
      refine j_iload (pc := 163) hk 3 rfl dX7_judge_163 ?_
      refine j_callVNi (pc := 165) hk [fk_r g 40, .int v6] [] rfl (fun l o hq9 => C0_endOf 19 40 (rfl) (rfl) v6 st22 l o hq9) (rcv_0 (rfl)) yv_X0_endOf ml_7_217 rfl (Nat.le_of_ble_eq_true rfl) (Nat.le_of_ble_eq_true rfl) (Nat.le_of_ble_eq_true rfl) dX7_judge_165 (fun x23 st24 => ?_)
      refine j_istore (lv' := ((6, .int x23) :: [(0, fk_r g 0), (3, .int v3), (5, fk_r g v5), (7, .int v7), (8, .int x17)])) (pc := 168) hk (by decide) rfl dX7_judge_168 ?_
      refine j_sub hk (lv' := [(0, fk_r g 0), (3, .int v3), (5, fk_r g v5), (6, .int x23), (7, .int v7), (8, .int x17)]) [1, 2, 3, 0, 4, 5] rfl ?_
      refine j_iload (pc := 170) hk 3 rfl dX7_judge_170 ?_
      refine j_aload (pc := 172) hk 2 rfl ⟨_, rfl⟩ dX7_judge_172 ?_
      refine j_iconst (pc := 174) hk dX7_judge_174 (v := 2) (by decide) ?_
      refine j_iload (pc := 175) hk 4 rfl dX7_judge_175 ?_
      refine j_imul (pc := 177) hk dX7_judge_177 ?_
      refine j_iconst (pc := 178) hk dX7_judge_178 (v := 1) (by decide) ?_
      refine j_iadd (pc := 179) hk dX7_judge_179 ?_
      refine j_callVNi (pc := 180) hk [.int (((2 : Int32) * v7) + (1 : Int32))] [.int x23] rfl (fun l o hq9 => C5_number v5 (hv5) (((2 : Int32) * v7) + (1 : Int32)) st24 l o hq9) (rcv_5 (hv5)) yv_X5_number ml_7_296 rfl (Nat.le_of_ble_eq_true rfl) (Nat.le_of_ble_eq_true rfl) (Nat.le_of_ble_eq_true rfl) dX7_judge_180 (fun x25 st26 => ?_)
      refine j_icmp_eq (tgt := 189) (pc := 183) hk (by decide) dX7_judge_183 (fun _ => ?_) (fun _ => ?_)
      · refine j_iinc (dd := (1 : Int32)) (lv' := ((7, .int (v7 + (1 : Int32))) :: [(0, fk_r g 0), (3, .int v3), (5, fk_r g v5), (6, .int x23), (8, .int x17)])) (pc := 189) hk 4 rfl (by decide) (by decide) rfl dX7_judge_189 ?_
        refine j_sub hk (lv' := [(0, fk_r g 0), (3, .int v3), (5, fk_r g v5), (6, .int x23), (7, .int (v7 + (1 : Int32))), (8, .int x17)]) [1, 2, 3, 4, 0, 5] rfl ?_
        refine j_goto (tgt := 99) (pc := 192) hk (by decide) dX7_judge_192 ?_
        exact j_sub hk [0, 1, 2, 3, 4] rfl (H99 v3 v5 (hv5) x23 (v7 + (1 : Int32)) st26)
      · refine j_iload (pc := 186) hk 4 rfl dX7_judge_186 ?_
        exact j_iret (pc := 188) hk dX7_judge_188
    · refine j_iload (pc := 128) hk 4 rfl dX7_judge_128 ?_
      exact j_iret (pc := 130) hk dX7_judge_130
set_option maxHeartbeats 1000000 in
set_option maxRecDepth 20000 in
theorem L7_judge_99 {g : fkG} {k : fkK} (hk : fk_ok wC g k RX7 cX7_judge 9 (some (.int)) 3 143) (fu : Nat) : ∀ (v3 : Int32) (v5 : Nat) (hv5 : kdC v5 = 5) (v6 : Int32) (v7 : Int32) (st : fkS), fk_J wC g fk_eI k 99 [(0, fk_r g 0), (3, .int v3), (5, fk_r g v5), (6, .int v6), (7, .int v7)] [] st (fk_lp4 (B7_judge_99) fu v3 v5 v6 v7 st) := by
  induction fu with
  | zero =>
    intro v3 v5 hv5 v6 v7 st
    exact j_none hk
  | succ fu ih =>
    exact T7_judge_99 hk _ ih
def F7_judge (p1 : Int32) (p2 : Int32) (p3 : Int32) (st : fkS) : Option (Int32 × fkS) :=
 fk_bind (F7_noRows p1 p2 st) <| fun x1 st2 =>
 if x1 = 0 then
 (if 0 ≤ p3 then
 (fk_chk (fk_in p2 8) <|
 fk_let (gI st2 103 (3 + p2.toNatClampNeg)) <| fun x4 =>
 if p3 ≤ (x4 / (2 : Int32)) then
 (fk_chk (fk_in p1 8) <|
 fk_bind (F3_take (3 + p1.toNatClampNeg) (0 : Int32) st2) <| fun x6 st7 =>
 if x6 = 0 then
 (B7_judge_80 st7)
 else
 (if p3 ≤ (40 : Int32) then
 (fk_let (gI st7 6 19) <| fun x8 =>
 fk_lp4 (B7_judge_99) fk_fuel p3 (3 + p2.toNatClampNeg) x8 (0 : Int32) st7)
 else
 (B7_judge_80 st7)))
 else
 (fk_bind (F7_refuseFar (-5 : Int32) st2) <| fun x9 st10 =>
 some (x9, st10)))
 else
 (fk_bind (F7_refuseFar (-4 : Int32) st2) <| fun x11 st12 =>
 some (x11, st12)))
 else
 (fk_bind (F7_refuseFar x1 st2) <| fun x13 st14 =>
 some (x13, st14))
set_option maxHeartbeats 1000000 in
set_option maxRecDepth 20000 in
theorem C7_judge (p1 : Int32) (p2 : Int32) (p3 : Int32) (st : fkS) {g : fkG} (l : Launch) (o : Int32 × fkS) (hF : F7_judge p1 p2 p3 st = some o) : fk_C wC yX7_judge cX7_judge 9 (some (.int)) 3 143 l g [fk_r g 0, .int p1, .int p2, .int p3] st (fk_eI o.1) o.2 := by
  refine fk_begin rfl (Nat.le_of_ble_eq_true rfl) (fun k hk => ?_) o hF
  have hk : fk_ok wC g k RX7 cX7_judge 9 (some (.int)) 3 143 := hk
  show fk_J wC g fk_eI k 0 [(0, fk_r g 0), (1, .int p1), (2, .int p2), (3, .int p3)] [] st (F7_judge p1 p2 p3 st)
  unfold F7_judge
  refine j_aload_n (pc := 0) hk 0 rfl ⟨_, rfl⟩ dX7_judge_0 ?_
  refine j_iload_n (pc := 1) hk 1 rfl dX7_judge_1 ?_
  refine j_iload_n (pc := 2) hk 2 rfl dX7_judge_2 ?_
  refine j_callVi (pc := 3) hk [.int p1, .int p2] [] rfl (fun l o hq9 => C7_noRows p1 p2 st l o hq9) (rcv_7 (rfl)) yv_X7_noRows ml_7_98 rfl (Nat.le_of_ble_eq_true rfl) (Nat.le_of_ble_eq_true rfl) (Nat.le_of_ble_eq_true rfl) dX7_judge_3 (fun x1 st2 => ?_)
  refine j_istore (lv' := ((4, .int x1) :: [(0, fk_r g 0), (1, .int p1), (2, .int p2), (3, .int p3)])) (pc := 6) hk (by decide) rfl dX7_judge_6 ?_
  refine j_sub hk (lv' := [(0, fk_r g 0), (1, .int p1), (2, .int p2), (3, .int p3), (4, .int x1)]) [1, 2, 3, 4, 0] rfl ?_
  refine j_iload (pc := 8) hk 4 rfl dX7_judge_8 ?_
  refine j_if_eq (tgt := 20) (pc := 10) hk (by decide) dX7_judge_10 (fun _ => ?_) (fun _ => ?_)
  · refine j_iload_n (pc := 20) hk 3 rfl dX7_judge_20 ?_
    refine j_if_ge (tgt := 31) (pc := 21) hk (by decide) dX7_judge_21 (fun _ => ?_) (fun _ => ?_)
    · refine j_aload_n (pc := 31) hk 0 rfl ⟨_, rfl⟩ dX7_judge_31 ?_
      refine f_7_11 (pc := 32) hk (rfl) dX7_judge_32 ?_
      refine j_iload_n (pc := 35) hk 2 rfl dX7_judge_35 ?_
      refine a_shelf (pc := 36) hk dX7_judge_36 (fun hs3 => ?_)
      refine j_astore (lv' := ((5, fk_r g (3 + p2.toNatClampNeg)) :: [(0, fk_r g 0), (1, .int p1), (2, .int p2), (3, .int p3), (4, .int x1)])) (pc := 37) hk ⟨_, rfl⟩ (by decide) rfl dX7_judge_37 ?_
      refine j_sub hk (lv' := [(0, fk_r g 0), (1, .int p1), (2, .int p2), (3, .int p3), (4, .int x1), (5, fk_r g (3 + p2.toNatClampNeg))]) [1, 2, 3, 4, 5, 0] rfl ?_
      refine j_iload_n (pc := 39) hk 3 rfl dX7_judge_39 ?_
      refine j_aload (pc := 40) hk 5 rfl ⟨_, rfl⟩ dX7_judge_40 ?_
      refine f_7_90 (pc := 42) hk (hs3) dX7_judge_42 (fun x4 => ?_)
      refine j_iconst (pc := 45) hk dX7_judge_45 (v := 2) (by decide) ?_
      refine j_idiv (pc := 46) hk (show fk_nz (2 : Int32) = true from by decide) dX7_judge_46 ?_
      refine j_icmp_le (tgt := 57) (pc := 47) hk (by decide) dX7_judge_47 (fun _ => ?_) (fun _ => ?_)
      · refine j_aload_n (pc := 57) hk 0 rfl ⟨_, rfl⟩ dX7_judge_57 ?_
        refine f_7_49 (pc := 58) hk (rfl) dX7_judge_58 ?_
        refine j_aload_n (pc := 61) hk 0 rfl ⟨_, rfl⟩ dX7_judge_61 ?_
        refine f_7_11 (pc := 62) hk (rfl) dX7_judge_62 ?_
        refine j_iload_n (pc := 65) hk 1 rfl dX7_judge_65 ?_
        refine a_shelf (pc := 66) hk dX7_judge_66 (fun hs5 => ?_)
        refine j_iconst (pc := 67) hk dX7_judge_67 (v := 0) (by decide) ?_
        refine j_callVNi (pc := 68) hk [fk_r g (3 + p1.toNatClampNeg), .int (0 : Int32)] [] rfl (fun l o hq9 => C3_take (3 + p1.toNatClampNeg) (hs5) (0 : Int32) st2 l o hq9) (rcv_3 (rfl)) yv_X3_take ml_7_234 rfl (Nat.le_of_ble_eq_true rfl) (Nat.le_of_ble_eq_true rfl) (Nat.le_of_ble_eq_true rfl) dX7_judge_68 (fun x6 st7 => ?_)
        refine j_if_eq (tgt := 80) (pc := 71) hk (by decide) dX7_judge_71 (fun _ => ?_) (fun _ => ?_)
        · exact j_sub hk [0] rfl (T7_judge_80 hk st7)
        · refine j_iload_n (pc := 74) hk 3 rfl dX7_judge_74 ?_
          refine j_bipush (pc := 75) hk dX7_judge_75 (v := 40) (by decide) ?_
          refine j_icmp_le (tgt := 87) (pc := 77) hk (by decide) dX7_judge_77 (fun _ => ?_) (fun _ => ?_)
          · refine j_aload_n (pc := 87) hk 0 rfl ⟨_, rfl⟩ dX7_judge_87 ?_
            refine f_7_18 (pc := 88) hk (rfl) dX7_judge_88 ?_
            refine f_7_181 (pc := 91) hk (rfl) dX7_judge_91 (fun x8 => ?_)
            refine j_istore (lv' := ((6, .int x8) :: [(0, fk_r g 0), (1, .int p1), (2, .int p2), (3, .int p3), (4, .int x1), (5, fk_r g (3 + p2.toNatClampNeg))])) (pc := 94) hk (by decide) rfl dX7_judge_94 ?_
            refine j_sub hk (lv' := [(0, fk_r g 0), (1, .int p1), (2, .int p2), (3, .int p3), (4, .int x1), (5, fk_r g (3 + p2.toNatClampNeg)), (6, .int x8)]) [1, 2, 3, 4, 5, 6, 0] rfl ?_
            refine j_iconst (pc := 96) hk dX7_judge_96 (v := 0) (by decide) ?_
            refine j_istore (lv' := ((7, .int (0 : Int32)) :: [(0, fk_r g 0), (1, .int p1), (2, .int p2), (3, .int p3), (4, .int x1), (5, fk_r g (3 + p2.toNatClampNeg)), (6, .int x8)])) (pc := 97) hk (by decide) rfl dX7_judge_97 ?_
            refine j_sub hk (lv' := [(0, fk_r g 0), (1, .int p1), (2, .int p2), (3, .int p3), (4, .int x1), (5, fk_r g (3 + p2.toNatClampNeg)), (6, .int x8), (7, .int (0 : Int32))]) [1, 2, 3, 4, 5, 6, 7, 0] rfl ?_
            exact j_sub hk [0, 3, 5, 6, 7] rfl (L7_judge_99 hk fk_fuel p3 (3 + p2.toNatClampNeg) (hs3) x8 (0 : Int32) st7)
          · exact j_sub hk [0] rfl (T7_judge_80 hk st7)
      · refine j_aload_n (pc := 50) hk 0 rfl ⟨_, rfl⟩ dX7_judge_50 ?_
        refine j_bipush (pc := 51) hk dX7_judge_51 (v := -5) (by decide) ?_
        refine j_callVi (pc := 53) hk [.int (-5 : Int32)] [] rfl (fun l o hq9 => C7_refuseFar (-5 : Int32) st2 l o hq9) (rcv_7 (rfl)) yv_X7_refuseFar ml_7_139 rfl (Nat.le_of_ble_eq_true rfl) (Nat.le_of_ble_eq_true rfl) (Nat.le_of_ble_eq_true rfl) dX7_judge_53 (fun x9 st10 => ?_)
        exact j_iret (pc := 56) hk dX7_judge_56
    · refine j_aload_n (pc := 24) hk 0 rfl ⟨_, rfl⟩ dX7_judge_24 ?_
      refine j_bipush (pc := 25) hk dX7_judge_25 (v := -4) (by decide) ?_
      refine j_callVi (pc := 27) hk [.int (-4 : Int32)] [] rfl (fun l o hq9 => C7_refuseFar (-4 : Int32) st2 l o hq9) (rcv_7 (rfl)) yv_X7_refuseFar ml_7_139 rfl (Nat.le_of_ble_eq_true rfl) (Nat.le_of_ble_eq_true rfl) (Nat.le_of_ble_eq_true rfl) dX7_judge_27 (fun x11 st12 => ?_)
      exact j_iret (pc := 30) hk dX7_judge_30
  · refine j_aload_n (pc := 13) hk 0 rfl ⟨_, rfl⟩ dX7_judge_13 ?_
    refine j_iload (pc := 14) hk 4 rfl dX7_judge_14 ?_
    refine j_callVi (pc := 16) hk [.int x1] [] rfl (fun l o hq9 => C7_refuseFar x1 st2 l o hq9) (rcv_7 (rfl)) yv_X7_refuseFar ml_7_139 rfl (Nat.le_of_ble_eq_true rfl) (Nat.le_of_ble_eq_true rfl) (Nat.le_of_ble_eq_true rfl) dX7_judge_16 (fun x13 st14 => ?_)
    exact j_iret (pc := 19) hk dX7_judge_19
theorem dX7_bakeInTruth_0 : decode cX7_bakeInTruth 0 = .ok (.aload_n 0, 1) := by decide +kernel
theorem dX7_bakeInTruth_1 : decode cX7_bakeInTruth 1 = .ok (.getfield 56, 3) := by decide +kernel
theorem dX7_bakeInTruth_4 : decode cX7_bakeInTruth 4 = .ok (.aload_n 0, 1) := by decide +kernel
theorem dX7_bakeInTruth_5 : decode cX7_bakeInTruth 5 = .ok (.getfield 18, 3) := by decide +kernel
theorem dX7_bakeInTruth_8 : decode cX7_bakeInTruth 8 = .ok (.iload_n 1, 1) := by decide +kernel
theorem dX7_bakeInTruth_9 : decode cX7_bakeInTruth 9 = .ok (.invokevirtual 148, 3) := by decide +kernel
theorem dX7_bakeInTruth_12 : decode cX7_bakeInTruth 12 = .ok (.aload_n 0, 1) := by decide +kernel
theorem dX7_bakeInTruth_13 : decode cX7_bakeInTruth 13 = .ok (.getfield 56, 3) := by decide +kernel
theorem dX7_bakeInTruth_16 : decode cX7_bakeInTruth 16 = .ok (.aload_n 0, 1) := by decide +kernel
theorem dX7_bakeInTruth_17 : decode cX7_bakeInTruth 17 = .ok (.getfield 49, 3) := by decide +kernel
theorem dX7_bakeInTruth_20 : decode cX7_bakeInTruth 20 = .ok (.invokevirtual 158, 3) := by decide +kernel
theorem dX7_bakeInTruth_23 : decode cX7_bakeInTruth 23 = .ok (.aload_n 0, 1) := by decide +kernel
theorem dX7_bakeInTruth_24 : decode cX7_bakeInTruth 24 = .ok (.getfield 18, 3) := by decide +kernel
theorem dX7_bakeInTruth_27 : decode cX7_bakeInTruth 27 = .ok (.dup, 1) := by decide +kernel
theorem dX7_bakeInTruth_28 : decode cX7_bakeInTruth 28 = .ok (.getfield 308, 3) := by decide +kernel
theorem dX7_bakeInTruth_31 : decode cX7_bakeInTruth 31 = .ok (.aload_n 0, 1) := by decide +kernel
theorem dX7_bakeInTruth_32 : decode cX7_bakeInTruth 32 = .ok (.getfield 18, 3) := by decide +kernel
theorem dX7_bakeInTruth_35 : decode cX7_bakeInTruth 35 = .ok (.aload_n 0, 1) := by decide +kernel
theorem dX7_bakeInTruth_36 : decode cX7_bakeInTruth 36 = .ok (.getfield 56, 3) := by decide +kernel
theorem dX7_bakeInTruth_39 : decode cX7_bakeInTruth 39 = .ok (.invokevirtual 221, 3) := by decide +kernel
theorem dX7_bakeInTruth_42 : decode cX7_bakeInTruth 42 = .ok (.iadd, 1) := by decide +kernel
theorem dX7_bakeInTruth_43 : decode cX7_bakeInTruth 43 = .ok (.putfield 308, 3) := by decide +kernel
theorem dX7_bakeInTruth_46 : decode cX7_bakeInTruth 46 = .ok (.aload_n 0, 1) := by decide +kernel
theorem dX7_bakeInTruth_47 : decode cX7_bakeInTruth 47 = .ok (.getfield 18, 3) := by decide +kernel
theorem dX7_bakeInTruth_50 : decode cX7_bakeInTruth 50 = .ok (.aload_n 0, 1) := by decide +kernel
theorem dX7_bakeInTruth_51 : decode cX7_bakeInTruth 51 = .ok (.getfield 18, 3) := by decide +kernel
theorem dX7_bakeInTruth_54 : decode cX7_bakeInTruth 54 = .ok (.aload_n 0, 1) := by decide +kernel
theorem dX7_bakeInTruth_55 : decode cX7_bakeInTruth 55 = .ok (.getfield 56, 3) := by decide +kernel
theorem dX7_bakeInTruth_58 : decode cX7_bakeInTruth 58 = .ok (.aload_n 0, 1) := by decide +kernel
theorem dX7_bakeInTruth_59 : decode cX7_bakeInTruth 59 = .ok (.getfield 18, 3) := by decide +kernel
theorem dX7_bakeInTruth_62 : decode cX7_bakeInTruth 62 = .ok (.getfield 181, 3) := by decide +kernel
theorem dX7_bakeInTruth_65 : decode cX7_bakeInTruth 65 = .ok (.invokevirtual 217, 3) := by decide +kernel
theorem dX7_bakeInTruth_68 : decode cX7_bakeInTruth 68 = .ok (.putfield 181, 3) := by decide +kernel
theorem dX7_bakeInTruth_71 : decode cX7_bakeInTruth 71 = .ok (.aload_n 0, 1) := by decide +kernel
theorem dX7_bakeInTruth_72 : decode cX7_bakeInTruth 72 = .ok (.getfield 18, 3) := by decide +kernel
theorem dX7_bakeInTruth_75 : decode cX7_bakeInTruth 75 = .ok (.dup, 1) := by decide +kernel
theorem dX7_bakeInTruth_76 : decode cX7_bakeInTruth 76 = .ok (.getfield 331, 3) := by decide +kernel
theorem dX7_bakeInTruth_79 : decode cX7_bakeInTruth 79 = .ok (.iconst 1, 1) := by decide +kernel
theorem dX7_bakeInTruth_80 : decode cX7_bakeInTruth 80 = .ok (.iadd, 1) := by decide +kernel
theorem dX7_bakeInTruth_81 : decode cX7_bakeInTruth 81 = .ok (.putfield 331, 3) := by decide +kernel
theorem dX7_bakeInTruth_84 : decode cX7_bakeInTruth 84 = .ok (.return_, 1) := by decide +kernel
def F7_bakeInTruth (p1 : Int32) (st : fkS) : Option (Unit × fkS) :=
 fk_bind (F6_take 40 19 p1 st) <| fun _ st1 =>
 fk_bind (F6_speak 40 st1) <| fun _ st2 =>
 fk_let (gI st2 9 19) <| fun x3 =>
 fk_bind (F0_illsOf 19 40 st2) <| fun x4 st5 =>
 fk_let (sI st5 9 19 (x3 + x4)) <| fun st6 =>
 fk_let (gI st6 6 19) <| fun x7 =>
 fk_bind (F0_endOf 19 40 x7 st6) <| fun x8 st9 =>
 fk_let (sI st9 6 19 x8) <| fun st10 =>
 fk_let (gI st10 8 19) <| fun x11 =>
 fk_let (sI st10 8 19 (x11 + (1 : Int32))) <| fun st12 =>
 some ((), st12)
set_option maxHeartbeats 1000000 in
set_option maxRecDepth 20000 in
theorem C7_bakeInTruth (p1 : Int32) (st : fkS) {g : fkG} (l : Launch) (o : Unit × fkS) (hF : F7_bakeInTruth p1 st = some o) : fk_C wC yX7_bakeInTruth cX7_bakeInTruth 2 none 3 143 l g [fk_r g 0, .int p1] st (fk_eU o.1) o.2 := by
  refine fk_begin rfl (Nat.le_of_ble_eq_true rfl) (fun k hk => ?_) o hF
  have hk : fk_ok wC g k RX7 cX7_bakeInTruth 2 none 3 143 := hk
  show fk_J wC g fk_eU k 0 [(0, fk_r g 0), (1, .int p1)] [] st (F7_bakeInTruth p1 st)
  unfold F7_bakeInTruth
  refine j_aload_n (pc := 0) hk 0 rfl ⟨_, rfl⟩ dX7_bakeInTruth_0 ?_
  refine f_7_56 (pc := 1) hk (rfl) dX7_bakeInTruth_1 ?_
  refine j_aload_n (pc := 4) hk 0 rfl ⟨_, rfl⟩ dX7_bakeInTruth_4 ?_
  refine f_7_18 (pc := 5) hk (rfl) dX7_bakeInTruth_5 ?_
  refine j_iload_n (pc := 8) hk 1 rfl dX7_bakeInTruth_8 ?_
  refine j_callVNv (pc := 9) hk [fk_r g 19, .int p1] [] rfl (fun l o hq9 => C6_take 40 19 (rfl) (rfl) p1 st l o hq9) (rcv_6 (rfl)) yv_X6_take ml_7_148 rfl (Nat.le_of_ble_eq_true rfl) (Nat.le_of_ble_eq_true rfl) (Nat.le_of_ble_eq_true rfl) dX7_bakeInTruth_9 (fun _ st1 => ?_)
  refine j_aload_n (pc := 12) hk 0 rfl ⟨_, rfl⟩ dX7_bakeInTruth_12 ?_
  refine f_7_56 (pc := 13) hk (rfl) dX7_bakeInTruth_13 ?_
  refine j_aload_n (pc := 16) hk 0 rfl ⟨_, rfl⟩ dX7_bakeInTruth_16 ?_
  refine f_7_49 (pc := 17) hk (rfl) dX7_bakeInTruth_17 ?_
  refine j_callVNv (pc := 20) hk [fk_r g 38] [] rfl (fun l o hq9 => C6_speak 40 (rfl) st1 l o hq9) (rcv_6 (rfl)) yv_X6_speak ml_7_158 rfl (Nat.le_of_ble_eq_true rfl) (Nat.le_of_ble_eq_true rfl) (Nat.le_of_ble_eq_true rfl) dX7_bakeInTruth_20 (fun _ st2 => ?_)
  refine j_aload_n (pc := 23) hk 0 rfl ⟨_, rfl⟩ dX7_bakeInTruth_23 ?_
  refine f_7_18 (pc := 24) hk (rfl) dX7_bakeInTruth_24 ?_
  refine j_dup (pc := 27) hk rfl dX7_bakeInTruth_27 ?_
  refine f_7_308 (pc := 28) hk (rfl) dX7_bakeInTruth_28 (fun x3 => ?_)
  refine j_aload_n (pc := 31) hk 0 rfl ⟨_, rfl⟩ dX7_bakeInTruth_31 ?_
  refine f_7_18 (pc := 32) hk (rfl) dX7_bakeInTruth_32 ?_
  refine j_aload_n (pc := 35) hk 0 rfl ⟨_, rfl⟩ dX7_bakeInTruth_35 ?_
  refine f_7_56 (pc := 36) hk (rfl) dX7_bakeInTruth_36 ?_
  refine j_callVNi (pc := 39) hk [fk_r g 40] [.int x3, fk_r g 19] rfl (fun l o hq9 => C0_illsOf 19 40 (rfl) (rfl) st2 l o hq9) (rcv_0 (rfl)) yv_X0_illsOf ml_7_221 rfl (Nat.le_of_ble_eq_true rfl) (Nat.le_of_ble_eq_true rfl) (Nat.le_of_ble_eq_true rfl) dX7_bakeInTruth_39 (fun x4 st5 => ?_)
  refine j_iadd (pc := 42) hk dX7_bakeInTruth_42 ?_
  refine p_7_308 (pc := 43) hk (rfl) dX7_bakeInTruth_43 (fun st6 => ?_)
  refine j_aload_n (pc := 46) hk 0 rfl ⟨_, rfl⟩ dX7_bakeInTruth_46 ?_
  refine f_7_18 (pc := 47) hk (rfl) dX7_bakeInTruth_47 ?_
  refine j_aload_n (pc := 50) hk 0 rfl ⟨_, rfl⟩ dX7_bakeInTruth_50 ?_
  refine f_7_18 (pc := 51) hk (rfl) dX7_bakeInTruth_51 ?_
  refine j_aload_n (pc := 54) hk 0 rfl ⟨_, rfl⟩ dX7_bakeInTruth_54 ?_
  refine f_7_56 (pc := 55) hk (rfl) dX7_bakeInTruth_55 ?_
  refine j_aload_n (pc := 58) hk 0 rfl ⟨_, rfl⟩ dX7_bakeInTruth_58 ?_
  refine f_7_18 (pc := 59) hk (rfl) dX7_bakeInTruth_59 ?_
  refine f_7_181 (pc := 62) hk (rfl) dX7_bakeInTruth_62 (fun x7 => ?_)
  refine j_callVNi (pc := 65) hk [fk_r g 40, .int x7] [fk_r g 19] rfl (fun l o hq9 => C0_endOf 19 40 (rfl) (rfl) x7 st6 l o hq9) (rcv_0 (rfl)) yv_X0_endOf ml_7_217 rfl (Nat.le_of_ble_eq_true rfl) (Nat.le_of_ble_eq_true rfl) (Nat.le_of_ble_eq_true rfl) dX7_bakeInTruth_65 (fun x8 st9 => ?_)
  refine p_7_181 (pc := 68) hk (rfl) dX7_bakeInTruth_68 (fun st10 => ?_)
  refine j_aload_n (pc := 71) hk 0 rfl ⟨_, rfl⟩ dX7_bakeInTruth_71 ?_
  refine f_7_18 (pc := 72) hk (rfl) dX7_bakeInTruth_72 ?_
  refine j_dup (pc := 75) hk rfl dX7_bakeInTruth_75 ?_
  refine f_7_331 (pc := 76) hk (rfl) dX7_bakeInTruth_76 (fun x11 => ?_)
  refine j_iconst (pc := 79) hk dX7_bakeInTruth_79 (v := 1) (by decide) ?_
  refine j_iadd (pc := 80) hk dX7_bakeInTruth_80 ?_
  refine p_7_331 (pc := 81) hk (rfl) dX7_bakeInTruth_81 (fun st12 => ?_)
  exact j_vret (pc := 84) hk dX7_bakeInTruth_84
theorem dX7_bake_0 : decode cX7_bake 0 = .ok (.aload_n 0, 1) := by decide +kernel
theorem dX7_bake_1 : decode cX7_bake 1 = .ok (.iload_n 1, 1) := by decide +kernel
theorem dX7_bake_2 : decode cX7_bake 2 = .ok (.iload_n 2, 1) := by decide +kernel
theorem dX7_bake_3 : decode cX7_bake 3 = .ok (.invokevirtual 210, 3) := by decide +kernel
theorem dX7_bake_6 : decode cX7_bake 6 = .ok (.istore_n 3, 1) := by decide +kernel
theorem dX7_bake_7 : decode cX7_bake 7 = .ok (.iload_n 3, 1) := by decide +kernel
theorem dX7_bake_8 : decode cX7_bake 8 = .ok (.ifCond .eq 9, 3) := by decide +kernel
theorem dX7_bake_11 : decode cX7_bake 11 = .ok (.aload_n 0, 1) := by decide +kernel
theorem dX7_bake_12 : decode cX7_bake 12 = .ok (.iload_n 3, 1) := by decide +kernel
theorem dX7_bake_13 : decode cX7_bake 13 = .ok (.invokevirtual 79, 3) := by decide +kernel
theorem dX7_bake_16 : decode cX7_bake 16 = .ok (.ireturn, 1) := by decide +kernel
theorem dX7_bake_17 : decode cX7_bake 17 = .ok (.aload_n 0, 1) := by decide +kernel
theorem dX7_bake_18 : decode cX7_bake 18 = .ok (.iload_n 2, 1) := by decide +kernel
theorem dX7_bake_19 : decode cX7_bake 19 = .ok (.invokevirtual 299, 3) := by decide +kernel
theorem dX7_bake_22 : decode cX7_bake 22 = .ok (.aload_n 0, 1) := by decide +kernel
theorem dX7_bake_23 : decode cX7_bake 23 = .ok (.getfield 18, 3) := by decide +kernel
theorem dX7_bake_26 : decode cX7_bake 26 = .ok (.getfield 181, 3) := by decide +kernel
theorem dX7_bake_29 : decode cX7_bake 29 = .ok (.ireturn, 1) := by decide +kernel
def F7_bake (p1 : Int32) (p2 : Int32) (st : fkS) : Option (Int32 × fkS) :=
 fk_bind (F7_noPieOf p1 p2 st) <| fun x1 st2 =>
 if x1 = 0 then
 (fk_bind (F7_bakeInTruth p2 st2) <| fun _ st3 =>
 fk_let (gI st3 6 19) <| fun x4 =>
 some (x4, st3))
 else
 (fk_bind (F7_refuse x1 st2) <| fun x5 st6 =>
 some (x5, st6))
set_option maxHeartbeats 1000000 in
set_option maxRecDepth 20000 in
theorem C7_bake (p1 : Int32) (p2 : Int32) (st : fkS) {g : fkG} (l : Launch) (o : Int32 × fkS) (hF : F7_bake p1 p2 st = some o) : fk_C wC yX7_bake cX7_bake 4 (some (.int)) 5 164 l g [fk_r g 0, .int p1, .int p2] st (fk_eI o.1) o.2 := by
  refine fk_begin rfl (Nat.le_of_ble_eq_true rfl) (fun k hk => ?_) o hF
  have hk : fk_ok wC g k RX7 cX7_bake 4 (some (.int)) 5 164 := hk
  show fk_J wC g fk_eI k 0 [(0, fk_r g 0), (1, .int p1), (2, .int p2)] [] st (F7_bake p1 p2 st)
  unfold F7_bake
  refine j_aload_n (pc := 0) hk 0 rfl ⟨_, rfl⟩ dX7_bake_0 ?_
  refine j_iload_n (pc := 1) hk 1 rfl dX7_bake_1 ?_
  refine j_iload_n (pc := 2) hk 2 rfl dX7_bake_2 ?_
  refine j_callVi (pc := 3) hk [.int p1, .int p2] [] rfl (fun l o hq9 => C7_noPieOf p1 p2 st l o hq9) (rcv_7 (rfl)) yv_X7_noPieOf ml_7_210 rfl (Nat.le_of_ble_eq_true rfl) (Nat.le_of_ble_eq_true rfl) (Nat.le_of_ble_eq_true rfl) dX7_bake_3 (fun x1 st2 => ?_)
  refine j_istore_n (lv' := ((3, .int x1) :: [(0, fk_r g 0), (1, .int p1), (2, .int p2)])) (pc := 6) hk rfl (by decide) rfl dX7_bake_6 ?_
  refine j_sub hk (lv' := [(0, fk_r g 0), (1, .int p1), (2, .int p2), (3, .int x1)]) [1, 2, 3, 0] rfl ?_
  refine j_iload_n (pc := 7) hk 3 rfl dX7_bake_7 ?_
  refine j_if_eq (tgt := 17) (pc := 8) hk (by decide) dX7_bake_8 (fun _ => ?_) (fun _ => ?_)
  · refine j_aload_n (pc := 17) hk 0 rfl ⟨_, rfl⟩ dX7_bake_17 ?_
    refine j_iload_n (pc := 18) hk 2 rfl dX7_bake_18 ?_
    refine j_callVv (pc := 19) hk [.int p2] [] rfl (fun l o hq9 => C7_bakeInTruth p2 st2 l o hq9) (rcv_7 (rfl)) yv_X7_bakeInTruth ml_7_299 rfl (Nat.le_of_ble_eq_true rfl) (Nat.le_of_ble_eq_true rfl) (Nat.le_of_ble_eq_true rfl) dX7_bake_19 (fun _ st3 => ?_)
    refine j_aload_n (pc := 22) hk 0 rfl ⟨_, rfl⟩ dX7_bake_22 ?_
    refine f_7_18 (pc := 23) hk (rfl) dX7_bake_23 ?_
    refine f_7_181 (pc := 26) hk (rfl) dX7_bake_26 (fun x4 => ?_)
    exact j_iret (pc := 29) hk dX7_bake_29
  · refine j_aload_n (pc := 11) hk 0 rfl ⟨_, rfl⟩ dX7_bake_11 ?_
    refine j_iload_n (pc := 12) hk 3 rfl dX7_bake_12 ?_
    refine j_callVi (pc := 13) hk [.int x1] [] rfl (fun l o hq9 => C7_refuse x1 st2 l o hq9) (rcv_7 (rfl)) yv_X7_refuse ml_7_79 rfl (Nat.le_of_ble_eq_true rfl) (Nat.le_of_ble_eq_true rfl) (Nat.le_of_ble_eq_true rfl) dX7_bake_13 (fun x5 st6 => ?_)
    exact j_iret (pc := 16) hk dX7_bake_16
