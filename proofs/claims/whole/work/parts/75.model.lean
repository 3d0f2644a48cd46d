/-! the reference is made (printed by gen/g5.py) -/
theorem dX8_init_0 : decode cX8_init 0 = .ok (.aload_n 0, 1) := by decide +kernel
theorem dX8_init_1 : decode cX8_init 1 = .ok (.invokespecial 1, 3) := by decide +kernel
theorem dX8_init_4 : decode cX8_init 4 = .ok (.aload_n 0, 1) := by decide +kernel
theorem dX8_init_5 : decode cX8_init 5 = .ok (.bipush 7, 2) := by decide +kernel
theorem dX8_init_7 : decode cX8_init 7 = .ok (.newarray .int, 2) := by decide +kernel
theorem dX8_init_9 : decode cX8_init 9 = .ok (.putfield 7, 3) := by decide +kernel
theorem dX8_init_12 : decode cX8_init 12 = .ok (.aload_n 0, 1) := by decide +kernel
theorem dX8_init_13 : decode cX8_init 13 = .ok (.bipush 7, 2) := by decide +kernel
theorem dX8_init_15 : decode cX8_init 15 = .ok (.newarray .int, 2) := by decide +kernel
theorem dX8_init_17 : decode cX8_init 17 = .ok (.putfield 13, 3) := by decide +kernel
theorem dX8_init_20 : decode cX8_init 20 = .ok (.aload_n 0, 1) := by decide +kernel
theorem dX8_init_21 : decode cX8_init 21 = .ok (.bipush 7, 2) := by decide +kernel
theorem dX8_init_23 : decode cX8_init 23 = .ok (.newarray .int, 2) := by decide +kernel
theorem dX8_init_25 : decode cX8_init 25 = .ok (.putfield 16, 3) := by decide +kernel
theorem dX8_init_28 : decode cX8_init 28 = .ok (.aload_n 0, 1) := by decide +kernel
theorem dX8_init_29 : decode cX8_init 29 = .ok (.iconst 3, 1) := by decide +kernel
theorem dX8_init_30 : decode cX8_init 30 = .ok (.newarray .int, 2) := by decide +kernel
theorem dX8_init_32 : decode cX8_init 32 = .ok (.putfield 19, 3) := by decide +kernel
theorem dX8_init_35 : decode cX8_init 35 = .ok (.aload_n 0, 1) := by decide +kernel
theorem dX8_init_36 : decode cX8_init 36 = .ok (.bipush 40, 2) := by decide +kernel
theorem dX8_init_38 : decode cX8_init 38 = .ok (.newarray .int, 2) := by decide +kernel
theorem dX8_init_40 : decode cX8_init 40 = .ok (.putfield 22, 3) := by decide +kernel
theorem dX8_init_43 : decode cX8_init 43 = .ok (.aload_n 0, 1) := by decide +kernel
theorem dX8_init_44 : decode cX8_init 44 = .ok (.bipush 8, 2) := by decide +kernel
theorem dX8_init_46 : decode cX8_init 46 = .ok (.newarray .int, 2) := by decide +kernel
theorem dX8_init_48 : decode cX8_init 48 = .ok (.putfield 25, 3) := by decide +kernel
theorem dX8_init_51 : decode cX8_init 51 = .ok (.aload_n 0, 1) := by decide +kernel
theorem dX8_init_52 : decode cX8_init 52 = .ok (.bipush 8, 2) := by decide +kernel
theorem dX8_init_54 : decode cX8_init 54 = .ok (.newarray .int, 2) := by decide +kernel
theorem dX8_init_56 : decode cX8_init 56 = .ok (.putfield 28, 3) := by decide +kernel
theorem dX8_init_59 : decode cX8_init 59 = .ok (.aload_n 0, 1) := by decide +kernel
theorem dX8_init_60 : decode cX8_init 60 = .ok (.sipush 1280, 3) := by decide +kernel
theorem dX8_init_63 : decode cX8_init 63 = .ok (.newarray .long, 2) := by decide +kernel
theorem dX8_init_65 : decode cX8_init 65 = .ok (.putfield 31, 3) := by decide +kernel
theorem dX8_init_68 : decode cX8_init 68 = .ok (.aload_n 0, 1) := by decide +kernel
theorem dX8_init_69 : decode cX8_init 69 = .ok (.iconst 3, 1) := by decide +kernel
theorem dX8_init_70 : decode cX8_init 70 = .ok (.newarray .int, 2) := by decide +kernel
theorem dX8_init_72 : decode cX8_init 72 = .ok (.putfield 35, 3) := by decide +kernel
theorem dX8_init_75 : decode cX8_init 75 = .ok (.aload_n 0, 1) := by decide +kernel
theorem dX8_init_76 : decode cX8_init 76 = .ok (.bipush 67, 2) := by decide +kernel
theorem dX8_init_78 : decode cX8_init 78 = .ok (.newarray .int, 2) := by decide +kernel
theorem dX8_init_80 : decode cX8_init 80 = .ok (.putfield 38, 3) := by decide +kernel
theorem dX8_init_83 : decode cX8_init 83 = .ok (.aload_n 0, 1) := by decide +kernel
theorem dX8_init_84 : decode cX8_init 84 = .ok (.bipush 20, 2) := by decide +kernel
theorem dX8_init_86 : decode cX8_init 86 = .ok (.newarray .int, 2) := by decide +kernel
theorem dX8_init_88 : decode cX8_init 88 = .ok (.putfield 41, 3) := by decide +kernel
theorem dX8_init_91 : decode cX8_init 91 = .ok (.aload_n 0, 1) := by decide +kernel
theorem dX8_init_92 : decode cX8_init 92 = .ok (.bipush 8, 2) := by decide +kernel
theorem dX8_init_94 : decode cX8_init 94 = .ok (.newarray .int, 2) := by decide +kernel
theorem dX8_init_96 : decode cX8_init 96 = .ok (.putfield 44, 3) := by decide +kernel
theorem dX8_init_99 : decode cX8_init 99 = .ok (.aload_n 0, 1) := by decide +kernel
theorem dX8_init_100 : decode cX8_init 100 = .ok (.bipush 67, 2) := by decide +kernel
theorem dX8_init_102 : decode cX8_init 102 = .ok (.newarray .int, 2) := by decide +kernel
theorem dX8_init_104 : decode cX8_init 104 = .ok (.putfield 47, 3) := by decide +kernel
theorem dX8_init_107 : decode cX8_init 107 = .ok (.aload_n 0, 1) := by decide +kernel
theorem dX8_init_108 : decode cX8_init 108 = .ok (.bipush 8, 2) := by decide +kernel
theorem dX8_init_110 : decode cX8_init 110 = .ok (.newarray .int, 2) := by decide +kernel
theorem dX8_init_112 : decode cX8_init 112 = .ok (.putfield 50, 3) := by decide +kernel
theorem dX8_init_115 : decode cX8_init 115 = .ok (.aload_n 0, 1) := by decide +kernel
theorem dX8_init_116 : decode cX8_init 116 = .ok (.bipush 16, 2) := by decide +kernel
theorem dX8_init_118 : decode cX8_init 118 = .ok (.newarray .int, 2) := by decide +kernel
theorem dX8_init_120 : decode cX8_init 120 = .ok (.putfield 53, 3) := by decide +kernel
theorem dX8_init_123 : decode cX8_init 123 = .ok (.aload_n 0, 1) := by decide +kernel
theorem dX8_init_124 : decode cX8_init 124 = .ok (.bipush 7, 2) := by decide +kernel
theorem dX8_init_126 : decode cX8_init 126 = .ok (.newarray .int, 2) := by decide +kernel
theorem dX8_init_128 : decode cX8_init 128 = .ok (.putfield 56, 3) := by decide +kernel
theorem dX8_init_131 : decode cX8_init 131 = .ok (.aload_n 0, 1) := by decide +kernel
theorem dX8_init_132 : decode cX8_init 132 = .ok (.bipush 14, 2) := by decide +kernel
theorem dX8_init_134 : decode cX8_init 134 = .ok (.newarray .int, 2) := by decide +kernel
theorem dX8_init_136 : decode cX8_init 136 = .ok (.putfield 59, 3) := by decide +kernel
theorem dX8_init_139 : decode cX8_init 139 = .ok (.aload_n 0, 1) := by decide +kernel
theorem dX8_init_140 : decode cX8_init 140 = .ok (.bipush 7, 2) := by decide +kernel
theorem dX8_init_142 : decode cX8_init 142 = .ok (.newarray .int, 2) := by decide +kernel
theorem dX8_init_144 : decode cX8_init 144 = .ok (.putfield 62, 3) := by decide +kernel
theorem dX8_init_147 : decode cX8_init 147 = .ok (.aload_n 0, 1) := by decide +kernel
theorem dX8_init_148 : decode cX8_init 148 = .ok (.bipush 7, 2) := by decide +kernel
theorem dX8_init_150 : decode cX8_init 150 = .ok (.newarray .int, 2) := by decide +kernel
theorem dX8_init_152 : decode cX8_init 152 = .ok (.putfield 65, 3) := by decide +kernel
theorem dX8_init_155 : decode cX8_init 155 = .ok (.aload_n 0, 1) := by decide +kernel
theorem dX8_init_156 : decode cX8_init 156 = .ok (.bipush 7, 2) := by decide +kernel
theorem dX8_init_158 : decode cX8_init 158 = .ok (.newarray .int, 2) := by decide +kernel
theorem dX8_init_160 : decode cX8_init 160 = .ok (.putfield 68, 3) := by decide +kernel
theorem dX8_init_163 : decode cX8_init 163 = .ok (.aload_n 0, 1) := by decide +kernel
theorem dX8_init_164 : decode cX8_init 164 = .ok (.bipush 7, 2) := by decide +kernel
theorem dX8_init_166 : decode cX8_init 166 = .ok (.newarray .int, 2) := by decide +kernel
theorem dX8_init_168 : decode cX8_init 168 = .ok (.putfield 71, 3) := by decide +kernel
theorem dX8_init_171 : decode cX8_init 171 = .ok (.aload_n 0, 1) := by decide +kernel
theorem dX8_init_172 : decode cX8_init 172 = .ok (.getfield 19, 3) := by decide +kernel
theorem dX8_init_175 : decode cX8_init 175 = .ok (.iconst 0, 1) := by decide +kernel
theorem dX8_init_176 : decode cX8_init 176 = .ok (.iconst 5, 1) := by decide +kernel
theorem dX8_init_177 : decode cX8_init 177 = .ok (.iastore, 1) := by decide +kernel
theorem dX8_init_178 : decode cX8_init 178 = .ok (.aload_n 0, 1) := by decide +kernel
theorem dX8_init_179 : decode cX8_init 179 = .ok (.iconst 1, 1) := by decide +kernel
theorem dX8_init_180 : decode cX8_init 180 = .ok (.putfield 74, 3) := by decide +kernel
theorem dX8_init_183 : decode cX8_init 183 = .ok (.aload_n 0, 1) := by decide +kernel
theorem dX8_init_184 : decode cX8_init 184 = .ok (.iconst (-1), 1) := by decide +kernel
theorem dX8_init_185 : decode cX8_init 185 = .ok (.putfield 78, 3) := by decide +kernel
theorem dX8_init_188 : decode cX8_init 188 = .ok (.iconst 0, 1) := by decide +kernel
theorem dX8_init_189 : decode cX8_init 189 = .ok (.istore_n 1, 1) := by decide +kernel
theorem dX8_init_190 : decode cX8_init 190 = .ok (.iload_n 1, 1) := by decide +kernel
theorem dX8_init_191 : decode cX8_init 191 = .ok (.bipush 8, 2) := by decide +kernel
theorem dX8_init_193 : decode cX8_init 193 = .ok (.if_icmp .ge 40, 3) := by decide +kernel
theorem dX8_init_196 : decode cX8_init 196 = .ok (.iconst 0, 1) := by decide +kernel
theorem dX8_init_197 : decode cX8_init 197 = .ok (.istore_n 2, 1) := by decide +kernel
theorem dX8_init_198 : decode cX8_init 198 = .ok (.iload_n 2, 1) := by decide +kernel
theorem dX8_init_199 : decode cX8_init 199 = .ok (.iconst 5, 1) := by decide +kernel
theorem dX8_init_200 : decode cX8_init 200 = .ok (.if_icmp .ge 27, 3) := by decide +kernel
theorem dX8_init_203 : decode cX8_init 203 = .ok (.aload_n 0, 1) := by decide +kernel
theorem dX8_init_204 : decode cX8_init 204 = .ok (.getfield 22, 3) := by decide +kernel
theorem dX8_init_207 : decode cX8_init 207 = .ok (.iconst 5, 1) := by decide +kernel
theorem dX8_init_208 : decode cX8_init 208 = .ok (.iload_n 1, 1) := by decide +kernel
theorem dX8_init_209 : decode cX8_init 209 = .ok (.imul, 1) := by decide +kernel
theorem dX8_init_210 : decode cX8_init 210 = .ok (.iload_n 2, 1) := by decide +kernel
theorem dX8_init_211 : decode cX8_init 211 = .ok (.iadd, 1) := by decide +kernel
theorem dX8_init_212 : decode cX8_init 212 = .ok (.iload_n 1, 1) := by decide +kernel
theorem dX8_init_213 : decode cX8_init 213 = .ok (.iload_n 2, 1) := by decide +kernel
theorem dX8_init_214 : decode cX8_init 214 = .ok (.iadd, 1) := by decide +kernel
theorem dX8_init_215 : decode cX8_init 215 = .ok (.iconst 1, 1) := by decide +kernel
theorem dX8_init_216 : decode cX8_init 216 = .ok (.iadd, 1) := by decide +kernel
theorem dX8_init_217 : decode cX8_init 217 = .ok (.bipush 8, 2) := by decide +kernel
theorem dX8_init_219 : decode cX8_init 219 = .ok (.irem, 1) := by decide +kernel
theorem dX8_init_220 : decode cX8_init 220 = .ok (.iastore, 1) := by decide +kernel
theorem dX8_init_221 : decode cX8_init 221 = .ok (.iinc 2 1, 3) := by decide +kernel
theorem dX8_init_224 : decode cX8_init 224 = .ok (.goto (-26), 3) := by decide +kernel
theorem dX8_init_227 : decode cX8_init 227 = .ok (.iinc 1 1, 3) := by decide +kernel
theorem dX8_init_230 : decode cX8_init 230 = .ok (.goto (-40), 3) := by decide +kernel
theorem dX8_init_233 : decode cX8_init 233 = .ok (.iconst 0, 1) := by decide +kernel
theorem dX8_init_234 : decode cX8_init 234 = .ok (.istore_n 1, 1) := by decide +kernel
theorem dX8_init_235 : decode cX8_init 235 = .ok (.iload_n 1, 1) := by decide +kernel
theorem dX8_init_236 : decode cX8_init 236 = .ok (.bipush 8, 2) := by decide +kernel
theorem dX8_init_238 : decode cX8_init 238 = .ok (.if_icmp .ge 16, 3) := by decide +kernel
theorem dX8_init_241 : decode cX8_init 241 = .ok (.aload_n 0, 1) := by decide +kernel
theorem dX8_init_242 : decode cX8_init 242 = .ok (.getfield 25, 3) := by decide +kernel
theorem dX8_init_245 : decode cX8_init 245 = .ok (.iload_n 1, 1) := by decide +kernel
theorem dX8_init_246 : decode cX8_init 246 = .ok (.iconst (-1), 1) := by decide +kernel
theorem dX8_init_247 : decode cX8_init 247 = .ok (.iastore, 1) := by decide +kernel
theorem dX8_init_248 : decode cX8_init 248 = .ok (.iinc 1 1, 3) := by decide +kernel
theorem dX8_init_251 : decode cX8_init 251 = .ok (.goto (-16), 3) := by decide +kernel
theorem dX8_init_254 : decode cX8_init 254 = .ok (.return_, 1) := by decide +kernel
theorem wzm_8_1 : Cond.methodLink RX8 1 objectInit ∈ fkB := fkB_in (tb_in4 (List.mem_of_getElem? (i := 77) (by decide +kernel))) rfl
theorem wz_8_7 : Cond.fieldLink RX8 7 "PieFunnelsModel" "kind" "[I" ∈ fkB := fkB_in (tb_in4 (List.mem_of_getElem? (i := 79) (by decide +kernel))) rfl
theorem wz_8_13 : Cond.fieldLink RX8 13 "PieFunnelsModel" "a" "[I" ∈ fkB := fkB_in (tb_in4 (List.mem_of_getElem? (i := 80) (by decide +kernel))) rfl
theorem wz_8_16 : Cond.fieldLink RX8 16 "PieFunnelsModel" "mouth" "[I" ∈ fkB := fkB_in (tb_in4 (List.mem_of_getElem? (i := 81) (by decide +kernel))) rfl
theorem wz_8_19 : Cond.fieldLink RX8 19 "PieFunnelsModel" "ways" "[I" ∈ fkB := fkB_in (tb_in4 (List.mem_of_getElem? (i := 82) (by decide +kernel))) rfl
theorem wz_8_22 : Cond.fieldLink RX8 22 "PieFunnelsModel" "table" "[I" ∈ fkB := fkB_in (tb_in4 (List.mem_of_getElem? (i := 83) (by decide +kernel))) rfl
theorem wz_8_25 : Cond.fieldLink RX8 25 "PieFunnelsModel" "holding" "[I" ∈ fkB := fkB_in (tb_in4 (List.mem_of_getElem? (i := 87) (by decide +kernel))) rfl
theorem wz_8_28 : Cond.fieldLink RX8 28 "PieFunnelsModel" "rowLength" "[I" ∈ fkB := fkB_in (tb_in4 (List.mem_of_getElem? (i := 88) (by decide +kernel))) rfl
theorem wz_8_31 : Cond.fieldLink RX8 31 "PieFunnelsModel" "rowOf" "[J" ∈ fkB := fkB_in (tb_in4 (List.mem_of_getElem? (i := 89) (by decide +kernel))) rfl
theorem wz_8_35 : Cond.fieldLink RX8 35 "PieFunnelsModel" "numbers" "[I" ∈ fkB := fkB_in (tb_in4 (List.mem_of_getElem? (i := 92) (by decide +kernel))) rfl
theorem wz_8_38 : Cond.fieldLink RX8 38 "PieFunnelsModel" "ahead" "[I" ∈ fkB := fkB_in (tb_in4 (List.mem_of_getElem? (i := 94) (by decide +kernel))) rfl
theorem wz_8_41 : Cond.fieldLink RX8 41 "PieFunnelsModel" "traces" "[I" ∈ fkB := fkB_in (tb_in4 (List.mem_of_getElem? (i := 96) (by decide +kernel))) rfl
theorem wz_8_44 : Cond.fieldLink RX8 44 "PieFunnelsModel" "refusals" "[I" ∈ fkB := fkB_in (tb_in4 (List.mem_of_getElem? (i := 97) (by decide +kernel))) rfl
theorem wz_8_47 : Cond.fieldLink RX8 47 "PieFunnelsModel" "old" "[I" ∈ fkB := fkB_in (tb_in4 (List.mem_of_getElem? (i := 99) (by decide +kernel))) rfl
theorem wz_8_50 : Cond.fieldLink RX8 50 "PieFunnelsModel" "pie" "[I" ∈ fkB := fkB_in (tb_in4 (List.mem_of_getElem? (i := 101) (by decide +kernel))) rfl
theorem wz_8_53 : Cond.fieldLink RX8 53 "PieFunnelsModel" "signs" "[I" ∈ fkB := fkB_in (tb_in4 (List.mem_of_getElem? (i := 103) (by decide +kernel))) rfl
theorem wz_8_56 : Cond.fieldLink RX8 56 "PieFunnelsModel" "group" "[I" ∈ fkB := fkB_in (tb_in4 (List.mem_of_getElem? (i := 106) (by decide +kernel))) rfl
theorem wz_8_59 : Cond.fieldLink RX8 59 "PieFunnelsModel" "groupSigns" "[I" ∈ fkB := fkB_in (tb_in4 (List.mem_of_getElem? (i := 107) (by decide +kernel))) rfl
theorem wz_8_62 : Cond.fieldLink RX8 62 "PieFunnelsModel" "wished" "[I" ∈ fkB := fkB_in (tb_in4 (List.mem_of_getElem? (i := 108) (by decide +kernel))) rfl
theorem wz_8_65 : Cond.fieldLink RX8 65 "PieFunnelsModel" "brought" "[I" ∈ fkB := fkB_in (tb_in4 (List.mem_of_getElem? (i := 110) (by decide +kernel))) rfl
theorem wz_8_68 : Cond.fieldLink RX8 68 "PieFunnelsModel" "tried" "[I" ∈ fkB := fkB_in (tb_in4 (List.mem_of_getElem? (i := 111) (by decide +kernel))) rfl
theorem wz_8_71 : Cond.fieldLink RX8 71 "PieFunnelsModel" "best" "[I" ∈ fkB := fkB_in (tb_in4 (List.mem_of_getElem? (i := 112) (by decide +kernel))) rfl
theorem wz_8_74 : Cond.fieldLink RX8 74 "PieFunnelsModel" "seed" "I" ∈ fkB := fkB_in (tb_in4 (List.mem_of_getElem? (i := 86) (by decide +kernel))) rfl
theorem wz_8_78 : Cond.fieldLink RX8 78 "PieFunnelsModel" "fault" "I" ∈ fkB := fkB_in (tb_in4 (List.mem_of_getElem? (i := 93) (by decide +kernel))) rfl
set_option maxHeartbeats 4000000 in
set_option maxRecDepth 100000 in
theorem m8_in {p : Program} {l : Launch} {e : Env} {R : Room} {s : State} {m : MethodId} {args : Array Value} {below : List Frame} {meth : Method} {c : Code} {H0 : Heap} {cells slots : Nat} {Q : State → Prop} {A : Nat → Prop} {D : va_G} {cI cL : ClassId} {h0 q5 : Nat} {fs : List Value} {wsF : (Nat → Int32) → va_W}
    (hx : p.tables.exec = Jvm.exec) (hb : c.code = cX8_init) (hts : ∀ w ∈ fkB, w.before args s = true) (hown : s.vm.findClass RX8 = some m.cls) (hK : va_K D vwCl [(cI, .int), (cL, .long)] s)
    (f0 : ∀ f, (wsF f)[0]? = some (h0, .inr (8, fs))) (f1 : fs[5]? = some (.ref q5)) (f4 : ∀ f, (wsF f)[5]? = some (q5, .inl (cI, 40, .inl f))) (fS : ∀ f g, (wsF f).set 5 (q5, .inl (cI, 40, .inl g)) = wsF g) {i : Nat} (hi8 : i < 8)
    (kk : ∀ (f : Nat → Int32) (H : Heap) (locs : List Loc) (ls : Array Slot), (∀ k, k < 5 * (i + 1) → f k = tabF k) → lv_has ls 3 [(1, .int (nI i)), (0, .ref h0)] → va_P D vwCl (wsF f) H → va_D A (wsF f) → va_S A H0 H locs → W p l e R s m args below meth c H locs cells slots Q (F0 m 227 ls [])) :
    ∀ (d j : Nat) (f : Nat → Int32) (H : Heap) (locs : List Loc) (ls : Array Slot), j + d = 5 → (∀ k, k < 5 * i + j → f k = tabF k) → lv_has ls 3 [(2, .int (nI j)), (1, .int (nI i)), (0, .ref h0)] → va_P D vwCl (wsF f) H → va_D A (wsF f) → va_S A H0 H locs → W p l e R s m args below meth c H locs cells slots Q (F0 m 198 ls []) := by
  intro d
  induction d with
  | zero =>
    intro j f H locs ls hj hf hl hP hD hS
    obtain rfl : j = 5 := by omega
    refine lv_iload_n hx hb dX8_init_198 rfl (lv_at hl 0 rfl) ?_
    refine lv_iconst (v := 5) hx hb dX8_init_199 (by decide) ?_
    refine lv_icmp_ge (tgt := 227) hx hb dX8_init_200 (by decide) (fun _ => ?_) (fun z => absurd (by decide) z)
    exact kk f H locs ls (fun k hk => hf k (by omega)) (lv_sub hl [1, 2] rfl) hP hD hS
  | succ d ih =>
    intro j f H locs ls hj hf hl hP hD hS
    refine lv_iload_n hx hb dX8_init_198 rfl (lv_at hl 0 rfl) ?_
    refine lv_iconst (v := 5) hx hb dX8_init_199 (by decide) ?_
    refine lv_icmp_ge (tgt := 227) hx hb dX8_init_200 (by decide) (fun z => ?_) (fun _ => ?_)
    · rw [zl5, nI_leI (by decide) (by omega)] at z
      omega
    · refine lv_aload_n hx hb dX8_init_203 rfl (lv_at hl 2 rfl) ?_
      refine va_get (D := D) (ci := 8) (v := .ref q5) (C := RX8) (T := TX8) (N := 37) hx hb hts wB_8 hown hK hP 0 (f0 f) rfl 5 (by decide) (hts _ wz_8_22) (fun _ h9 => h9) f1 dX8_init_204 ?_
      refine lv_iconst (v := 5) hx hb dX8_init_207 (by decide) ?_
      refine lv_iload_n hx hb dX8_init_208 rfl (lv_at hl 1 rfl) ?_
      refine lv_imul hx hb dX8_init_209 ?_
      refine lv_iload_n hx hb dX8_init_210 rfl (lv_at hl 0 rfl) ?_
      refine lv_iadd hx hb dX8_init_211 ?_
      refine lv_iload_n hx hb dX8_init_212 rfl (lv_at hl 1 rfl) ?_
      refine lv_iload_n hx hb dX8_init_213 rfl (lv_at hl 0 rfl) ?_
      refine lv_iadd hx hb dX8_init_214 ?_
      refine lv_iconst (v := 1) hx hb dX8_init_215 (by decide) ?_
      refine lv_iadd hx hb dX8_init_216 ?_
      refine lv_bipush (v := 8) hx hb dX8_init_217 (by decide) ?_
      refine lv_irem hx hb dX8_init_219 (by decide) ?_
      have e5 : (5 : Int32) * nI i + nI j = nI (5 * i + j) := by rw [zl5, pk_mul, nI_add]
      rw [tab_ok2 hi8 (show j < 5 by omega), e5]
      refine va_iast hx hb hK hP hD hS 5 0 (f4 f) rfl (i := nI (5 * i + j)) (vp_in_nI (by omega) (by omega)) dX8_init_220 (fun H locs hP hD hS => ?_)
      rw [nI_clamp (by omega), fS] at hP hD
      refine lv_iinc (v := nI (j + 1)) (lv' := [(2, .int (nI (j + 1))), (1, .int (nI i)), (0, .ref h0)]) hx hb dX8_init_221 hl (k := 0) rfl (nI_1 j) (by decide) rfl (fun ls hl => ?_)
      refine lv_goto (tgt := 198) hx hb dX8_init_224 (by decide) ?_
      refine ih (j + 1) _ H _ ls (by omega) (fun k hk => ?_) hl hP hD hS
      by_cases q : k = 5 * i + j
      · rw [q, upd_same]
      · rw [upd_ne q]
        exact hf k (by omega)
set_option maxHeartbeats 4000000 in
set_option maxRecDepth 100000 in
theorem m8_out {p : Program} {l : Launch} {e : Env} {R : Room} {s : State} {m : MethodId} {args : Array Value} {below : List Frame} {meth : Method} {c : Code} {H0 : Heap} {cells slots : Nat} {Q : State → Prop} {A : Nat → Prop} {D : va_G} {cI cL : ClassId} {h0 q5 : Nat} {fs : List Value} {wsF : (Nat → Int32) → va_W}
    (hx : p.tables.exec = Jvm.exec) (hb : c.code = cX8_init) (hts : ∀ w ∈ fkB, w.before args s = true) (hown : s.vm.findClass RX8 = some m.cls) (hK : va_K D vwCl [(cI, .int), (cL, .long)] s)
    (f0 : ∀ f, (wsF f)[0]? = some (h0, .inr (8, fs))) (f1 : fs[5]? = some (.ref q5)) (f4 : ∀ f, (wsF f)[5]? = some (q5, .inl (cI, 40, .inl f))) (fS : ∀ f g, (wsF f).set 5 (q5, .inl (cI, 40, .inl g)) = wsF g)
    (kk : ∀ (H : Heap) (locs : List Loc) (ls : Array Slot), lv_has ls 3 [(0, .ref h0)] → va_P D vwCl (wsF tabF) H → va_D A (wsF tabF) → va_S A H0 H locs → W p l e R s m args below meth c H locs cells slots Q (F0 m 233 ls [])) :
    ∀ (d i : Nat) (f : Nat → Int32) (H : Heap) (locs : List Loc) (ls : Array Slot), i + d = 8 → (∀ k, k < 5 * i → f k = tabF k) → lv_has ls 3 [(1, .int (nI i)), (0, .ref h0)] → va_P D vwCl (wsF f) H → va_D A (wsF f) → va_S A H0 H locs → W p l e R s m args below meth c H locs cells slots Q (F0 m 190 ls []) := by
  intro d
  induction d with
  | zero =>
    intro i f H locs ls hi hf hl hP hD hS
    obtain rfl : i = 8 := by omega
    refine lv_iload_n hx hb dX8_init_190 rfl (lv_at hl 0 rfl) ?_
    refine lv_bipush (v := 8) hx hb dX8_init_191 (by decide) ?_
    refine lv_icmp_ge (tgt := 233) hx hb dX8_init_193 (by decide) (fun _ => ?_) (fun z => absurd (by decide) z)
    have hc : vp_cell cI (40, .inl f) = vp_cell cI (40, .inl tabF) := by
      rw [vp_cell_i, vp_cell_i]
      exact arrV_cg (fun j hj => by rw [hf j (by omega)])
    have hP2 : va_P D vwCl (wsF tabF) H := by
      rw [← fS f tabF]
      exact va_P.cg (a := (cI, 40, .inl f)) (a' := (cI, 40, .inl tabF)) hP (f4 f) hc
    have hD2 : va_D A (wsF tabF) := by
      rw [← fS f tabF]
      exact hD.set (f4 f)
    exact kk H locs ls (lv_sub hl [1] rfl) hP2 hD2 hS
  | succ d ih =>
    intro i f H locs ls hi hf hl hP hD hS
    refine lv_iload_n hx hb dX8_init_190 rfl (lv_at hl 0 rfl) ?_
    refine lv_bipush (v := 8) hx hb dX8_init_191 (by decide) ?_
    refine lv_icmp_ge (tgt := 233) hx hb dX8_init_193 (by decide) (fun z => ?_) (fun _ => ?_)
    · rw [zl8, nI_leI (by decide) (by omega)] at z
      omega
    · refine lv_iconst (v := 0) hx hb dX8_init_196 (by decide) ?_
      refine lv_istore_n (lv' := [(2, .int 0), (1, .int (nI i)), (0, .ref h0)]) hx hb dX8_init_197 rfl hl (by decide) rfl (fun ls hl => ?_)
      refine m8_in hx hb hts hown hK f0 f1 f4 fS (show i < 8 by omega) (fun f H locs ls hf hl hP hD hS => ?_) 5 0 f H locs ls rfl (fun k hk => hf k (by omega)) hl hP hD hS
      refine lv_iinc (v := nI (i + 1)) (lv' := [(1, .int (nI (i + 1))), (0, .ref h0)]) hx hb dX8_init_227 hl (k := 0) rfl (nI_1 i) (by decide) rfl (fun ls hl => ?_)
      refine lv_goto (tgt := 190) hx hb dX8_init_230 (by decide) ?_
      exact ih (i + 1) f H _ ls (by omega) hf hl hP hD hS
set_option maxHeartbeats 4000000 in
set_option maxRecDepth 100000 in
theorem m8_hold {p : Program} {l : Launch} {e : Env} {R : Room} {s : State} {m : MethodId} {args : Array Value} {below : List Frame} {meth : Method} {c : Code} {H0 : Heap} {cells slots : Nat} {Q : State → Prop} {A : Nat → Prop} {D : va_G} {cI cL : ClassId} {h0 q6 : Nat} {fs : List Value} {wsF : (Nat → Int32) → va_W}
    (hx : p.tables.exec = Jvm.exec) (hb : c.code = cX8_init) (hts : ∀ w ∈ fkB, w.before args s = true) (hown : s.vm.findClass RX8 = some m.cls) (hK : va_K D vwCl [(cI, .int), (cL, .long)] s)
    (f0 : ∀ f, (wsF f)[0]? = some (h0, .inr (8, fs))) (f1 : fs[9]? = some (.ref q6)) (f4 : ∀ f, (wsF f)[6]? = some (q6, .inl (cI, 8, .inl f))) (fS : ∀ f g, (wsF f).set 6 (q6, .inl (cI, 8, .inl g)) = wsF g)
    (kk : ∀ (H : Heap) (locs : List Loc) (ls : Array Slot), va_P D vwCl (wsF (fun _ => -1)) H → va_D A (wsF (fun _ => -1)) → va_S A H0 H locs → W p l e R s m args below meth c H locs cells slots Q (F0 m 254 ls [])) :
    ∀ (d i : Nat) (f : Nat → Int32) (H : Heap) (locs : List Loc) (ls : Array Slot), i + d = 8 → (∀ k, k < i → f k = -1) → lv_has ls 3 [(1, .int (nI i)), (0, .ref h0)] → va_P D vwCl (wsF f) H → va_D A (wsF f) → va_S A H0 H locs → W p l e R s m args below meth c H locs cells slots Q (F0 m 235 ls []) := by
  intro d
  induction d with
  | zero =>
    intro i f H locs ls hi hf hl hP hD hS
    obtain rfl : i = 8 := by omega
    refine lv_iload_n hx hb dX8_init_235 rfl (lv_at hl 0 rfl) ?_
    refine lv_bipush (v := 8) hx hb dX8_init_236 (by decide) ?_
    refine lv_icmp_ge (tgt := 254) hx hb dX8_init_238 (by decide) (fun _ => ?_) (fun z => absurd (by decide) z)
    have hc : vp_cell cI (8, .inl f) = vp_cell cI (8, .inl (fun _ => -1)) := by
      rw [vp_cell_i, vp_cell_i]
      exact arrV_cg (fun j hj => by rw [hf j hj])
    have hP2 : va_P D vwCl (wsF (fun _ => -1)) H := by
      rw [← fS f (fun _ => -1)]
      exact va_P.cg (a := (cI, 8, .inl f)) (a' := (cI, 8, .inl (fun _ => -1))) hP (f4 f) hc
    have hD2 : va_D A (wsF (fun _ => -1)) := by
      rw [← fS f (fun _ => -1)]
      exact hD.set (f4 f)
    exact kk H locs ls hP2 hD2 hS
  | succ d ih =>
    intro i f H locs ls hi hf hl hP hD hS
    refine lv_iload_n hx hb dX8_init_235 rfl (lv_at hl 0 rfl) ?_
    refine lv_bipush (v := 8) hx hb dX8_init_236 (by decide) ?_
    refine lv_icmp_ge (tgt := 254) hx hb dX8_init_238 (by decide) (fun z => ?_) (fun _ => ?_)
    · rw [zl8, nI_leI (by decide) (by omega)] at z
      omega
    · refine lv_aload_n hx hb dX8_init_241 rfl (lv_at hl 1 rfl) ?_
      refine va_get (D := D) (ci := 8) (v := .ref q6) (C := RX8) (T := TX8) (N := 37) hx hb hts wB_8 hown hK hP 0 (f0 f) rfl 9 (by decide) (hts _ wz_8_25) (fun _ h9 => h9) f1 dX8_init_242 ?_
      refine lv_iload_n hx hb dX8_init_245 rfl (lv_at hl 0 rfl) ?_
      refine lv_iconst (v := -1) hx hb dX8_init_246 (by decide) ?_
      refine va_iast hx hb hK hP hD hS 6 0 (f4 f) rfl (i := nI i) (x := -1) (vp_in_nI (by omega) (by omega)) dX8_init_247 (fun H locs hP hD hS => ?_)
      rw [nI_clamp (by omega), fS] at hP hD
      refine lv_iinc (v := nI (i + 1)) (lv' := [(1, .int (nI (i + 1))), (0, .ref h0)]) hx hb dX8_init_248 hl (k := 0) rfl (nI_1 i) (by decide) rfl (fun ls hl => ?_)
      refine lv_goto (tgt := 235) hx hb dX8_init_251 (by decide) ?_
      refine ih (i + 1) _ H _ ls (by omega) (fun k hk => ?_) hl hP hD hS
      by_cases q : k = i
      · rw [q, upd_same]
      · rw [upd_ne q]
        exact hf k (by omega)
def stM : fkS := (fun f i => if f = 15 then -1 else if f = 8 then 1 else 0, fun i => if i = 4 then upd (fun _ => 0) 0 5 else if i = 5 then tabF else if i = 6 then (fun _ => -1) else fun _ => 0, fun _ _ => 0, none)
set_option maxHeartbeats 4000000 in
set_option maxRecDepth 100000 in
theorem wsM_eq {D : va_G} {cI cL cS : ClassId} {r : fkR} {h0 q1 q2 q3 q4 q5 q6 q7 q8 q9 q10 q11 q12 q13 q14 q15 q16 q17 q18 q19 q20 q21 : Nat} : fk_ws wM (adL (h0 :: q1 :: q2 :: q3 :: q4 :: q5 :: q6 :: q7 :: q8 :: q9 :: q10 :: q11 :: q12 :: q13 :: q14 :: q15 :: q16 :: q17 :: q18 :: q19 :: q20 :: q21 :: []), D, (cI, cL, cS), r) stM = (h0, .inr (8, [.int 0, .ref q1, .ref q2, .ref q3, .ref q4, .ref q5, .int 0, .int 0, .int 1, .ref q6, .ref q7, .ref q8, .int 0, .int 0, .ref q9, .int (-1), .ref q10, .int 0, .ref q11, .ref q12, .int 0, .ref q13, .int 0, .ref q14, .int 0, .ref q15, .int 0, .int 0, .ref q16, .ref q17, .ref q18, .int 0, .ref q19, .ref q20, .ref q21, .int 0, .int 0])) :: (q1, fI cI 7) :: (q2, fI cI 7) :: (q3, fI cI 7) :: (q4, .inl (cI, 3, .inl (upd (fun _ => 0) 0 5))) :: (q5, .inl (cI, 40, .inl tabF)) :: (q6, .inl (cI, 8, .inl (fun _ => -1))) :: (q7, fI cI 8) :: (q8, fL cL 1280) :: (q9, fI cI 3) :: (q10, fI cI 67) :: (q11, fI cI 20) :: (q12, fI cI 8) :: (q13, fI cI 67) :: (q14, fI cI 8) :: (q15, fI cI 16) :: (q16, fI cI 7) :: (q17, fI cI 14) :: (q18, fI cI 7) :: (q19, fI cI 7) :: (q20, fI cI 7) :: (q21, fI cI 7) :: [] := rfl
set_option maxHeartbeats 4000000 in
set_option maxRecDepth 100000 in
theorem ci_X8 (l : Launch) (D : va_G) (cI cL cS : ClassId) (r : fkR) (h0 sz : Nat) : Met l yX8_init (Cond.code yX8_init cX8_init 3 none :: fkB) ({ frames := 1, cells := 21, slots := 1598, locals := 12 }) (va_Pc [.ref h0] (fun U => U.heap.size = sz ∧ va_P D vwCl [(h0, .inr (8, [.int 0, .null, .null, .null, .null, .null, .int 0, .int 0, .int 0, .null, .null, .null, .int 0, .int 0, .null, .int 0, .null, .int 0, .null, .null, .int 0, .null, .int 0, .null, .int 0, .null, .int 0, .int 0, .null, .null, .null, .int 0, .null, .null, .null, .int 0, .int 0]))] U.heap ∧ va_K D vwCl [(cI, .int), (cL, .long)] U ∧ va_D (fun _ => True) [(h0, .inr (8, [.int 0, .null, .null, .null, .null, .null, .int 0, .int 0, .int 0, .null, .null, .null, .int 0, .int 0, .null, .int 0, .null, .int 0, .null, .null, .int 0, .null, .int 0, .null, .int 0, .null, .int 0, .int 0, .null, .null, .null, .int 0, .null, .null, .null, .int 0, .int 0]))])) (va_Qv (fun u : Nat → Nat => u 0 = h0) (fun u t => va_P D vwCl (fk_ws wM (u, D, (cI, cL, cS), r) stM) t.heap ∧ va_K D vwCl [(cI, .int), (cL, .long)] t ∧ va_D (va_A [(h0, .inr (8, [.int 0, .null, .null, .null, .null, .null, .int 0, .int 0, .int 0, .null, .null, .null, .int 0, .int 0, .null, .int 0, .null, .int 0, .null, .null, .int 0, .null, .int 0, .null, .int 0, .null, .int 0, .int 0, .null, .null, .null, .int 0, .null, .null, .null, .int 0, .int 0]))] sz) (fk_ws wM (u, D, (cI, cL, cS), r) stM)) (va_A [(h0, .inr (8, [.int 0, .null, .null, .null, .null, .null, .int 0, .int 0, .int 0, .null, .null, .null, .int 0, .int 0, .null, .int 0, .null, .int 0, .null, .null, .int 0, .null, .int 0, .null, .int 0, .null, .int 0, .int 0, .null, .null, .null, .int 0, .null, .null, .null, .int 0, .int 0]))] sz)) 21 1598 (va_A [(h0, .inr (8, [.int 0, .null, .null, .null, .null, .null, .int 0, .int 0, .int 0, .null, .null, .null, .int 0, .int 0, .null, .int 0, .null, .int 0, .null, .null, .int 0, .null, .int 0, .null, .int 0, .null, .int 0, .int 0, .null, .null, .null, .int 0, .null, .null, .null, .int 0, .int 0]))] sz) := by
  refine Met.ofW (cc := cX8_init) (maxL := 3) (ret := none) (by decide) rfl ?_
  intro p e s m args below meth c s₁ B hml hv
  obtain ⟨rfl, hsz, hP, hK, hD0⟩ := hv
  have hx := B.exec
  have hb := B.bytes
  have hr := B.returns
  have hts0 := atoms_spec (ws := Cond.code yX8_init cX8_init 3 none :: fkB) B.pre
  have hts : ∀ w ∈ fkB, w.before ([Value.ref h0] : List Value).toArray s = true := fun w hw => hts0 w (List.mem_cons_of_mem _ hw)
  have hown : s.vm.findClass RX8 = some m.cls := findClass_of_methodNamed B.named
  have hlocks := B.notSynchronized
  have hin : meth.name = "<init>" := (name_of_methodNamed B.named B.method).1
  subst hsz
  have hD := hD0.self (sz := s.heap.size)
  generalize hAe : va_A [(h0, .inr (8, [.int 0, .null, .null, .null, .null, .null, .int 0, .int 0, .int 0, .null, .null, .null, .int 0, .int 0, .null, .int 0, .null, .int 0, .null, .null, .int 0, .null, .int 0, .null, .int 0, .null, .int 0, .int 0, .null, .null, .null, .int 0, .null, .null, .null, .int 0, .int 0]))] s.heap.size = A at hD ⊢
  have hA : ∀ q : Nat, s.heap.size ≤ q → A q := fun q h => by rw [← hAe]; exact Or.inr h
  have hS : va_S A s.heap s.heap [] := va_S.rf
  have hP : va_P D vwCl [(h0, .inr (8, [.int 0, .null, .null, .null, .null, .null, .int 0, .int 0, .int 0, .null, .null, .null, .int 0, .int 0, .null, .int 0, .null, .int 0, .null, .null, .int 0, .null, .int 0, .null, .int 0, .null, .int 0, .int 0, .null, .null, .null, .int 0, .null, .null, .null, .int 0, .int 0]))] s.heap := hP
  have hl := lv_entry ([.ref h0]) (n := 3) (Nat.le_of_ble_eq_true rfl)
  rw [lg_entry_eq]
  generalize (lg_sl ([.ref h0]) ++ List.replicate (3 - (lg_sl ([.ref h0])).length) Slot.unset).toArray = ls at hl ⊢
  have hl : lv_has ls 3 [(0, .ref h0)] := hl
  refine lv_aload_n hx hb dX8_init_0 rfl (lv_at hl 0 rfl) ?_
  refine W.objInit hx hb hown (hts _ wzm_8_1) (hts _ wz_oi) (hts _ wz_oc) rfl (by rw [hml]; exact hl.1) rfl dX8_init_1 (Nat.le_of_ble_eq_true rfl) (Nat.le_of_ble_eq_true rfl) ?_
  refine W.eq (g2 := F0 m 4 ls []) rfl ?_
  refine lv_aload_n hx hb dX8_init_4 rfl (lv_at hl 0 rfl) ?_
  refine lv_bipush (v := 7) hx hb dX8_init_5 (by decide) ?_
  refine fk_newI (n := 7) (N' := 7) hx hb (hts _ wz_ai) hK hP hD hS hA 0 rfl (by decide) rfl (Nat.le_of_ble_eq_true rfl) (Nat.le_of_ble_eq_true rfl) (Nat.le_of_ble_eq_true rfl) dX8_init_7 (fun q1 H hP hD hS => ?_)
  have hP : va_P D vwCl ((h0, .inr (8, [.int 0, .null, .null, .null, .null, .null, .int 0, .int 0, .int 0, .null, .null, .null, .int 0, .int 0, .null, .int 0, .null, .int 0, .null, .null, .int 0, .null, .int 0, .null, .int 0, .null, .int 0, .int 0, .null, .null, .null, .int 0, .null, .null, .null, .int 0, .int 0])) :: (q1, fI cI 7) :: []) H := hP
  have hD : va_D A ((h0, .inr (8, [.int 0, .null, .null, .null, .null, .null, .int 0, .int 0, .int 0, .null, .null, .null, .int 0, .int 0, .null, .int 0, .null, .int 0, .null, .null, .int 0, .null, .int 0, .null, .int 0, .null, .int 0, .int 0, .null, .null, .null, .int 0, .null, .null, .null, .int 0, .int 0])) :: (q1, fI cI 7) :: []) := hD
  refine W.widen (k := 1) (n := 7) (Nat.le_of_ble_eq_true rfl) (Nat.le_of_ble_eq_true rfl) ?_
  refine va_putF (D := D) (ci := 8) (v := .ref q1) (ty := .array .int) (C := RX8) (T := TX8) (N := 37) hx hb hts wB_8 tyX8 tyX8_ok nmX8 hown hK hP hD hS 0 rfl rfl 1 (by decide) (hts _ wz_8_7) (fun _ h9 => h9) rfl hin rfl (by decide +kernel) rfl rfl (Nat.le_of_ble_eq_true rfl) dX8_init_9 (fun H locs hP hD hS => ?_)
  have hP : va_P D vwCl ((h0, .inr (8, [.int 0, .ref q1, .null, .null, .null, .null, .int 0, .int 0, .int 0, .null, .null, .null, .int 0, .int 0, .null, .int 0, .null, .int 0, .null, .null, .int 0, .null, .int 0, .null, .int 0, .null, .int 0, .int 0, .null, .null, .null, .int 0, .null, .null, .null, .int 0, .int 0])) :: (q1, fI cI 7) :: []) H := hP
  have hD : va_D A ((h0, .inr (8, [.int 0, .ref q1, .null, .null, .null, .null, .int 0, .int 0, .int 0, .null, .null, .null, .int 0, .int 0, .null, .int 0, .null, .int 0, .null, .null, .int 0, .null, .int 0, .null, .int 0, .null, .int 0, .int 0, .null, .null, .null, .int 0, .null, .null, .null, .int 0, .int 0])) :: (q1, fI cI 7) :: []) := hD
  refine lv_aload_n hx hb dX8_init_12 rfl (lv_at hl 0 rfl) ?_
  refine lv_bipush (v := 7) hx hb dX8_init_13 (by decide) ?_
  refine fk_newI (n := 7) (N' := 7) hx hb (hts _ wz_ai) hK hP hD hS hA 0 rfl (by decide) rfl (Nat.le_of_ble_eq_true rfl) (Nat.le_of_ble_eq_true rfl) (Nat.le_of_ble_eq_true rfl) dX8_init_15 (fun q2 H hP hD hS => ?_)
  have hP : va_P D vwCl ((h0, .inr (8, [.int 0, .ref q1, .null, .null, .null, .null, .int 0, .int 0, .int 0, .null, .null, .null, .int 0, .int 0, .null, .int 0, .null, .int 0, .null, .null, .int 0, .null, .int 0, .null, .int 0, .null, .int 0, .int 0, .null, .null, .null, .int 0, .null, .null, .null, .int 0, .int 0])) :: (q1, fI cI 7) :: (q2, fI cI 7) :: []) H := hP
  have hD : va_D A ((h0, .inr (8, [.int 0, .ref q1, .null, .null, .null, .null, .int 0, .int 0, .int 0, .null, .null, .null, .int 0, .int 0, .null, .int 0, .null, .int 0, .null, .null, .int 0, .null, .int 0, .null, .int 0, .null, .int 0, .int 0, .null, .null, .null, .int 0, .null, .null, .null, .int 0, .int 0])) :: (q1, fI cI 7) :: (q2, fI cI 7) :: []) := hD
  refine W.widen (k := 2) (n := 14) (Nat.le_of_ble_eq_true rfl) (Nat.le_of_ble_eq_true rfl) ?_
  refine va_putF (D := D) (ci := 8) (v := .ref q2) (ty := .array .int) (C := RX8) (T := TX8) (N := 37) hx hb hts wB_8 tyX8 tyX8_ok nmX8 hown hK hP hD hS 0 rfl rfl 2 (by decide) (hts _ wz_8_13) (fun _ h9 => h9) rfl hin rfl (by decide +kernel) rfl rfl (Nat.le_of_ble_eq_true rfl) dX8_init_17 (fun H locs hP hD hS => ?_)
  have hP : va_P D vwCl ((h0, .inr (8, [.int 0, .ref q1, .ref q2, .null, .null, .null, .int 0, .int 0, .int 0, .null, .null, .null, .int 0, .int 0, .null, .int 0, .null, .int 0, .null, .null, .int 0, .null, .int 0, .null, .int 0, .null, .int 0, .int 0, .null, .null, .null, .int 0, .null, .null, .null, .int 0, .int 0])) :: (q1, fI cI 7) :: (q2, fI cI 7) :: []) H := hP
  have hD : va_D A ((h0, .inr (8, [.int 0, .ref q1, .ref q2, .null, .null, .null, .int 0, .int 0, .int 0, .null, .null, .null, .int 0, .int 0, .null, .int 0, .null, .int 0, .null, .null, .int 0, .null, .int 0, .null, .int 0, .null, .int 0, .int 0, .null, .null, .null, .int 0, .null, .null, .null, .int 0, .int 0])) :: (q1, fI cI 7) :: (q2, fI cI 7) :: []) := hD
  refine lv_aload_n hx hb dX8_init_20 rfl (lv_at hl 0 rfl) ?_
  refine lv_bipush (v := 7) hx hb dX8_init_21 (by decide) ?_
  refine fk_newI (n := 7) (N' := 7) hx hb (hts _ wz_ai) hK hP hD hS hA 0 rfl (by decide) rfl (Nat.le_of_ble_eq_true rfl) (Nat.le_of_ble_eq_true rfl) (Nat.le_of_ble_eq_true rfl) dX8_init_23 (fun q3 H hP hD hS => ?_)
  have hP : va_P D vwCl ((h0, .inr (8, [.int 0, .ref q1, .ref q2, .null, .null, .null, .int 0, .int 0, .int 0, .null, .null, .null, .int 0, .int 0, .null, .int 0, .null, .int 0, .null, .null, .int 0, .null, .int 0, .null, .int 0, .null, .int 0, .int 0, .null, .null, .null, .int 0, .null, .null, .null, .int 0, .int 0])) :: (q1, fI cI 7) :: (q2, fI cI 7) :: (q3, fI cI 7) :: []) H := hP
  have hD : va_D A ((h0, .inr (8, [.int 0, .ref q1, .ref q2, .null, .null, .null, .int 0, .int 0, .int 0, .null, .null, .null, .int 0, .int 0, .null, .int 0, .null, .int 0, .null, .null, .int 0, .null, .int 0, .null, .int 0, .null, .int 0, .int 0, .null, .null, .null, .int 0, .null, .null, .null, .int 0, .int 0])) :: (q1, fI cI 7) :: (q2, fI cI 7) :: (q3, fI cI 7) :: []) := hD
  refine W.widen (k := 3) (n := 21) (Nat.le_of_ble_eq_true rfl) (Nat.le_of_ble_eq_true rfl) ?_
  refine va_putF (D := D) (ci := 8) (v := .ref q3) (ty := .array .int) (C := RX8) (T := TX8) (N := 37) hx hb hts wB_8 tyX8 tyX8_ok nmX8 hown hK hP hD hS 0 rfl rfl 3 (by decide) (hts _ wz_8_16) (fun _ h9 => h9) rfl hin rfl (by decide +kernel) rfl rfl (Nat.le_of_ble_eq_true rfl) dX8_init_25 (fun H locs hP hD hS => ?_)
  have hP : va_P D vwCl ((h0, .inr (8, [.int 0, .ref q1, .ref q2, .ref q3, .null, .null, .int 0, .int 0, .int 0, .null, .null, .null, .int 0, .int 0, .null, .int 0, .null, .int 0, .null, .null, .int 0, .null, .int 0, .null, .int 0, .null, .int 0, .int 0, .null, .null, .null, .int 0, .null, .null, .null, .int 0, .int 0])) :: (q1, fI cI 7) :: (q2, fI cI 7) :: (q3, fI cI 7) :: []) H := hP
  have hD : va_D A ((h0, .inr (8, [.int 0, .ref q1, .ref q2, .ref q3, .null, .null, .int 0, .int 0, .int 0, .null, .null, .null, .int 0, .int 0, .null, .int 0, .null, .int 0, .null, .null, .int 0, .null, .int 0, .null, .int 0, .null, .int 0, .int 0, .null, .null, .null, .int 0, .null, .null, .null, .int 0, .int 0])) :: (q1, fI cI 7) :: (q2, fI cI 7) :: (q3, fI cI 7) :: []) := hD
  refine lv_aload_n hx hb dX8_init_28 rfl (lv_at hl 0 rfl) ?_
  refine lv_iconst (v := 3) hx hb dX8_init_29 (by decide) ?_
  refine fk_newI (n := 3) (N' := 3) hx hb (hts _ wz_ai) hK hP hD hS hA 0 rfl (by decide) rfl (Nat.le_of_ble_eq_true rfl) (Nat.le_of_ble_eq_true rfl) (Nat.le_of_ble_eq_true rfl) dX8_init_30 (fun q4 H hP hD hS => ?_)
  have hP : va_P D vwCl ((h0, .inr (8, [.int 0, .ref q1, .ref q2, .ref q3, .null, .null, .int 0, .int 0, .int 0, .null, .null, .null, .int 0, .int 0, .null, .int 0, .null, .int 0, .null, .null, .int 0, .null, .int 0, .null, .int 0, .null, .int 0, .int 0, .null, .null, .null, .int 0, .null, .null, .null, .int 0, .int 0])) :: (q1, fI cI 7) :: (q2, fI cI 7) :: (q3, fI cI 7) :: (q4, fI cI 3) :: []) H := hP
  have hD : va_D A ((h0, .inr (8, [.int 0, .ref q1, .ref q2, .ref q3, .null, .null, .int 0, .int 0, .int 0, .null, .null, .null, .int 0, .int 0, .null, .int 0, .null, .int 0, .null, .null, .int 0, .null, .int 0, .null, .int 0, .null, .int 0, .int 0, .null, .null, .null, .int 0, .null, .null, .null, .int 0, .int 0])) :: (q1, fI cI 7) :: (q2, fI cI 7) :: (q3, fI cI 7) :: (q4, fI cI 3) :: []) := hD
  refine W.widen (k := 4) (n := 24) (Nat.le_of_ble_eq_true rfl) (Nat.le_of_ble_eq_true rfl) ?_
  refine va_putF (D := D) (ci := 8) (v := .ref q4) (ty := .array .int) (C := RX8) (T := TX8) (N := 37) hx hb hts wB_8 tyX8 tyX8_ok nmX8 hown hK hP hD hS 0 rfl rfl 4 (by decide) (hts _ wz_8_19) (fun _ h9 => h9) rfl hin rfl (by decide +kernel) rfl rfl (Nat.le_of_ble_eq_true rfl) dX8_init_32 (fun H locs hP hD hS => ?_)
  have hP : va_P D vwCl ((h0, .inr (8, [.int 0, .ref q1, .ref q2, .ref q3, .ref q4, .null, .int 0, .int 0, .int 0, .null, .null, .null, .int 0, .int 0, .null, .int 0, .null, .int 0, .null, .null, .int 0, .null, .int 0, .null, .int 0, .null, .int 0, .int 0, .null, .null, .null, .int 0, .null, .null, .null, .int 0, .int 0])) :: (q1, fI cI 7) :: (q2, fI cI 7) :: (q3, fI cI 7) :: (q4, fI cI 3) :: []) H := hP
  have hD : va_D A ((h0, .inr (8, [.int 0, .ref q1, .ref q2, .ref q3, .ref q4, .null, .int 0, .int 0, .int 0, .null, .null, .null, .int 0, .int 0, .null, .int 0, .null, .int 0, .null, .null, .int 0, .null, .int 0, .null, .int 0, .null, .int 0, .int 0, .null, .null, .null, .int 0, .null, .null, .null, .int 0, .int 0])) :: (q1, fI cI 7) :: (q2, fI cI 7) :: (q3, fI cI 7) :: (q4, fI cI 3) :: []) := hD
  refine lv_aload_n hx hb dX8_init_35 rfl (lv_at hl 0 rfl) ?_
  refine lv_bipush (v := 40) hx hb dX8_init_36 (by decide) ?_
  refine fk_newI (n := 40) (N' := 40) hx hb (hts _ wz_ai) hK hP hD hS hA 0 rfl (by decide) rfl (Nat.le_of_ble_eq_true rfl) (Nat.le_of_ble_eq_true rfl) (Nat.le_of_ble_eq_true rfl) dX8_init_38 (fun q5 H hP hD hS => ?_)
  have hP : va_P D vwCl ((h0, .inr (8, [.int 0, .ref q1, .ref q2, .ref q3, .ref q4, .null, .int 0, .int 0, .int 0, .null, .null, .null, .int 0, .int 0, .null, .int 0, .null, .int 0, .null, .null, .int 0, .null, .int 0, .null, .int 0, .null, .int 0, .int 0, .null, .null, .null, .int 0, .null, .null, .null, .int 0, .int 0])) :: (q1, fI cI 7) :: (q2, fI cI 7) :: (q3, fI cI 7) :: (q4, fI cI 3) :: (q5, fI cI 40) :: []) H := hP
  have hD : va_D A ((h0, .inr (8, [.int 0, .ref q1, .ref q2, .ref q3, .ref q4, .null, .int 0, .int 0, .int 0, .null, .null, .null, .int 0, .int 0, .null, .int 0, .null, .int 0, .null, .null, .int 0, .null, .int 0, .null, .int 0, .null, .int 0, .int 0, .null, .null, .null, .int 0, .null, .null, .null, .int 0, .int 0])) :: (q1, fI cI 7) :: (q2, fI cI 7) :: (q3, fI cI 7) :: (q4, fI cI 3) :: (q5, fI cI 40) :: []) := hD
  refine W.widen (k := 5) (n := 64) (Nat.le_of_ble_eq_true rfl) (Nat.le_of_ble_eq_true rfl) ?_
  refine va_putF (D := D) (ci := 8) (v := .ref q5) (ty := .array .int) (C := RX8) (T := TX8) (N := 37) hx hb hts wB_8 tyX8 tyX8_ok nmX8 hown hK hP hD hS 0 rfl rfl 5 (by decide) (hts _ wz_8_22) (fun _ h9 => h9) rfl hin rfl (by decide +kernel) rfl rfl (Nat.le_of_ble_eq_true rfl) dX8_init_40 (fun H locs hP hD hS => ?_)
  have hP : va_P D vwCl ((h0, .inr (8, [.int 0, .ref q1, .ref q2, .ref q3, .ref q4, .ref q5, .int 0, .int 0, .int 0, .null, .null, .null, .int 0, .int 0, .null, .int 0, .null, .int 0, .null, .null, .int 0, .null, .int 0, .null, .int 0, .null, .int 0, .int 0, .null, .null, .null, .int 0, .null, .null, .null, .int 0, .int 0])) :: (q1, fI cI 7) :: (q2, fI cI 7) :: (q3, fI cI 7) :: (q4, fI cI 3) :: (q5, fI cI 40) :: []) H := hP
  have hD : va_D A ((h0, .inr (8, [.int 0, .ref q1, .ref q2, .ref q3, .ref q4, .ref q5, .int 0, .int 0, .int 0, .null, .null, .null, .int 0, .int 0, .null, .int 0, .null, .int 0, .null, .null, .int 0, .null, .int 0, .null, .int 0, .null, .int 0, .int 0, .null, .null, .null, .int 0, .null, .null, .null, .int 0, .int 0])) :: (q1, fI cI 7) :: (q2, fI cI 7) :: (q3, fI cI 7) :: (q4, fI cI 3) :: (q5, fI cI 40) :: []) := hD
  refine lv_aload_n hx hb dX8_init_43 rfl (lv_at hl 0 rfl) ?_
  refine lv_bipush (v := 8) hx hb dX8_init_44 (by decide) ?_
  refine fk_newI (n := 8) (N' := 8) hx hb (hts _ wz_ai) hK hP hD hS hA 0 rfl (by decide) rfl (Nat.le_of_ble_eq_true rfl) (Nat.le_of_ble_eq_true rfl) (Nat.le_of_ble_eq_true rfl) dX8_init_46 (fun q6 H hP hD hS => ?_)
  have hP : va_P D vwCl ((h0, .inr (8, [.int 0, .ref q1, .ref q2, .ref q3, .ref q4, .ref q5, .int 0, .int 0, .int 0, .null, .null, .null, .int 0, .int 0, .null, .int 0, .null, .int 0, .null, .null, .int 0, .null, .int 0, .null, .int 0, .null, .int 0, .int 0, .null, .null, .null, .int 0, .null, .null, .null, .int 0, .int 0])) :: (q1, fI cI 7) :: (q2, fI cI 7) :: (q3, fI cI 7) :: (q4, fI cI 3) :: (q5, fI cI 40) :: (q6, fI cI 8) :: []) H := hP
  have hD : va_D A ((h0, .inr (8, [.int 0, .ref q1, .ref q2, .ref q3, .ref q4, .ref q5, .int 0, .int 0, .int 0, .null, .null, .null, .int 0, .int 0, .null, .int 0, .null, .int 0, .null, .null, .int 0, .null, .int 0, .null, .int 0, .null, .int 0, .int 0, .null, .null, .null, .int 0, .null, .null, .null, .int 0, .int 0])) :: (q1, fI cI 7) :: (q2, fI cI 7) :: (q3, fI cI 7) :: (q4, fI cI 3) :: (q5, fI cI 40) :: (q6, fI cI 8) :: []) := hD
  refine W.widen (k := 6) (n := 72) (Nat.le_of_ble_eq_true rfl) (Nat.le_of_ble_eq_true rfl) ?_
  refine va_putF (D := D) (ci := 8) (v := .ref q6) (ty := .array .int) (C := RX8) (T := TX8) (N := 37) hx hb hts wB_8 tyX8 tyX8_ok nmX8 hown hK hP hD hS 0 rfl rfl 9 (by decide) (hts _ wz_8_25) (fun _ h9 => h9) rfl hin rfl (by decide +kernel) rfl rfl (Nat.le_of_ble_eq_true rfl) dX8_init_48 (fun H locs hP hD hS => ?_)
  have hP : va_P D vwCl ((h0, .inr (8, [.int 0, .ref q1, .ref q2, .ref q3, .ref q4, .ref q5, .int 0, .int 0, .int 0, .ref q6, .null, .null, .int 0, .int 0, .null, .int 0, .null, .int 0, .null, .null, .int 0, .null, .int 0, .null, .int 0, .null, .int 0, .int 0, .null, .null, .null, .int 0, .null, .null, .null, .int 0, .int 0])) :: (q1, fI cI 7) :: (q2, fI cI 7) :: (q3, fI cI 7) :: (q4, fI cI 3) :: (q5, fI cI 40) :: (q6, fI cI 8) :: []) H := hP
  have hD : va_D A ((h0, .inr (8, [.int 0, .ref q1, .ref q2, .ref q3, .ref q4, .ref q5, .int 0, .int 0, .int 0, .ref q6, .null, .null, .int 0, .int 0, .null, .int 0, .null, .int 0, .null, .null, .int 0, .null, .int 0, .null, .int 0, .null, .int 0, .int 0, .null, .null, .null, .int 0, .null, .null, .null, .int 0, .int 0])) :: (q1, fI cI 7) :: (q2, fI cI 7) :: (q3, fI cI 7) :: (q4, fI cI 3) :: (q5, fI cI 40) :: (q6, fI cI 8) :: []) := hD
  refine lv_aload_n hx hb dX8_init_51 rfl (lv_at hl 0 rfl) ?_
  refine lv_bipush (v := 8) hx hb dX8_init_52 (by decide) ?_
  refine fk_newI (n := 8) (N' := 8) hx hb (hts _ wz_ai) hK hP hD hS hA 0 rfl (by decide) rfl (Nat.le_of_ble_eq_true rfl) (Nat.le_of_ble_eq_true rfl) (Nat.le_of_ble_eq_true rfl) dX8_init_54 (fun q7 H hP hD hS => ?_)
  have hP : va_P D vwCl ((h0, .inr (8, [.int 0, .ref q1, .ref q2, .ref q3, .ref q4, .ref q5, .int 0, .int 0, .int 0, .ref q6, .null, .null, .int 0, .int 0, .null, .int 0, .null, .int 0, .null, .null, .int 0, .null, .int 0, .null, .int 0, .null, .int 0, .int 0, .null, .null, .null, .int 0, .null, .null, .null, .int 0, .int 0])) :: (q1, fI cI 7) :: (q2, fI cI 7) :: (q3, fI cI 7) :: (q4, fI cI 3) :: (q5, fI cI 40) :: (q6, fI cI 8) :: (q7, fI cI 8) :: []) H := hP
  have hD : va_D A ((h0, .inr (8, [.int 0, .ref q1, .ref q2, .ref q3, .ref q4, .ref q5, .int 0, .int 0, .int 0, .ref q6, .null, .null, .int 0, .int 0, .null, .int 0, .null, .int 0, .null, .null, .int 0, .null, .int 0, .null, .int 0, .null, .int 0, .int 0, .null, .null, .null, .int 0, .null, .null, .null, .int 0, .int 0])) :: (q1, fI cI 7) :: (q2, fI cI 7) :: (q3, fI cI 7) :: (q4, fI cI 3) :: (q5, fI cI 40) :: (q6, fI cI 8) :: (q7, fI cI 8) :: []) := hD
  refine W.widen (k := 7) (n := 80) (Nat.le_of_ble_eq_true rfl) (Nat.le_of_ble_eq_true rfl) ?_
  refine va_putF (D := D) (ci := 8) (v := .ref q7) (ty := .array .int) (C := RX8) (T := TX8) (N := 37) hx hb hts wB_8 tyX8 tyX8_ok nmX8 hown hK hP hD hS 0 rfl rfl 10 (by decide) (hts _ wz_8_28) (fun _ h9 => h9) rfl hin rfl (by decide +kernel) rfl rfl (Nat.le_of_ble_eq_true rfl) dX8_init_56 (fun H locs hP hD hS => ?_)
  have hP : va_P D vwCl ((h0, .inr (8, [.int 0, .ref q1, .ref q2, .ref q3, .ref q4, .ref q5, .int 0, .int 0, .int 0, .ref q6, .ref q7, .null, .int 0, .int 0, .null, .int 0, .null, .int 0, .null, .null, .int 0, .null, .int 0, .null, .int 0, .null, .int 0, .int 0, .null, .null, .null, .int 0, .null, .null, .null, .int 0, .int 0])) :: (q1, fI cI 7) :: (q2, fI cI 7) :: (q3, fI cI 7) :: (q4, fI cI 3) :: (q5, fI cI 40) :: (q6, fI cI 8) :: (q7, fI cI 8) :: []) H := hP
  have hD : va_D A ((h0, .inr (8, [.int 0, .ref q1, .ref q2, .ref q3, .ref q4, .ref q5, .int 0, .int 0, .int 0, .ref q6, .ref q7, .null, .int 0, .int 0, .null, .int 0, .null, .int 0, .null, .null, .int 0, .null, .int 0, .null, .int 0, .null, .int 0, .int 0, .null, .null, .null, .int 0, .null, .null, .null, .int 0, .int 0])) :: (q1, fI cI 7) :: (q2, fI cI 7) :: (q3, fI cI 7) :: (q4, fI cI 3) :: (q5, fI cI 40) :: (q6, fI cI 8) :: (q7, fI cI 8) :: []) := hD
  refine lv_aload_n hx hb dX8_init_59 rfl (lv_at hl 0 rfl) ?_
  refine lv_sipush (v := 1280) hx hb dX8_init_60 (by decide) ?_
  refine fk_newL (n := 1280) (N' := 1280) hx hb (hts _ wz_al) hK hP hD hS hA 1 rfl (by decide) rfl (Nat.le_of_ble_eq_true rfl) (Nat.le_of_ble_eq_true rfl) (Nat.le_of_ble_eq_true rfl) dX8_init_63 (fun q8 H hP hD hS => ?_)
  have hP : va_P D vwCl ((h0, .inr (8, [.int 0, .ref q1, .ref q2, .ref q3, .ref q4, .ref q5, .int 0, .int 0, .int 0, .ref q6, .ref q7, .null, .int 0, .int 0, .null, .int 0, .null, .int 0, .null, .null, .int 0, .null, .int 0, .null, .int 0, .null, .int 0, .int 0, .null, .null, .null, .int 0, .null, .null, .null, .int 0, .int 0])) :: (q1, fI cI 7) :: (q2, fI cI 7) :: (q3, fI cI 7) :: (q4, fI cI 3) :: (q5, fI cI 40) :: (q6, fI cI 8) :: (q7, fI cI 8) :: (q8, fL cL 1280) :: []) H := hP
  have hD : va_D A ((h0, .inr (8, [.int 0, .ref q1, .ref q2, .ref q3, .ref q4, .ref q5, .int 0, .int 0, .int 0, .ref q6, .ref q7, .null, .int 0, .int 0, .null, .int 0, .null, .int 0, .null, .null, .int 0, .null, .int 0, .null, .int 0, .null, .int 0, .int 0, .null, .null, .null, .int 0, .null, .null, .null, .int 0, .int 0])) :: (q1, fI cI 7) :: (q2, fI cI 7) :: (q3, fI cI 7) :: (q4, fI cI 3) :: (q5, fI cI 40) :: (q6, fI cI 8) :: (q7, fI cI 8) :: (q8, fL cL 1280) :: []) := hD
  refine W.widen (k := 8) (n := 1360) (Nat.le_of_ble_eq_true rfl) (Nat.le_of_ble_eq_true rfl) ?_
  refine va_putF (D := D) (ci := 8) (v := .ref q8) (ty := .array .long) (C := RX8) (T := TX8) (N := 37) hx hb hts wB_8 tyX8 tyX8_ok nmX8 hown hK hP hD hS 0 rfl rfl 11 (by decide) (hts _ wz_8_31) (fun _ h9 => h9) rfl hin rfl (by decide +kernel) rfl rfl (Nat.le_of_ble_eq_true rfl) dX8_init_65 (fun H locs hP hD hS => ?_)
  have hP : va_P D vwCl ((h0, .inr (8, [.int 0, .ref q1, .ref q2, .ref q3, .ref q4, .ref q5, .int 0, .int 0, .int 0, .ref q6, .ref q7, .ref q8, .int 0, .int 0, .null, .int 0, .null, .int 0, .null, .null, .int 0, .null, .int 0, .null, .int 0, .null, .int 0, .int 0, .null, .null, .null, .int 0, .null, .null, .null, .int 0, .int 0])) :: (q1, fI cI 7) :: (q2, fI cI 7) :: (q3, fI cI 7) :: (q4, fI cI 3) :: (q5, fI cI 40) :: (q6, fI cI 8) :: (q7, fI cI 8) :: (q8, fL cL 1280) :: []) H := hP
  have hD : va_D A ((h0, .inr (8, [.int 0, .ref q1, .ref q2, .ref q3, .ref q4, .ref q5, .int 0, .int 0, .int 0, .ref q6, .ref q7, .ref q8, .int 0, .int 0, .null, .int 0, .null, .int 0, .null, .null, .int 0, .null, .int 0, .null, .int 0, .null, .int 0, .int 0, .null, .null, .null, .int 0, .null, .null, .null, .int 0, .int 0])) :: (q1, fI cI 7) :: (q2, fI cI 7) :: (q3, fI cI 7) :: (q4, fI cI 3) :: (q5, fI cI 40) :: (q6, fI cI 8) :: (q7, fI cI 8) :: (q8, fL cL 1280) :: []) := hD
  refine lv_aload_n hx hb dX8_init_68 rfl (lv_at hl 0 rfl) ?_
  refine lv_iconst (v := 3) hx hb dX8_init_69 (by decide) ?_
  refine fk_newI (n := 3) (N' := 3) hx hb (hts _ wz_ai) hK hP hD hS hA 0 rfl (by decide) rfl (Nat.le_of_ble_eq_true rfl) (Nat.le_of_ble_eq_true rfl) (Nat.le_of_ble_eq_true rfl) dX8_init_70 (fun q9 H hP hD hS => ?_)
  have hP : va_P D vwCl ((h0, .inr (8, [.int 0, .ref q1, .ref q2, .ref q3, .ref q4, .ref q5, .int 0, .int 0, .int 0, .ref q6, .ref q7, .ref q8, .int 0, .int 0, .null, .int 0, .null, .int 0, .null, .null, .int 0, .null, .int 0, .null, .int 0, .null, .int 0, .int 0, .null, .null, .null, .int 0, .null, .null, .null, .int 0, .int 0])) :: (q1, fI cI 7) :: (q2, fI cI 7) :: (q3, fI cI 7) :: (q4, fI cI 3) :: (q5, fI cI 40) :: (q6, fI cI 8) :: (q7, fI cI 8) :: (q8, fL cL 1280) :: (q9, fI cI 3) :: []) H := hP
  have hD : va_D A ((h0, .inr (8, [.int 0, .ref q1, .ref q2, .ref q3, .ref q4, .ref q5, .int 0, .int 0, .int 0, .ref q6, .ref q7, .ref q8, .int 0, .int 0, .null, .int 0, .null, .int 0, .null, .null, .int 0, .null, .int 0, .null, .int 0, .null, .int 0, .int 0, .null, .null, .null, .int 0, .null, .null, .null, .int 0, .int 0])) :: (q1, fI cI 7) :: (q2, fI cI 7) :: (q3, fI cI 7) :: (q4, fI cI 3) :: (q5, fI cI 40) :: (q6, fI cI 8) :: (q7, fI cI 8) :: (q8, fL cL 1280) :: (q9, fI cI 3) :: []) := hD
  refine W.widen (k := 9) (n := 1363) (Nat.le_of_ble_eq_true rfl) (Nat.le_of_ble_eq_true rfl) ?_
  refine va_putF (D := D) (ci := 8) (v := .ref q9) (ty := .array .int) (C := RX8) (T := TX8) (N := 37) hx hb hts wB_8 tyX8 tyX8_ok nmX8 hown hK hP hD hS 0 rfl rfl 14 (by decide) (hts _ wz_8_35) (fun _ h9 => h9) rfl hin rfl (by decide +kernel) rfl rfl (Nat.le_of_ble_eq_true rfl) dX8_init_72 (fun H locs hP hD hS => ?_)
  have hP : va_P D vwCl ((h0, .inr (8, [.int 0, .ref q1, .ref q2, .ref q3, .ref q4, .ref q5, .int 0, .int 0, .int 0, .ref q6, .ref q7, .ref q8, .int 0, .int 0, .ref q9, .int 0, .null, .int 0, .null, .null, .int 0, .null, .int 0, .null, .int 0, .null, .int 0, .int 0, .null, .null, .null, .int 0, .null, .null, .null, .int 0, .int 0])) :: (q1, fI cI 7) :: (q2, fI cI 7) :: (q3, fI cI 7) :: (q4, fI cI 3) :: (q5, fI cI 40) :: (q6, fI cI 8) :: (q7, fI cI 8) :: (q8, fL cL 1280) :: (q9, fI cI 3) :: []) H := hP
  have hD : va_D A ((h0, .inr (8, [.int 0, .ref q1, .ref q2, .ref q3, .ref q4, .ref q5, .int 0, .int 0, .int 0, .ref q6, .ref q7, .ref q8, .int 0, .int 0, .ref q9, .int 0, .null, .int 0, .null, .null, .int 0, .null, .int 0, .null, .int 0, .null, .int 0, .int 0, .null, .null, .null, .int 0, .null, .null, .null, .int 0, .int 0])) :: (q1, fI cI 7) :: (q2, fI cI 7) :: (q3, fI cI 7) :: (q4, fI cI 3) :: (q5, fI cI 40) :: (q6, fI cI 8) :: (q7, fI cI 8) :: (q8, fL cL 1280) :: (q9, fI cI 3) :: []) := hD
  refine lv_aload_n hx hb dX8_init_75 rfl (lv_at hl 0 rfl) ?_
  refine lv_bipush (v := 67) hx hb dX8_init_76 (by decide) ?_
  refine fk_newI (n := 67) (N' := 67) hx hb (hts _ wz_ai) hK hP hD hS hA 0 rfl (by decide) rfl (Nat.le_of_ble_eq_true rfl) (Nat.le_of_ble_eq_true rfl) (Nat.le_of_ble_eq_true rfl) dX8_init_78 (fun q10 H hP hD hS => ?_)
  have hP : va_P D vwCl ((h0, .inr (8, [.int 0, .ref q1, .ref q2, .ref q3, .ref q4, .ref q5, .int 0, .int 0, .int 0, .ref q6, .ref q7, .ref q8, .int 0, .int 0, .ref q9, .int 0, .null, .int 0, .null, .null, .int 0, .null, .int 0, .null, .int 0, .null, .int 0, .int 0, .null, .null, .null, .int 0, .null, .null, .null, .int 0, .int 0])) :: (q1, fI cI 7) :: (q2, fI cI 7) :: (q3, fI cI 7) :: (q4, fI cI 3) :: (q5, fI cI 40) :: (q6, fI cI 8) :: (q7, fI cI 8) :: (q8, fL cL 1280) :: (q9, fI cI 3) :: (q10, fI cI 67) :: []) H := hP
  have hD : va_D A ((h0, .inr (8, [.int 0, .ref q1, .ref q2, .ref q3, .ref q4, .ref q5, .int 0, .int 0, .int 0, .ref q6, .ref q7, .ref q8, .int 0, .int 0, .ref q9, .int 0, .null, .int 0, .null, .null, .int 0, .null, .int 0, .null, .int 0, .null, .int 0, .int 0, .null, .null, .null, .int 0, .null, .null, .null, .int 0, .int 0])) :: (q1, fI cI 7) :: (q2, fI cI 7) :: (q3, fI cI 7) :: (q4, fI cI 3) :: (q5, fI cI 40) :: (q6, fI cI 8) :: (q7, fI cI 8) :: (q8, fL cL 1280) :: (q9, fI cI 3) :: (q10, fI cI 67) :: []) := hD
  refine W.widen (k := 10) (n := 1430) (Nat.le_of_ble_eq_true rfl) (Nat.le_of_ble_eq_true rfl) ?_
  refine va_putF (D := D) (ci := 8) (v := .ref q10) (ty := .array .int) (C := RX8) (T := TX8) (N := 37) hx hb hts wB_8 tyX8 tyX8_ok nmX8 hown hK hP hD hS 0 rfl rfl 16 (by decide) (hts _ wz_8_38) (fun _ h9 => h9) rfl hin rfl (by decide +kernel) rfl rfl (Nat.le_of_ble_eq_true rfl) dX8_init_80 (fun H locs hP hD hS => ?_)
  have hP : va_P D vwCl ((h0, .inr (8, [.int 0, .ref q1, .ref q2, .ref q3, .ref q4, .ref q5, .int 0, .int 0, .int 0, .ref q6, .ref q7, .ref q8, .int 0, .int 0, .ref q9, .int 0, .ref q10, .int 0, .null, .null, .int 0, .null, .int 0, .null, .int 0, .null, .int 0, .int 0, .null, .null, .null, .int 0, .null, .null, .null, .int 0, .int 0])) :: (q1, fI cI 7) :: (q2, fI cI 7) :: (q3, fI cI 7) :: (q4, fI cI 3) :: (q5, fI cI 40) :: (q6, fI cI 8) :: (q7, fI cI 8) :: (q8, fL cL 1280) :: (q9, fI cI 3) :: (q10, fI cI 67) :: []) H := hP
  have hD : va_D A ((h0, .inr (8, [.int 0, .ref q1, .ref q2, .ref q3, .ref q4, .ref q5, .int 0, .int 0, .int 0, .ref q6, .ref q7, .ref q8, .int 0, .int 0, .ref q9, .int 0, .ref q10, .int 0, .null, .null, .int 0, .null, .int 0, .null, .int 0, .null, .int 0, .int 0, .null, .null, .null, .int 0, .null, .null, .null, .int 0, .int 0])) :: (q1, fI cI 7) :: (q2, fI cI 7) :: (q3, fI cI 7) :: (q4, fI cI 3) :: (q5, fI cI 40) :: (q6, fI cI 8) :: (q7, fI cI 8) :: (q8, fL cL 1280) :: (q9, fI cI 3) :: (q10, fI cI 67) :: []) := hD
  refine lv_aload_n hx hb dX8_init_83 rfl (lv_at hl 0 rfl) ?_
  refine lv_bipush (v := 20) hx hb dX8_init_84 (by decide) ?_
  refine fk_newI (n := 20) (N' := 20) hx hb (hts _ wz_ai) hK hP hD hS hA 0 rfl (by decide) rfl (Nat.le_of_ble_eq_true rfl) (Nat.le_of_ble_eq_true rfl) (Nat.le_of_ble_eq_true rfl) dX8_init_86 (fun q11 H hP hD hS => ?_)
  have hP : va_P D vwCl ((h0, .inr (8, [.int 0, .ref q1, .ref q2, .ref q3, .ref q4, .ref q5, .int 0, .int 0, .int 0, .ref q6, .ref q7, .ref q8, .int 0, .int 0, .ref q9, .int 0, .ref q10, .int 0, .null, .null, .int 0, .null, .int 0, .null, .int 0, .null, .int 0, .int 0, .null, .null, .null, .int 0, .null, .null, .null, .int 0, .int 0])) :: (q1, fI cI 7) :: (q2, fI cI 7) :: (q3, fI cI 7) :: (q4, fI cI 3) :: (q5, fI cI 40) :: (q6, fI cI 8) :: (q7, fI cI 8) :: (q8, fL cL 1280) :: (q9, fI cI 3) :: (q10, fI cI 67) :: (q11, fI cI 20) :: []) H := hP
  have hD : va_D A ((h0, .inr (8, [.int 0, .ref q1, .ref q2, .ref q3, .ref q4, .ref q5, .int 0, .int 0, .int 0, .ref q6, .ref q7, .ref q8, .int 0, .int 0, .ref q9, .int 0, .ref q10, .int 0, .null, .null, .int 0, .null, .int 0, .null, .int 0, .null, .int 0, .int 0, .null, .null, .null, .int 0, .null, .null, .null, .int 0, .int 0])) :: (q1, fI cI 7) :: (q2, fI cI 7) :: (q3, fI cI 7) :: (q4, fI cI 3) :: (q5, fI cI 40) :: (q6, fI cI 8) :: (q7, fI cI 8) :: (q8, fL cL 1280) :: (q9, fI cI 3) :: (q10, fI cI 67) :: (q11, fI cI 20) :: []) := hD
  refine W.widen (k := 11) (n := 1450) (Nat.le_of_ble_eq_true rfl) (Nat.le_of_ble_eq_true rfl) ?_
  refine va_putF (D := D) (ci := 8) (v := .ref q11) (ty := .array .int) (C := RX8) (T := TX8) (N := 37) hx hb hts wB_8 tyX8 tyX8_ok nmX8 hown hK hP hD hS 0 rfl rfl 18 (by decide) (hts _ wz_8_41) (fun _ h9 => h9) rfl hin rfl (by decide +kernel) rfl rfl (Nat.le_of_ble_eq_true rfl) dX8_init_88 (fun H locs hP hD hS => ?_)
  have hP : va_P D vwCl ((h0, .inr (8, [.int 0, .ref q1, .ref q2, .ref q3, .ref q4, .ref q5, .int 0, .int 0, .int 0, .ref q6, .ref q7, .ref q8, .int 0, .int 0, .ref q9, .int 0, .ref q10, .int 0, .ref q11, .null, .int 0, .null, .int 0, .null, .int 0, .null, .int 0, .int 0, .null, .null, .null, .int 0, .null, .null, .null, .int 0, .int 0])) :: (q1, fI cI 7) :: (q2, fI cI 7) :: (q3, fI cI 7) :: (q4, fI cI 3) :: (q5, fI cI 40) :: (q6, fI cI 8) :: (q7, fI cI 8) :: (q8, fL cL 1280) :: (q9, fI cI 3) :: (q10, fI cI 67) :: (q11, fI cI 20) :: []) H := hP
  have hD : va_D A ((h0, .inr (8, [.int 0, .ref q1, .ref q2, .ref q3, .ref q4, .ref q5, .int 0, .int 0, .int 0, .ref q6, .ref q7, .ref q8, .int 0, .int 0, .ref q9, .int 0, .ref q10, .int 0, .ref q11, .null, .int 0, .null, .int 0, .null, .int 0, .null, .int 0, .int 0, .null, .null, .null, .int 0, .null, .null, .null, .int 0, .int 0])) :: (q1, fI cI 7) :: (q2, fI cI 7) :: (q3, fI cI 7) :: (q4, fI cI 3) :: (q5, fI cI 40) :: (q6, fI cI 8) :: (q7, fI cI 8) :: (q8, fL cL 1280) :: (q9, fI cI 3) :: (q10, fI cI 67) :: (q11, fI cI 20) :: []) := hD
  refine lv_aload_n hx hb dX8_init_91 rfl (lv_at hl 0 rfl) ?_
  refine lv_bipush (v := 8) hx hb dX8_init_92 (by decide) ?_
  refine fk_newI (n := 8) (N' := 8) hx hb (hts _ wz_ai) hK hP hD hS hA 0 rfl (by decide) rfl (Nat.le_of_ble_eq_true rfl) (Nat.le_of_ble_eq_true rfl) (Nat.le_of_ble_eq_true rfl) dX8_init_94 (fun q12 H hP hD hS => ?_)
  have hP : va_P D vwCl ((h0, .inr (8, [.int 0, .ref q1, .ref q2, .ref q3, .ref q4, .ref q5, .int 0, .int 0, .int 0, .ref q6, .ref q7, .ref q8, .int 0, .int 0, .ref q9, .int 0, .ref q10, .int 0, .ref q11, .null, .int 0, .null, .int 0, .null, .int 0, .null, .int 0, .int 0, .null, .null, .null, .int 0, .null, .null, .null, .int 0, .int 0])) :: (q1, fI cI 7) :: (q2, fI cI 7) :: (q3, fI cI 7) :: (q4, fI cI 3) :: (q5, fI cI 40) :: (q6, fI cI 8) :: (q7, fI cI 8) :: (q8, fL cL 1280) :: (q9, fI cI 3) :: (q10, fI cI 67) :: (q11, fI cI 20) :: (q12, fI cI 8) :: []) H := hP
  have hD : va_D A ((h0, .inr (8, [.int 0, .ref q1, .ref q2, .ref q3, .ref q4, .ref q5, .int 0, .int 0, .int 0, .ref q6, .ref q7, .ref q8, .int 0, .int 0, .ref q9, .int 0, .ref q10, .int 0, .ref q11, .null, .int 0, .null, .int 0, .null, .int 0, .null, .int 0, .int 0, .null, .null, .null, .int 0, .null, .null, .null, .int 0, .int 0])) :: (q1, fI cI 7) :: (q2, fI cI 7) :: (q3, fI cI 7) :: (q4, fI cI 3) :: (q5, fI cI 40) :: (q6, fI cI 8) :: (q7, fI cI 8) :: (q8, fL cL 1280) :: (q9, fI cI 3) :: (q10, fI cI 67) :: (q11, fI cI 20) :: (q12, fI cI 8) :: []) := hD
  refine W.widen (k := 12) (n := 1458) (Nat.le_of_ble_eq_true rfl) (Nat.le_of_ble_eq_true rfl) ?_
  refine va_putF (D := D) (ci := 8) (v := .ref q12) (ty := .array .int) (C := RX8) (T := TX8) (N := 37) hx hb hts wB_8 tyX8 tyX8_ok nmX8 hown hK hP hD hS 0 rfl rfl 19 (by decide) (hts _ wz_8_44) (fun _ h9 => h9) rfl hin rfl (by decide +kernel) rfl rfl (Nat.le_of_ble_eq_true rfl) dX8_init_96 (fun H locs hP hD hS => ?_)
  have hP : va_P D vwCl ((h0, .inr (8, [.int 0, .ref q1, .ref q2, .ref q3, .ref q4, .ref q5, .int 0, .int 0, .int 0, .ref q6, .ref q7, .ref q8, .int 0, .int 0, .ref q9, .int 0, .ref q10, .int 0, .ref q11, .ref q12, .int 0, .null, .int 0, .null, .int 0, .null, .int 0, .int 0, .null, .null, .null, .int 0, .null, .null, .null, .int 0, .int 0])) :: (q1, fI cI 7) :: (q2, fI cI 7) :: (q3, fI cI 7) :: (q4, fI cI 3) :: (q5, fI cI 40) :: (q6, fI cI 8) :: (q7, fI cI 8) :: (q8, fL cL 1280) :: (q9, fI cI 3) :: (q10, fI cI 67) :: (q11, fI cI 20) :: (q12, fI cI 8) :: []) H := hP
  have hD : va_D A ((h0, .inr (8, [.int 0, .ref q1, .ref q2, .ref q3, .ref q4, .ref q5, .int 0, .int 0, .int 0, .ref q6, .ref q7, .ref q8, .int 0, .int 0, .ref q9, .int 0, .ref q10, .int 0, .ref q11, .ref q12, .int 0, .null, .int 0, .null, .int 0, .null, .int 0, .int 0, .null, .null, .null, .int 0, .null, .null, .null, .int 0, .int 0])) :: (q1, fI cI 7) :: (q2, fI cI 7) :: (q3, fI cI 7) :: (q4, fI cI 3) :: (q5, fI cI 40) :: (q6, fI cI 8) :: (q7, fI cI 8) :: (q8, fL cL 1280) :: (q9, fI cI 3) :: (q10, fI cI 67) :: (q11, fI cI 20) :: (q12, fI cI 8) :: []) := hD
  refine lv_aload_n hx hb dX8_init_99 rfl (lv_at hl 0 rfl) ?_
  refine lv_bipush (v := 67) hx hb dX8_init_100 (by decide) ?_
  refine fk_newI (n := 67) (N' := 67) hx hb (hts _ wz_ai) hK hP hD hS hA 0 rfl (by decide) rfl (Nat.le_of_ble_eq_true rfl) (Nat.le_of_ble_eq_true rfl) (Nat.le_of_ble_eq_true rfl) dX8_init_102 (fun q13 H hP hD hS => ?_)
  have hP : va_P D vwCl ((h0, .inr (8, [.int 0, .ref q1, .ref q2, .ref q3, .ref q4, .ref q5, .int 0, .int 0, .int 0, .ref q6, .ref q7, .ref q8, .int 0, .int 0, .ref q9, .int 0, .ref q10, .int 0, .ref q11, .ref q12, .int 0, .null, .int 0, .null, .int 0, .null, .int 0, .int 0, .null, .null, .null, .int 0, .null, .null, .null, .int 0, .int 0])) :: (q1, fI cI 7) :: (q2, fI cI 7) :: (q3, fI cI 7) :: (q4, fI cI 3) :: (q5, fI cI 40) :: (q6, fI cI 8) :: (q7, fI cI 8) :: (q8, fL cL 1280) :: (q9, fI cI 3) :: (q10, fI cI 67) :: (q11, fI cI 20) :: (q12, fI cI 8) :: (q13, fI cI 67) :: []) H := hP
  have hD : va_D A ((h0, .inr (8, [.int 0, .ref q1, .ref q2, .ref q3, .ref q4, .ref q5, .int 0, .int 0, .int 0, .ref q6, .ref q7, .ref q8, .int 0, .int 0, .ref q9, .int 0, .ref q10, .int 0, .ref q11, .ref q12, .int 0, .null, .int 0, .null, .int 0, .null, .int 0, .int 0, .null, .null, .null, .int 0, .null, .null, .null, .int 0, .int 0])) :: (q1, fI cI 7) :: (q2, fI cI 7) :: (q3, fI cI 7) :: (q4, fI cI 3) :: (q5, fI cI 40) :: (q6, fI cI 8) :: (q7, fI cI 8) :: (q8, fL cL 1280) :: (q9, fI cI 3) :: (q10, fI cI 67) :: (q11, fI cI 20) :: (q12, fI cI 8) :: (q13, fI cI 67) :: []) := hD
  refine W.widen (k := 13) (n := 1525) (Nat.le_of_ble_eq_true rfl) (Nat.le_of_ble_eq_true rfl) ?_
  refine va_putF (D := D) (ci := 8) (v := .ref q13) (ty := .array .int) (C := RX8) (T := TX8) (N := 37) hx hb hts wB_8 tyX8 tyX8_ok nmX8 hown hK hP hD hS 0 rfl rfl 21 (by decide) (hts _ wz_8_47) (fun _ h9 => h9) rfl hin rfl (by decide +kernel) rfl rfl (Nat.le_of_ble_eq_true rfl) dX8_init_104 (fun H locs hP hD hS => ?_)
  have hP : va_P D vwCl ((h0, .inr (8, [.int 0, .ref q1, .ref q2, .ref q3, .ref q4, .ref q5, .int 0, .int 0, .int 0, .ref q6, .ref q7, .ref q8, .int 0, .int 0, .ref q9, .int 0, .ref q10, .int 0, .ref q11, .ref q12, .int 0, .ref q13, .int 0, .null, .int 0, .null, .int 0, .int 0, .null, .null, .null, .int 0, .null, .null, .null, .int 0, .int 0])) :: (q1, fI cI 7) :: (q2, fI cI 7) :: (q3, fI cI 7) :: (q4, fI cI 3) :: (q5, fI cI 40) :: (q6, fI cI 8) :: (q7, fI cI 8) :: (q8, fL cL 1280) :: (q9, fI cI 3) :: (q10, fI cI 67) :: (q11, fI cI 20) :: (q12, fI cI 8) :: (q13, fI cI 67) :: []) H := hP
  have hD : va_D A ((h0, .inr (8, [.int 0, .ref q1, .ref q2, .ref q3, .ref q4, .ref q5, .int 0, .int 0, .int 0, .ref q6, .ref q7, .ref q8, .int 0, .int 0, .ref q9, .int 0, .ref q10, .int 0, .ref q11, .ref q12, .int 0, .ref q13, .int 0, .null, .int 0, .null, .int 0, .int 0, .null, .null, .null, .int 0, .null, .null, .null, .int 0, .int 0])) :: (q1, fI cI 7) :: (q2, fI cI 7) :: (q3, fI cI 7) :: (q4, fI cI 3) :: (q5, fI cI 40) :: (q6, fI cI 8) :: (q7, fI cI 8) :: (q8, fL cL 1280) :: (q9, fI cI 3) :: (q10, fI cI 67) :: (q11, fI cI 20) :: (q12, fI cI 8) :: (q13, fI cI 67) :: []) := hD
  refine lv_aload_n hx hb dX8_init_107 rfl (lv_at hl 0 rfl) ?_
  refine lv_bipush (v := 8) hx hb dX8_init_108 (by decide) ?_
  refine fk_newI (n := 8) (N' := 8) hx hb (hts _ wz_ai) hK hP hD hS hA 0 rfl (by decide) rfl (Nat.le_of_ble_eq_true rfl) (Nat.le_of_ble_eq_true rfl) (Nat.le_of_ble_eq_true rfl) dX8_init_110 (fun q14 H hP hD hS => ?_)
  have hP : va_P D vwCl ((h0, .inr (8, [.int 0, .ref q1, .ref q2, .ref q3, .ref q4, .ref q5, .int 0, .int 0, .int 0, .ref q6, .ref q7, .ref q8, .int 0, .int 0, .ref q9, .int 0, .ref q10, .int 0, .ref q11, .ref q12, .int 0, .ref q13, .int 0, .null, .int 0, .null, .int 0, .int 0, .null, .null, .null, .int 0, .null, .null, .null, .int 0, .int 0])) :: (q1, fI cI 7) :: (q2, fI cI 7) :: (q3, fI cI 7) :: (q4, fI cI 3) :: (q5, fI cI 40) :: (q6, fI cI 8) :: (q7, fI cI 8) :: (q8, fL cL 1280) :: (q9, fI cI 3) :: (q10, fI cI 67) :: (q11, fI cI 20) :: (q12, fI cI 8) :: (q13, fI cI 67) :: (q14, fI cI 8) :: []) H := hP
  have hD : va_D A ((h0, .inr (8, [.int 0, .ref q1, .ref q2, .ref q3, .ref q4, .ref q5, .int 0, .int 0, .int 0, .ref q6, .ref q7, .ref q8, .int 0, .int 0, .ref q9, .int 0, .ref q10, .int 0, .ref q11, .ref q12, .int 0, .ref q13, .int 0, .null, .int 0, .null, .int 0, .int 0, .null, .null, .null, .int 0, .null, .null, .null, .int 0, .int 0])) :: (q1, fI cI 7) :: (q2, fI cI 7) :: (q3, fI cI 7) :: (q4, fI cI 3) :: (q5, fI cI 40) :: (q6, fI cI 8) :: (q7, fI cI 8) :: (q8, fL cL 1280) :: (q9, fI cI 3) :: (q10, fI cI 67) :: (q11, fI cI 20) :: (q12, fI cI 8) :: (q13, fI cI 67) :: (q14, fI cI 8) :: []) := hD
  refine W.widen (k := 14) (n := 1533) (Nat.le_of_ble_eq_true rfl) (Nat.le_of_ble_eq_true rfl) ?_
  refine va_putF (D := D) (ci := 8) (v := .ref q14) (ty := .array .int) (C := RX8) (T := TX8) (N := 37) hx hb hts wB_8 tyX8 tyX8_ok nmX8 hown hK hP hD hS 0 rfl rfl 23 (by decide) (hts _ wz_8_50) (fun _ h9 => h9) rfl hin rfl (by decide +kernel) rfl rfl (Nat.le_of_ble_eq_true rfl) dX8_init_112 (fun H locs hP hD hS => ?_)
  have hP : va_P D vwCl ((h0, .inr (8, [.int 0, .ref q1, .ref q2, .ref q3, .ref q4, .ref q5, .int 0, .int 0, .int 0, .ref q6, .ref q7, .ref q8, .int 0, .int 0, .ref q9, .int 0, .ref q10, .int 0, .ref q11, .ref q12, .int 0, .ref q13, .int 0, .ref q14, .int 0, .null, .int 0, .int 0, .null, .null, .null, .int 0, .null, .null, .null, .int 0, .int 0])) :: (q1, fI cI 7) :: (q2, fI cI 7) :: (q3, fI cI 7) :: (q4, fI cI 3) :: (q5, fI cI 40) :: (q6, fI cI 8) :: (q7, fI cI 8) :: (q8, fL cL 1280) :: (q9, fI cI 3) :: (q10, fI cI 67) :: (q11, fI cI 20) :: (q12, fI cI 8) :: (q13, fI cI 67) :: (q14, fI cI 8) :: []) H := hP
  have hD : va_D A ((h0, .inr (8, [.int 0, .ref q1, .ref q2, .ref q3, .ref q4, .ref q5, .int 0, .int 0, .int 0, .ref q6, .ref q7, .ref q8, .int 0, .int 0, .ref q9, .int 0, .ref q10, .int 0, .ref q11, .ref q12, .int 0, .ref q13, .int 0, .ref q14, .int 0, .null, .int 0, .int 0, .null, .null, .null, .int 0, .null, .null, .null, .int 0, .int 0])) :: (q1, fI cI 7) :: (q2, fI cI 7) :: (q3, fI cI 7) :: (q4, fI cI 3) :: (q5, fI cI 40) :: (q6, fI cI 8) :: (q7, fI cI 8) :: (q8, fL cL 1280) :: (q9, fI cI 3) :: (q10, fI cI 67) :: (q11, fI cI 20) :: (q12, fI cI 8) :: (q13, fI cI 67) :: (q14, fI cI 8) :: []) := hD
  refine lv_aload_n hx hb dX8_init_115 rfl (lv_at hl 0 rfl) ?_
  refine lv_bipush (v := 16) hx hb dX8_init_116 (by decide) ?_
  refine fk_newI (n := 16) (N' := 16) hx hb (hts _ wz_ai) hK hP hD hS hA 0 rfl (by decide) rfl (Nat.le_of_ble_eq_true rfl) (Nat.le_of_ble_eq_true rfl) (Nat.le_of_ble_eq_true rfl) dX8_init_118 (fun q15 H hP hD hS => ?_)
  have hP : va_P D vwCl ((h0, .inr (8, [.int 0, .ref q1, .ref q2, .ref q3, .ref q4, .ref q5, .int 0, .int 0, .int 0, .ref q6, .ref q7, .ref q8, .int 0, .int 0, .ref q9, .int 0, .ref q10, .int 0, .ref q11, .ref q12, .int 0, .ref q13, .int 0, .ref q14, .int 0, .null, .int 0, .int 0, .null, .null, .null, .int 0, .null, .null, .null, .int 0, .int 0])) :: (q1, fI cI 7) :: (q2, fI cI 7) :: (q3, fI cI 7) :: (q4, fI cI 3) :: (q5, fI cI 40) :: (q6, fI cI 8) :: (q7, fI cI 8) :: (q8, fL cL 1280) :: (q9, fI cI 3) :: (q10, fI cI 67) :: (q11, fI cI 20) :: (q12, fI cI 8) :: (q13, fI cI 67) :: (q14, fI cI 8) :: (q15, fI cI 16) :: []) H := hP
  have hD : va_D A ((h0, .inr (8, [.int 0, .ref q1, .ref q2, .ref q3, .ref q4, .ref q5, .int 0, .int 0, .int 0, .ref q6, .ref q7, .ref q8, .int 0, .int 0, .ref q9, .int 0, .ref q10, .int 0, .ref q11, .ref q12, .int 0, .ref q13, .int 0, .ref q14, .int 0, .null, .int 0, .int 0, .null, .null, .null, .int 0, .null, .null, .null, .int 0, .int 0])) :: (q1, fI cI 7) :: (q2, fI cI 7) :: (q3, fI cI 7) :: (q4, fI cI 3) :: (q5, fI cI 40) :: (q6, fI cI 8) :: (q7, fI cI 8) :: (q8, fL cL 1280) :: (q9, fI cI 3) :: (q10, fI cI 67) :: (q11, fI cI 20) :: (q12, fI cI 8) :: (q13, fI cI 67) :: (q14, fI cI 8) :: (q15, fI cI 16) :: []) := hD
  refine W.widen (k := 15) (n := 1549) (Nat.le_of_ble_eq_true rfl) (Nat.le_of_ble_eq_true rfl) ?_
  refine va_putF (D := D) (ci := 8) (v := .ref q15) (ty := .array .int) (C := RX8) (T := TX8) (N := 37) hx hb hts wB_8 tyX8 tyX8_ok nmX8 hown hK hP hD hS 0 rfl rfl 25 (by decide) (hts _ wz_8_53) (fun _ h9 => h9) rfl hin rfl (by decide +kernel) rfl rfl (Nat.le_of_ble_eq_true rfl) dX8_init_120 (fun H locs hP hD hS => ?_)
  have hP : va_P D vwCl ((h0, .inr (8, [.int 0, .ref q1, .ref q2, .ref q3, .ref q4, .ref q5, .int 0, .int 0, .int 0, .ref q6, .ref q7, .ref q8, .int 0, .int 0, .ref q9, .int 0, .ref q10, .int 0, .ref q11, .ref q12, .int 0, .ref q13, .int 0, .ref q14, .int 0, .ref q15, .int 0, .int 0, .null, .null, .null, .int 0, .null, .null, .null, .int 0, .int 0])) :: (q1, fI cI 7) :: (q2, fI cI 7) :: (q3, fI cI 7) :: (q4, fI cI 3) :: (q5, fI cI 40) :: (q6, fI cI 8) :: (q7, fI cI 8) :: (q8, fL cL 1280) :: (q9, fI cI 3) :: (q10, fI cI 67) :: (q11, fI cI 20) :: (q12, fI cI 8) :: (q13, fI cI 67) :: (q14, fI cI 8) :: (q15, fI cI 16) :: []) H := hP
  have hD : va_D A ((h0, .inr (8, [.int 0, .ref q1, .ref q2, .ref q3, .ref q4, .ref q5, .int 0, .int 0, .int 0, .ref q6, .ref q7, .ref q8, .int 0, .int 0, .ref q9, .int 0, .ref q10, .int 0, .ref q11, .ref q12, .int 0, .ref q13, .int 0, .ref q14, .int 0, .ref q15, .int 0, .int 0, .null, .null, .null, .int 0, .null, .null, .null, .int 0, .int 0])) :: (q1, fI cI 7) :: (q2, fI cI 7) :: (q3, fI cI 7) :: (q4, fI cI 3) :: (q5, fI cI 40) :: (q6, fI cI 8) :: (q7, fI cI 8) :: (q8, fL cL 1280) :: (q9, fI cI 3) :: (q10, fI cI 67) :: (q11, fI cI 20) :: (q12, fI cI 8) :: (q13, fI cI 67) :: (q14, fI cI 8) :: (q15, fI cI 16) :: []) := hD
  refine lv_aload_n hx hb dX8_init_123 rfl (lv_at hl 0 rfl) ?_
  refine lv_bipush (v := 7) hx hb dX8_init_124 (by decide) ?_
  refine fk_newI (n := 7) (N' := 7) hx hb (hts _ wz_ai) hK hP hD hS hA 0 rfl (by decide) rfl (Nat.le_of_ble_eq_true rfl) (Nat.le_of_ble_eq_true rfl) (Nat.le_of_ble_eq_true rfl) dX8_init_126 (fun q16 H hP hD hS => ?_)
  have hP : va_P D vwCl ((h0, .inr (8, [.int 0, .ref q1, .ref q2, .ref q3, .ref q4, .ref q5, .int 0, .int 0, .int 0, .ref q6, .ref q7, .ref q8, .int 0, .int 0, .ref q9, .int 0, .ref q10, .int 0, .ref q11, .ref q12, .int 0, .ref q13, .int 0, .ref q14, .int 0, .ref q15, .int 0, .int 0, .null, .null, .null, .int 0, .null, .null, .null, .int 0, .int 0])) :: (q1, fI cI 7) :: (q2, fI cI 7) :: (q3, fI cI 7) :: (q4, fI cI 3) :: (q5, fI cI 40) :: (q6, fI cI 8) :: (q7, fI cI 8) :: (q8, fL cL 1280) :: (q9, fI cI 3) :: (q10, fI cI 67) :: (q11, fI cI 20) :: (q12, fI cI 8) :: (q13, fI cI 67) :: (q14, fI cI 8) :: (q15, fI cI 16) :: (q16, fI cI 7) :: []) H := hP
  have hD : va_D A ((h0, .inr (8, [.int 0, .ref q1, .ref q2, .ref q3, .ref q4, .ref q5, .int 0, .int 0, .int 0, .ref q6, .ref q7, .ref q8, .int 0, .int 0, .ref q9, .int 0, .ref q10, .int 0, .ref q11, .ref q12, .int 0, .ref q13, .int 0, .ref q14, .int 0, .ref q15, .int 0, .int 0, .null, .null, .null, .int 0, .null, .null, .null, .int 0, .int 0])) :: (q1, fI cI 7) :: (q2, fI cI 7) :: (q3, fI cI 7) :: (q4, fI cI 3) :: (q5, fI cI 40) :: (q6, fI cI 8) :: (q7, fI cI 8) :: (q8, fL cL 1280) :: (q9, fI cI 3) :: (q10, fI cI 67) :: (q11, fI cI 20) :: (q12, fI cI 8) :: (q13, fI cI 67) :: (q14, fI cI 8) :: (q15, fI cI 16) :: (q16, fI cI 7) :: []) := hD
  refine W.widen (k := 16) (n := 1556) (Nat.le_of_ble_eq_true rfl) (Nat.le_of_ble_eq_true rfl) ?_
  refine va_putF (D := D) (ci := 8) (v := .ref q16) (ty := .array .int) (C := RX8) (T := TX8) (N := 37) hx hb hts wB_8 tyX8 tyX8_ok nmX8 hown hK hP hD hS 0 rfl rfl 28 (by decide) (hts _ wz_8_56) (fun _ h9 => h9) rfl hin rfl (by decide +kernel) rfl rfl (Nat.le_of_ble_eq_true rfl) dX8_init_128 (fun H locs hP hD hS => ?_)
  have hP : va_P D vwCl ((h0, .inr (8, [.int 0, .ref q1, .ref q2, .ref q3, .ref q4, .ref q5, .int 0, .int 0, .int 0, .ref q6, .ref q7, .ref q8, .int 0, .int 0, .ref q9, .int 0, .ref q10, .int 0, .ref q11, .ref q12, .int 0, .ref q13, .int 0, .ref q14, .int 0, .ref q15, .int 0, .int 0, .ref q16, .null, .null, .int 0, .null, .null, .null, .int 0, .int 0])) :: (q1, fI cI 7) :: (q2, fI cI 7) :: (q3, fI cI 7) :: (q4, fI cI 3) :: (q5, fI cI 40) :: (q6, fI cI 8) :: (q7, fI cI 8) :: (q8, fL cL 1280) :: (q9, fI cI 3) :: (q10, fI cI 67) :: (q11, fI cI 20) :: (q12, fI cI 8) :: (q13, fI cI 67) :: (q14, fI cI 8) :: (q15, fI cI 16) :: (q16, fI cI 7) :: []) H := hP
  have hD : va_D A ((h0, .inr (8, [.int 0, .ref q1, .ref q2, .ref q3, .ref q4, .ref q5, .int 0, .int 0, .int 0, .ref q6, .ref q7, .ref q8, .int 0, .int 0, .ref q9, .int 0, .ref q10, .int 0, .ref q11, .ref q12, .int 0, .ref q13, .int 0, .ref q14, .int 0, .ref q15, .int 0, .int 0, .ref q16, .null, .null, .int 0, .null, .null, .null, .int 0, .int 0])) :: (q1, fI cI 7) :: (q2, fI cI 7) :: (q3, fI cI 7) :: (q4, fI cI 3) :: (q5, fI cI 40) :: (q6, fI cI 8) :: (q7, fI cI 8) :: (q8, fL cL 1280) :: (q9, fI cI 3) :: (q10, fI cI 67) :: (q11, fI cI 20) :: (q12, fI cI 8) :: (q13, fI cI 67) :: (q14, fI cI 8) :: (q15, fI cI 16) :: (q16, fI cI 7) :: []) := hD
  refine lv_aload_n hx hb dX8_init_131 rfl (lv_at hl 0 rfl) ?_
  refine lv_bipush (v := 14) hx hb dX8_init_132 (by decide) ?_
  refine fk_newI (n := 14) (N' := 14) hx hb (hts _ wz_ai) hK hP hD hS hA 0 rfl (by decide) rfl (Nat.le_of_ble_eq_true rfl) (Nat.le_of_ble_eq_true rfl) (Nat.le_of_ble_eq_true rfl) dX8_init_134 (fun q17 H hP hD hS => ?_)
  have hP : va_P D vwCl ((h0, .inr (8, [.int 0, .ref q1, .ref q2, .ref q3, .ref q4, .ref q5, .int 0, .int 0, .int 0, .ref q6, .ref q7, .ref q8, .int 0, .int 0, .ref q9, .int 0, .ref q10, .int 0, .ref q11, .ref q12, .int 0, .ref q13, .int 0, .ref q14, .int 0, .ref q15, .int 0, .int 0, .ref q16, .null, .null, .int 0, .null, .null, .null, .int 0, .int 0])) :: (q1, fI cI 7) :: (q2, fI cI 7) :: (q3, fI cI 7) :: (q4, fI cI 3) :: (q5, fI cI 40) :: (q6, fI cI 8) :: (q7, fI cI 8) :: (q8, fL cL 1280) :: (q9, fI cI 3) :: (q10, fI cI 67) :: (q11, fI cI 20) :: (q12, fI cI 8) :: (q13, fI cI 67) :: (q14, fI cI 8) :: (q15, fI cI 16) :: (q16, fI cI 7) :: (q17, fI cI 14) :: []) H := hP
  have hD : va_D A ((h0, .inr (8, [.int 0, .ref q1, .ref q2, .ref q3, .ref q4, .ref q5, .int 0, .int 0, .int 0, .ref q6, .ref q7, .ref q8, .int 0, .int 0, .ref q9, .int 0, .ref q10, .int 0, .ref q11, .ref q12, .int 0, .ref q13, .int 0, .ref q14, .int 0, .ref q15, .int 0, .int 0, .ref q16, .null, .null, .int 0, .null, .null, .null, .int 0, .int 0])) :: (q1, fI cI 7) :: (q2, fI cI 7) :: (q3, fI cI 7) :: (q4, fI cI 3) :: (q5, fI cI 40) :: (q6, fI cI 8) :: (q7, fI cI 8) :: (q8, fL cL 1280) :: (q9, fI cI 3) :: (q10, fI cI 67) :: (q11, fI cI 20) :: (q12, fI cI 8) :: (q13, fI cI 67) :: (q14, fI cI 8) :: (q15, fI cI 16) :: (q16, fI cI 7) :: (q17, fI cI 14) :: []) := hD
  refine W.widen (k := 17) (n := 1570) (Nat.le_of_ble_eq_true rfl) (Nat.le_of_ble_eq_true rfl) ?_
  refine va_putF (D := D) (ci := 8) (v := .ref q17) (ty := .array .int) (C := RX8) (T := TX8) (N := 37) hx hb hts wB_8 tyX8 tyX8_ok nmX8 hown hK hP hD hS 0 rfl rfl 29 (by decide) (hts _ wz_8_59) (fun _ h9 => h9) rfl hin rfl (by decide +kernel) rfl rfl (Nat.le_of_ble_eq_true rfl) dX8_init_136 (fun H locs hP hD hS => ?_)
  have hP : va_P D vwCl ((h0, .inr (8, [.int 0, .ref q1, .ref q2, .ref q3, .ref q4, .ref q5, .int 0, .int 0, .int 0, .ref q6, .ref q7, .ref q8, .int 0, .int 0, .ref q9, .int 0, .ref q10, .int 0, .ref q11, .ref q12, .int 0, .ref q13, .int 0, .ref q14, .int 0, .ref q15, .int 0, .int 0, .ref q16, .ref q17, .null, .int 0, .null, .null, .null, .int 0, .int 0])) :: (q1, fI cI 7) :: (q2, fI cI 7) :: (q3, fI cI 7) :: (q4, fI cI 3) :: (q5, fI cI 40) :: (q6, fI cI 8) :: (q7, fI cI 8) :: (q8, fL cL 1280) :: (q9, fI cI 3) :: (q10, fI cI 67) :: (q11, fI cI 20) :: (q12, fI cI 8) :: (q13, fI cI 67) :: (q14, fI cI 8) :: (q15, fI cI 16) :: (q16, fI cI 7) :: (q17, fI cI 14) :: []) H := hP
  have hD : va_D A ((h0, .inr (8, [.int 0, .ref q1, .ref q2, .ref q3, .ref q4, .ref q5, .int 0, .int 0, .int 0, .ref q6, .ref q7, .ref q8, .int 0, .int 0, .ref q9, .int 0, .ref q10, .int 0, .ref q11, .ref q12, .int 0, .ref q13, .int 0, .ref q14, .int 0, .ref q15, .int 0, .int 0, .ref q16, .ref q17, .null, .int 0, .null, .null, .null, .int 0, .int 0])) :: (q1, fI cI 7) :: (q2, fI cI 7) :: (q3, fI cI 7) :: (q4, fI cI 3) :: (q5, fI cI 40) :: (q6, fI cI 8) :: (q7, fI cI 8) :: (q8, fL cL 1280) :: (q9, fI cI 3) :: (q10, fI cI 67) :: (q11, fI cI 20) :: (q12, fI cI 8) :: (q13, fI cI 67) :: (q14, fI cI 8) :: (q15, fI cI 16) :: (q16, fI cI 7) :: (q17, fI cI 14) :: []) := hD
  refine lv_aload_n hx hb dX8_init_139 rfl (lv_at hl 0 rfl) ?_
  refine lv_bipush (v := 7) hx hb dX8_init_140 (by decide) ?_
  refine fk_newI (n := 7) (N' := 7) hx hb (hts _ wz_ai) hK hP hD hS hA 0 rfl (by decide) rfl (Nat.le_of_ble_eq_true rfl) (Nat.le_of_ble_eq_true rfl) (Nat.le_of_ble_eq_true rfl) dX8_init_142 (fun q18 H hP hD hS => ?_)
  have hP : va_P D vwCl ((h0, .inr (8, [.int 0, .ref q1, .ref q2, .ref q3, .ref q4, .ref q5, .int 0, .int 0, .int 0, .ref q6, .ref q7, .ref q8, .int 0, .int 0, .ref q9, .int 0, .ref q10, .int 0, .ref q11, .ref q12, .int 0, .ref q13, .int 0, .ref q14, .int 0, .ref q15, .int 0, .int 0, .ref q16, .ref q17, .null, .int 0, .null, .null, .null, .int 0, .int 0])) :: (q1, fI cI 7) :: (q2, fI cI 7) :: (q3, fI cI 7) :: (q4, fI cI 3) :: (q5, fI cI 40) :: (q6, fI cI 8) :: (q7, fI cI 8) :: (q8, fL cL 1280) :: (q9, fI cI 3) :: (q10, fI cI 67) :: (q11, fI cI 20) :: (q12, fI cI 8) :: (q13, fI cI 67) :: (q14, fI cI 8) :: (q15, fI cI 16) :: (q16, fI cI 7) :: (q17, fI cI 14) :: (q18, fI cI 7) :: []) H := hP
  have hD : va_D A ((h0, .inr (8, [.int 0, .ref q1, .ref q2, .ref q3, .ref q4, .ref q5, .int 0, .int 0, .int 0, .ref q6, .ref q7, .ref q8, .int 0, .int 0, .ref q9, .int 0, .ref q10, .int 0, .ref q11, .ref q12, .int 0, .ref q13, .int 0, .ref q14, .int 0, .ref q15, .int 0, .int 0, .ref q16, .ref q17, .null, .int 0, .null, .null, .null, .int 0, .int 0])) :: (q1, fI cI 7) :: (q2, fI cI 7) :: (q3, fI cI 7) :: (q4, fI cI 3) :: (q5, fI cI 40) :: (q6, fI cI 8) :: (q7, fI cI 8) :: (q8, fL cL 1280) :: (q9, fI cI 3) :: (q10, fI cI 67) :: (q11, fI cI 20) :: (q12, fI cI 8) :: (q13, fI cI 67) :: (q14, fI cI 8) :: (q15, fI cI 16) :: (q16, fI cI 7) :: (q17, fI cI 14) :: (q18, fI cI 7) :: []) := hD
  refine W.widen (k := 18) (n := 1577) (Nat.le_of_ble_eq_true rfl) (Nat.le_of_ble_eq_true rfl) ?_
  refine va_putF (D := D) (ci := 8) (v := .ref q18) (ty := .array .int) (C := RX8) (T := TX8) (N := 37) hx hb hts wB_8 tyX8 tyX8_ok nmX8 hown hK hP hD hS 0 rfl rfl 30 (by decide) (hts _ wz_8_62) (fun _ h9 => h9) rfl hin rfl (by decide +kernel) rfl rfl (Nat.le_of_ble_eq_true rfl) dX8_init_144 (fun H locs hP hD hS => ?_)
  have hP : va_P D vwCl ((h0, .inr (8, [.int 0, .ref q1, .ref q2, .ref q3, .ref q4, .ref q5, .int 0, .int 0, .int 0, .ref q6, .ref q7, .ref q8, .int 0, .int 0, .ref q9, .int 0, .ref q10, .int 0, .ref q11, .ref q12, .int 0, .ref q13, .int 0, .ref q14, .int 0, .ref q15, .int 0, .int 0, .ref q16, .ref q17, .ref q18, .int 0, .null, .null, .null, .int 0, .int 0])) :: (q1, fI cI 7) :: (q2, fI cI 7) :: (q3, fI cI 7) :: (q4, fI cI 3) :: (q5, fI cI 40) :: (q6, fI cI 8) :: (q7, fI cI 8) :: (q8, fL cL 1280) :: (q9, fI cI 3) :: (q10, fI cI 67) :: (q11, fI cI 20) :: (q12, fI cI 8) :: (q13, fI cI 67) :: (q14, fI cI 8) :: (q15, fI cI 16) :: (q16, fI cI 7) :: (q17, fI cI 14) :: (q18, fI cI 7) :: []) H := hP
  have hD : va_D A ((h0, .inr (8, [.int 0, .ref q1, .ref q2, .ref q3, .ref q4, .ref q5, .int 0, .int 0, .int 0, .ref q6, .ref q7, .ref q8, .int 0, .int 0, .ref q9, .int 0, .ref q10, .int 0, .ref q11, .ref q12, .int 0, .ref q13, .int 0, .ref q14, .int 0, .ref q15, .int 0, .int 0, .ref q16, .ref q17, .ref q18, .int 0, .null, .null, .null, .int 0, .int 0])) :: (q1, fI cI 7) :: (q2, fI cI 7) :: (q3, fI cI 7) :: (q4, fI cI 3) :: (q5, fI cI 40) :: (q6, fI cI 8) :: (q7, fI cI 8) :: (q8, fL cL 1280) :: (q9, fI cI 3) :: (q10, fI cI 67) :: (q11, fI cI 20) :: (q12, fI cI 8) :: (q13, fI cI 67) :: (q14, fI cI 8) :: (q15, fI cI 16) :: (q16, fI cI 7) :: (q17, fI cI 14) :: (q18, fI cI 7) :: []) := hD
  refine lv_aload_n hx hb dX8_init_147 rfl (lv_at hl 0 rfl) ?_
  refine lv_bipush (v := 7) hx hb dX8_init_148 (by decide) ?_
  refine fk_newI (n := 7) (N' := 7) hx hb (hts _ wz_ai) hK hP hD hS hA 0 rfl (by decide) rfl (Nat.le_of_ble_eq_true rfl) (Nat.le_of_ble_eq_true rfl) (Nat.le_of_ble_eq_true rfl) dX8_init_150 (fun q19 H hP hD hS => ?_)
  have hP : va_P D vwCl ((h0, .inr (8, [.int 0, .ref q1, .ref q2, .ref q3, .ref q4, .ref q5, .int 0, .int 0, .int 0, .ref q6, .ref q7, .ref q8, .int 0, .int 0, .ref q9, .int 0, .ref q10, .int 0, .ref q11, .ref q12, .int 0, .ref q13, .int 0, .ref q14, .int 0, .ref q15, .int 0, .int 0, .ref q16, .ref q17, .ref q18, .int 0, .null, .null, .null, .int 0, .int 0])) :: (q1, fI cI 7) :: (q2, fI cI 7) :: (q3, fI cI 7) :: (q4, fI cI 3) :: (q5, fI cI 40) :: (q6, fI cI 8) :: (q7, fI cI 8) :: (q8, fL cL 1280) :: (q9, fI cI 3) :: (q10, fI cI 67) :: (q11, fI cI 20) :: (q12, fI cI 8) :: (q13, fI cI 67) :: (q14, fI cI 8) :: (q15, fI cI 16) :: (q16, fI cI 7) :: (q17, fI cI 14) :: (q18, fI cI 7) :: (q19, fI cI 7) :: []) H := hP
  have hD : va_D A ((h0, .inr (8, [.int 0, .ref q1, .ref q2, .ref q3, .ref q4, .ref q5, .int 0, .int 0, .int 0, .ref q6, .ref q7, .ref q8, .int 0, .int 0, .ref q9, .int 0, .ref q10, .int 0, .ref q11, .ref q12, .int 0, .ref q13, .int 0, .ref q14, .int 0, .ref q15, .int 0, .int 0, .ref q16, .ref q17, .ref q18, .int 0, .null, .null, .null, .int 0, .int 0])) :: (q1, fI cI 7) :: (q2, fI cI 7) :: (q3, fI cI 7) :: (q4, fI cI 3) :: (q5, fI cI 40) :: (q6, fI cI 8) :: (q7, fI cI 8) :: (q8, fL cL 1280) :: (q9, fI cI 3) :: (q10, fI cI 67) :: (q11, fI cI 20) :: (q12, fI cI 8) :: (q13, fI cI 67) :: (q14, fI cI 8) :: (q15, fI cI 16) :: (q16, fI cI 7) :: (q17, fI cI 14) :: (q18, fI cI 7) :: (q19, fI cI 7) :: []) := hD
  refine W.widen (k := 19) (n := 1584) (Nat.le_of_ble_eq_true rfl) (Nat.le_of_ble_eq_true rfl) ?_
  refine va_putF (D := D) (ci := 8) (v := .ref q19) (ty := .array .int) (C := RX8) (T := TX8) (N := 37) hx hb hts wB_8 tyX8 tyX8_ok nmX8 hown hK hP hD hS 0 rfl rfl 32 (by decide) (hts _ wz_8_65) (fun _ h9 => h9) rfl hin rfl (by decide +kernel) rfl rfl (Nat.le_of_ble_eq_true rfl) dX8_init_152 (fun H locs hP hD hS => ?_)
  have hP : va_P D vwCl ((h0, .inr (8, [.int 0, .ref q1, .ref q2, .ref q3, .ref q4, .ref q5, .int 0, .int 0, .int 0, .ref q6, .ref q7, .ref q8, .int 0, .int 0, .ref q9, .int 0, .ref q10, .int 0, .ref q11, .ref q12, .int 0, .ref q13, .int 0, .ref q14, .int 0, .ref q15, .int 0, .int 0, .ref q16, .ref q17, .ref q18, .int 0, .ref q19, .null, .null, .int 0, .int 0])) :: (q1, fI cI 7) :: (q2, fI cI 7) :: (q3, fI cI 7) :: (q4, fI cI 3) :: (q5, fI cI 40) :: (q6, fI cI 8) :: (q7, fI cI 8) :: (q8, fL cL 1280) :: (q9, fI cI 3) :: (q10, fI cI 67) :: (q11, fI cI 20) :: (q12, fI cI 8) :: (q13, fI cI 67) :: (q14, fI cI 8) :: (q15, fI cI 16) :: (q16, fI cI 7) :: (q17, fI cI 14) :: (q18, fI cI 7) :: (q19, fI cI 7) :: []) H := hP
  have hD : va_D A ((h0, .inr (8, [.int 0, .ref q1, .ref q2, .ref q3, .ref q4, .ref q5, .int 0, .int 0, .int 0, .ref q6, .ref q7, .ref q8, .int 0, .int 0, .ref q9, .int 0, .ref q10, .int 0, .ref q11, .ref q12, .int 0, .ref q13, .int 0, .ref q14, .int 0, .ref q15, .int 0, .int 0, .ref q16, .ref q17, .ref q18, .int 0, .ref q19, .null, .null, .int 0, .int 0])) :: (q1, fI cI 7) :: (q2, fI cI 7) :: (q3, fI cI 7) :: (q4, fI cI 3) :: (q5, fI cI 40) :: (q6, fI cI 8) :: (q7, fI cI 8) :: (q8, fL cL 1280) :: (q9, fI cI 3) :: (q10, fI cI 67) :: (q11, fI cI 20) :: (q12, fI cI 8) :: (q13, fI cI 67) :: (q14, fI cI 8) :: (q15, fI cI 16) :: (q16, fI cI 7) :: (q17, fI cI 14) :: (q18, fI cI 7) :: (q19, fI cI 7) :: []) := hD
  refine lv_aload_n hx hb dX8_init_155 rfl (lv_at hl 0 rfl) ?_
  refine lv_bipush (v := 7) hx hb dX8_init_156 (by decide) ?_
  refine fk_newI (n := 7) (N' := 7) hx hb (hts _ wz_ai) hK hP hD hS hA 0 rfl (by decide) rfl (Nat.le_of_ble_eq_true rfl) (Nat.le_of_ble_eq_true rfl) (Nat.le_of_ble_eq_true rfl) dX8_init_158 (fun q20 H hP hD hS => ?_)
  have hP : va_P D vwCl ((h0, .inr (8, [.int 0, .ref q1, .ref q2, .ref q3, .ref q4, .ref q5, .int 0, .int 0, .int 0, .ref q6, .ref q7, .ref q8, .int 0, .int 0, .ref q9, .int 0, .ref q10, .int 0, .ref q11, .ref q12, .int 0, .ref q13, .int 0, .ref q14, .int 0, .ref q15, .int 0, .int 0, .ref q16, .ref q17, .ref q18, .int 0, .ref q19, .null, .null, .int 0, .int 0])) :: (q1, fI cI 7) :: (q2, fI cI 7) :: (q3, fI cI 7) :: (q4, fI cI 3) :: (q5, fI cI 40) :: (q6, fI cI 8) :: (q7, fI cI 8) :: (q8, fL cL 1280) :: (q9, fI cI 3) :: (q10, fI cI 67) :: (q11, fI cI 20) :: (q12, fI cI 8) :: (q13, fI cI 67) :: (q14, fI cI 8) :: (q15, fI cI 16) :: (q16, fI cI 7) :: (q17, fI cI 14) :: (q18, fI cI 7) :: (q19, fI cI 7) :: (q20, fI cI 7) :: []) H := hP
  have hD : va_D A ((h0, .inr (8, [.int 0, .ref q1, .ref q2, .ref q3, .ref q4, .ref q5, .int 0, .int 0, .int 0, .ref q6, .ref q7, .ref q8, .int 0, .int 0, .ref q9, .int 0, .ref q10, .int 0, .ref q11, .ref q12, .int 0, .ref q13, .int 0, .ref q14, .int 0, .ref q15, .int 0, .int 0, .ref q16, .ref q17, .ref q18, .int 0, .ref q19, .null, .null, .int 0, .int 0])) :: (q1, fI cI 7) :: (q2, fI cI 7) :: (q3, fI cI 7) :: (q4, fI cI 3) :: (q5, fI cI 40) :: (q6, fI cI 8) :: (q7, fI cI 8) :: (q8, fL cL 1280) :: (q9, fI cI 3) :: (q10, fI cI 67) :: (q11, fI cI 20) :: (q12, fI cI 8) :: (q13, fI cI 67) :: (q14, fI cI 8) :: (q15, fI cI 16) :: (q16, fI cI 7) :: (q17, fI cI 14) :: (q18, fI cI 7) :: (q19, fI cI 7) :: (q20, fI cI 7) :: []) := hD
  refine W.widen (k := 20) (n := 1591) (Nat.le_of_ble_eq_true rfl) (Nat.le_of_ble_eq_true rfl) ?_
  refine va_putF (D := D) (ci := 8) (v := .ref q20) (ty := .array .int) (C := RX8) (T := TX8) (N := 37) hx hb hts wB_8 tyX8 tyX8_ok nmX8 hown hK hP hD hS 0 rfl rfl 33 (by decide) (hts _ wz_8_68) (fun _ h9 => h9) rfl hin rfl (by decide +kernel) rfl rfl (Nat.le_of_ble_eq_true rfl) dX8_init_160 (fun H locs hP hD hS => ?_)
  have hP : va_P D vwCl ((h0, .inr (8, [.int 0, .ref q1, .ref q2, .ref q3, .ref q4, .ref q5, .int 0, .int 0, .int 0, .ref q6, .ref q7, .ref q8, .int 0, .int 0, .ref q9, .int 0, .ref q10, .int 0, .ref q11, .ref q12, .int 0, .ref q13, .int 0, .ref q14, .int 0, .ref q15, .int 0, .int 0, .ref q16, .ref q17, .ref q18, .int 0, .ref q19, .ref q20, .null, .int 0, .int 0])) :: (q1, fI cI 7) :: (q2, fI cI 7) :: (q3, fI cI 7) :: (q4, fI cI 3) :: (q5, fI cI 40) :: (q6, fI cI 8) :: (q7, fI cI 8) :: (q8, fL cL 1280) :: (q9, fI cI 3) :: (q10, fI cI 67) :: (q11, fI cI 20) :: (q12, fI cI 8) :: (q13, fI cI 67) :: (q14, fI cI 8) :: (q15, fI cI 16) :: (q16, fI cI 7) :: (q17, fI cI 14) :: (q18, fI cI 7) :: (q19, fI cI 7) :: (q20, fI cI 7) :: []) H := hP
  have hD : va_D A ((h0, .inr (8, [.int 0, .ref q1, .ref q2, .ref q3, .ref q4, .ref q5, .int 0, .int 0, .int 0, .ref q6, .ref q7, .ref q8, .int 0, .int 0, .ref q9, .int 0, .ref q10, .int 0, .ref q11, .ref q12, .int 0, .ref q13, .int 0, .ref q14, .int 0, .ref q15, .int 0, .int 0, .ref q16, .ref q17, .ref q18, .int 0, .ref q19, .ref q20, .null, .int 0, .int 0])) :: (q1, fI cI 7) :: (q2, fI cI 7) :: (q3, fI cI 7) :: (q4, fI cI 3) :: (q5, fI cI 40) :: (q6, fI cI 8) :: (q7, fI cI 8) :: (q8, fL cL 1280) :: (q9, fI cI 3) :: (q10, fI cI 67) :: (q11, fI cI 20) :: (q12, fI cI 8) :: (q13, fI cI 67) :: (q14, fI cI 8) :: (q15, fI cI 16) :: (q16, fI cI 7) :: (q17, fI cI 14) :: (q18, fI cI 7) :: (q19, fI cI 7) :: (q20, fI cI 7) :: []) := hD
  refine lv_aload_n hx hb dX8_init_163 rfl (lv_at hl 0 rfl) ?_
  refine lv_bipush (v := 7) hx hb dX8_init_164 (by decide) ?_
  refine fk_newI (n := 7) (N' := 7) hx hb (hts _ wz_ai) hK hP hD hS hA 0 rfl (by decide) rfl (Nat.le_of_ble_eq_true rfl) (Nat.le_of_ble_eq_true rfl) (Nat.le_of_ble_eq_true rfl) dX8_init_166 (fun q21 H hP hD hS => ?_)
  have hP : va_P D vwCl ((h0, .inr (8, [.int 0, .ref q1, .ref q2, .ref q3, .ref q4, .ref q5, .int 0, .int 0, .int 0, .ref q6, .ref q7, .ref q8, .int 0, .int 0, .ref q9, .int 0, .ref q10, .int 0, .ref q11, .ref q12, .int 0, .ref q13, .int 0, .ref q14, .int 0, .ref q15, .int 0, .int 0, .ref q16, .ref q17, .ref q18, .int 0, .ref q19, .ref q20, .null, .int 0, .int 0])) :: (q1, fI cI 7) :: (q2, fI cI 7) :: (q3, fI cI 7) :: (q4, fI cI 3) :: (q5, fI cI 40) :: (q6, fI cI 8) :: (q7, fI cI 8) :: (q8, fL cL 1280) :: (q9, fI cI 3) :: (q10, fI cI 67) :: (q11, fI cI 20) :: (q12, fI cI 8) :: (q13, fI cI 67) :: (q14, fI cI 8) :: (q15, fI cI 16) :: (q16, fI cI 7) :: (q17, fI cI 14) :: (q18, fI cI 7) :: (q19, fI cI 7) :: (q20, fI cI 7) :: (q21, fI cI 7) :: []) H := hP
  have hD : va_D A ((h0, .inr (8, [.int 0, .ref q1, .ref q2, .ref q3, .ref q4, .ref q5, .int 0, .int 0, .int 0, .ref q6, .ref q7, .ref q8, .int 0, .int 0, .ref q9, .int 0, .ref q10, .int 0, .ref q11, .ref q12, .int 0, .ref q13, .int 0, .ref q14, .int 0, .ref q15, .int 0, .int 0, .ref q16, .ref q17, .ref q18, .int 0, .ref q19, .ref q20, .null, .int 0, .int 0])) :: (q1, fI cI 7) :: (q2, fI cI 7) :: (q3, fI cI 7) :: (q4, fI cI 3) :: (q5, fI cI 40) :: (q6, fI cI 8) :: (q7, fI cI 8) :: (q8, fL cL 1280) :: (q9, fI cI 3) :: (q10, fI cI 67) :: (q11, fI cI 20) :: (q12, fI cI 8) :: (q13, fI cI 67) :: (q14, fI cI 8) :: (q15, fI cI 16) :: (q16, fI cI 7) :: (q17, fI cI 14) :: (q18, fI cI 7) :: (q19, fI cI 7) :: (q20, fI cI 7) :: (q21, fI cI 7) :: []) := hD
  refine W.widen (k := 21) (n := 1598) (Nat.le_of_ble_eq_true rfl) (Nat.le_of_ble_eq_true rfl) ?_
  refine va_putF (D := D) (ci := 8) (v := .ref q21) (ty := .array .int) (C := RX8) (T := TX8) (N := 37) hx hb hts wB_8 tyX8 tyX8_ok nmX8 hown hK hP hD hS 0 rfl rfl 34 (by decide) (hts _ wz_8_71) (fun _ h9 => h9) rfl hin rfl (by decide +kernel) rfl rfl (Nat.le_of_ble_eq_true rfl) dX8_init_168 (fun H locs hP hD hS => ?_)
  have hP : va_P D vwCl ((h0, .inr (8, [.int 0, .ref q1, .ref q2, .ref q3, .ref q4, .ref q5, .int 0, .int 0, .int 0, .ref q6, .ref q7, .ref q8, .int 0, .int 0, .ref q9, .int 0, .ref q10, .int 0, .ref q11, .ref q12, .int 0, .ref q13, .int 0, .ref q14, .int 0, .ref q15, .int 0, .int 0, .ref q16, .ref q17, .ref q18, .int 0, .ref q19, .ref q20, .ref q21, .int 0, .int 0])) :: (q1, fI cI 7) :: (q2, fI cI 7) :: (q3, fI cI 7) :: (q4, fI cI 3) :: (q5, fI cI 40) :: (q6, fI cI 8) :: (q7, fI cI 8) :: (q8, fL cL 1280) :: (q9, fI cI 3) :: (q10, fI cI 67) :: (q11, fI cI 20) :: (q12, fI cI 8) :: (q13, fI cI 67) :: (q14, fI cI 8) :: (q15, fI cI 16) :: (q16, fI cI 7) :: (q17, fI cI 14) :: (q18, fI cI 7) :: (q19, fI cI 7) :: (q20, fI cI 7) :: (q21, fI cI 7) :: []) H := hP
  have hD : va_D A ((h0, .inr (8, [.int 0, .ref q1, .ref q2, .ref q3, .ref q4, .ref q5, .int 0, .int 0, .int 0, .ref q6, .ref q7, .ref q8, .int 0, .int 0, .ref q9, .int 0, .ref q10, .int 0, .ref q11, .ref q12, .int 0, .ref q13, .int 0, .ref q14, .int 0, .ref q15, .int 0, .int 0, .ref q16, .ref q17, .ref q18, .int 0, .ref q19, .ref q20, .ref q21, .int 0, .int 0])) :: (q1, fI cI 7) :: (q2, fI cI 7) :: (q3, fI cI 7) :: (q4, fI cI 3) :: (q5, fI cI 40) :: (q6, fI cI 8) :: (q7, fI cI 8) :: (q8, fL cL 1280) :: (q9, fI cI 3) :: (q10, fI cI 67) :: (q11, fI cI 20) :: (q12, fI cI 8) :: (q13, fI cI 67) :: (q14, fI cI 8) :: (q15, fI cI 16) :: (q16, fI cI 7) :: (q17, fI cI 14) :: (q18, fI cI 7) :: (q19, fI cI 7) :: (q20, fI cI 7) :: (q21, fI cI 7) :: []) := hD
  refine lv_aload_n hx hb dX8_init_171 rfl (lv_at hl 0 rfl) ?_
  refine va_get (D := D) (ci := 8) (v := .ref q4) (C := RX8) (T := TX8) (N := 37) hx hb hts wB_8 hown hK hP 0 rfl rfl 4 (by decide) (hts _ wz_8_19) (fun _ h9 => h9) rfl dX8_init_172 ?_
  refine lv_iconst (v := 0) hx hb dX8_init_175 (by decide) ?_
  refine lv_iconst (v := 5) hx hb dX8_init_176 (by decide) ?_
  refine va_iast hx hb hK hP hD hS 4 0 rfl rfl (i := 0) (x := 5) (by unfold vp_in; decide) dX8_init_177 (fun H locs hP hD hS => ?_)
  have hP : va_P D vwCl ((h0, .inr (8, [.int 0, .ref q1, .ref q2, .ref q3, .ref q4, .ref q5, .int 0, .int 0, .int 0, .ref q6, .ref q7, .ref q8, .int 0, .int 0, .ref q9, .int 0, .ref q10, .int 0, .ref q11, .ref q12, .int 0, .ref q13, .int 0, .ref q14, .int 0, .ref q15, .int 0, .int 0, .ref q16, .ref q17, .ref q18, .int 0, .ref q19, .ref q20, .ref q21, .int 0, .int 0])) :: (q1, fI cI 7) :: (q2, fI cI 7) :: (q3, fI cI 7) :: (q4, .inl (cI, 3, .inl (upd (fun _ => 0) 0 5))) :: (q5, fI cI 40) :: (q6, fI cI 8) :: (q7, fI cI 8) :: (q8, fL cL 1280) :: (q9, fI cI 3) :: (q10, fI cI 67) :: (q11, fI cI 20) :: (q12, fI cI 8) :: (q13, fI cI 67) :: (q14, fI cI 8) :: (q15, fI cI 16) :: (q16, fI cI 7) :: (q17, fI cI 14) :: (q18, fI cI 7) :: (q19, fI cI 7) :: (q20, fI cI 7) :: (q21, fI cI 7) :: []) H := hP
  have hD : va_D A ((h0, .inr (8, [.int 0, .ref q1, .ref q2, .ref q3, .ref q4, .ref q5, .int 0, .int 0, .int 0, .ref q6, .ref q7, .ref q8, .int 0, .int 0, .ref q9, .int 0, .ref q10, .int 0, .ref q11, .ref q12, .int 0, .ref q13, .int 0, .ref q14, .int 0, .ref q15, .int 0, .int 0, .ref q16, .ref q17, .ref q18, .int 0, .ref q19, .ref q20, .ref q21, .int 0, .int 0])) :: (q1, fI cI 7) :: (q2, fI cI 7) :: (q3, fI cI 7) :: (q4, .inl (cI, 3, .inl (upd (fun _ => 0) 0 5))) :: (q5, fI cI 40) :: (q6, fI cI 8) :: (q7, fI cI 8) :: (q8, fL cL 1280) :: (q9, fI cI 3) :: (q10, fI cI 67) :: (q11, fI cI 20) :: (q12, fI cI 8) :: (q13, fI cI 67) :: (q14, fI cI 8) :: (q15, fI cI 16) :: (q16, fI cI 7) :: (q17, fI cI 14) :: (q18, fI cI 7) :: (q19, fI cI 7) :: (q20, fI cI 7) :: (q21, fI cI 7) :: []) := hD
  refine lv_aload_n hx hb dX8_init_178 rfl (lv_at hl 0 rfl) ?_
  refine lv_iconst (v := 1) hx hb dX8_init_179 (by decide) ?_
  refine va_put (D := D) (ci := 8) (v := .int 1) (ty := .int) (C := RX8) (T := TX8) (N := 37) hx hb hts wB_8 tyX8 tyX8_ok nmX8 hown hK hP hD hS 0 rfl rfl 8 (by decide) (hts _ wz_8_74) (fun _ h9 => h9) rfl (by decide +kernel) rfl rfl (Nat.le_of_ble_eq_true rfl) dX8_init_180 (fun H locs hP hD hS => ?_)
  have hP : va_P D vwCl ((h0, .inr (8, [.int 0, .ref q1, .ref q2, .ref q3, .ref q4, .ref q5, .int 0, .int 0, .int 1, .ref q6, .ref q7, .ref q8, .int 0, .int 0, .ref q9, .int 0, .ref q10, .int 0, .ref q11, .ref q12, .int 0, .ref q13, .int 0, .ref q14, .int 0, .ref q15, .int 0, .int 0, .ref q16, .ref q17, .ref q18, .int 0, .ref q19, .ref q20, .ref q21, .int 0, .int 0])) :: (q1, fI cI 7) :: (q2, fI cI 7) :: (q3, fI cI 7) :: (q4, .inl (cI, 3, .inl (upd (fun _ => 0) 0 5))) :: (q5, fI cI 40) :: (q6, fI cI 8) :: (q7, fI cI 8) :: (q8, fL cL 1280) :: (q9, fI cI 3) :: (q10, fI cI 67) :: (q11, fI cI 20) :: (q12, fI cI 8) :: (q13, fI cI 67) :: (q14, fI cI 8) :: (q15, fI cI 16) :: (q16, fI cI 7) :: (q17, fI cI 14) :: (q18, fI cI 7) :: (q19, fI cI 7) :: (q20, fI cI 7) :: (q21, fI cI 7) :: []) H := hP
  have hD : va_D A ((h0, .inr (8, [.int 0, .ref q1, .ref q2, .ref q3, .ref q4, .ref q5, .int 0, .int 0, .int 1, .ref q6, .ref q7, .ref q8, .int 0, .int 0, .ref q9, .int 0, .ref q10, .int 0, .ref q11, .ref q12, .int 0, .ref q13, .int 0, .ref q14, .int 0, .ref q15, .int 0, .int 0, .ref q16, .ref q17, .ref q18, .int 0, .ref q19, .ref q20, .ref q21, .int 0, .int 0])) :: (q1, fI cI 7) :: (q2, fI cI 7) :: (q3, fI cI 7) :: (q4, .inl (cI, 3, .inl (upd (fun _ => 0) 0 5))) :: (q5, fI cI 40) :: (q6, fI cI 8) :: (q7, fI cI 8) :: (q8, fL cL 1280) :: (q9, fI cI 3) :: (q10, fI cI 67) :: (q11, fI cI 20) :: (q12, fI cI 8) :: (q13, fI cI 67) :: (q14, fI cI 8) :: (q15, fI cI 16) :: (q16, fI cI 7) :: (q17, fI cI 14) :: (q18, fI cI 7) :: (q19, fI cI 7) :: (q20, fI cI 7) :: (q21, fI cI 7) :: []) := hD
  refine lv_aload_n hx hb dX8_init_183 rfl (lv_at hl 0 rfl) ?_
  refine lv_iconst (v := -1) hx hb dX8_init_184 (by decide) ?_
  refine va_put (D := D) (ci := 8) (v := .int (-1)) (ty := .int) (C := RX8) (T := TX8) (N := 37) hx hb hts wB_8 tyX8 tyX8_ok nmX8 hown hK hP hD hS 0 rfl rfl 15 (by decide) (hts _ wz_8_78) (fun _ h9 => h9) rfl (by decide +kernel) rfl rfl (Nat.le_of_ble_eq_true rfl) dX8_init_185 (fun H locs hP hD hS => ?_)
  have hP : va_P D vwCl ((h0, .inr (8, [.int 0, .ref q1, .ref q2, .ref q3, .ref q4, .ref q5, .int 0, .int 0, .int 1, .ref q6, .ref q7, .ref q8, .int 0, .int 0, .ref q9, .int (-1), .ref q10, .int 0, .ref q11, .ref q12, .int 0, .ref q13, .int 0, .ref q14, .int 0, .ref q15, .int 0, .int 0, .ref q16, .ref q17, .ref q18, .int 0, .ref q19, .ref q20, .ref q21, .int 0, .int 0])) :: (q1, fI cI 7) :: (q2, fI cI 7) :: (q3, fI cI 7) :: (q4, .inl (cI, 3, .inl (upd (fun _ => 0) 0 5))) :: (q5, fI cI 40) :: (q6, fI cI 8) :: (q7, fI cI 8) :: (q8, fL cL 1280) :: (q9, fI cI 3) :: (q10, fI cI 67) :: (q11, fI cI 20) :: (q12, fI cI 8) :: (q13, fI cI 67) :: (q14, fI cI 8) :: (q15, fI cI 16) :: (q16, fI cI 7) :: (q17, fI cI 14) :: (q18, fI cI 7) :: (q19, fI cI 7) :: (q20, fI cI 7) :: (q21, fI cI 7) :: []) H := hP
  have hD : va_D A ((h0, .inr (8, [.int 0, .ref q1, .ref q2, .ref q3, .ref q4, .ref q5, .int 0, .int 0, .int 1, .ref q6, .ref q7, .ref q8, .int 0, .int 0, .ref q9, .int (-1), .ref q10, .int 0, .ref q11, .ref q12, .int 0, .ref q13, .int 0, .ref q14, .int 0, .ref q15, .int 0, .int 0, .ref q16, .ref q17, .ref q18, .int 0, .ref q19, .ref q20, .ref q21, .int 0, .int 0])) :: (q1, fI cI 7) :: (q2, fI cI 7) :: (q3, fI cI 7) :: (q4, .inl (cI, 3, .inl (upd (fun _ => 0) 0 5))) :: (q5, fI cI 40) :: (q6, fI cI 8) :: (q7, fI cI 8) :: (q8, fL cL 1280) :: (q9, fI cI 3) :: (q10, fI cI 67) :: (q11, fI cI 20) :: (q12, fI cI 8) :: (q13, fI cI 67) :: (q14, fI cI 8) :: (q15, fI cI 16) :: (q16, fI cI 7) :: (q17, fI cI 14) :: (q18, fI cI 7) :: (q19, fI cI 7) :: (q20, fI cI 7) :: (q21, fI cI 7) :: []) := hD
  refine lv_iconst (v := 0) hx hb dX8_init_188 (by decide) ?_
  refine lv_istore_n (lv' := [(1, .int 0), (0, .ref h0)]) hx hb dX8_init_189 rfl hl (by decide) rfl (fun ls hl => ?_)
  refine m8_out (cL := cL) (fs := [.int 0, .ref q1, .ref q2, .ref q3, .ref q4, .ref q5, .int 0, .int 0, .int 1, .ref q6, .ref q7, .ref q8, .int 0, .int 0, .ref q9, .int (-1), .ref q10, .int 0, .ref q11, .ref q12, .int 0, .ref q13, .int 0, .ref q14, .int 0, .ref q15, .int 0, .int 0, .ref q16, .ref q17, .ref q18, .int 0, .ref q19, .ref q20, .ref q21, .int 0, .int 0]) (q5 := q5) (wsF := fun f => (h0, .inr (8, [.int 0, .ref q1, .ref q2, .ref q3, .ref q4, .ref q5, .int 0, .int 0, .int 1, .ref q6, .ref q7, .ref q8, .int 0, .int 0, .ref q9, .int (-1), .ref q10, .int 0, .ref q11, .ref q12, .int 0, .ref q13, .int 0, .ref q14, .int 0, .ref q15, .int 0, .int 0, .ref q16, .ref q17, .ref q18, .int 0, .ref q19, .ref q20, .ref q21, .int 0, .int 0])) :: (q1, fI cI 7) :: (q2, fI cI 7) :: (q3, fI cI 7) :: (q4, .inl (cI, 3, .inl (upd (fun _ => 0) 0 5))) :: (q5, .inl (cI, 40, .inl f)) :: (q6, fI cI 8) :: (q7, fI cI 8) :: (q8, fL cL 1280) :: (q9, fI cI 3) :: (q10, fI cI 67) :: (q11, fI cI 20) :: (q12, fI cI 8) :: (q13, fI cI 67) :: (q14, fI cI 8) :: (q15, fI cI 16) :: (q16, fI cI 7) :: (q17, fI cI 14) :: (q18, fI cI 7) :: (q19, fI cI 7) :: (q20, fI cI 7) :: (q21, fI cI 7) :: []) hx hb hts hown hK (fun _ => rfl) rfl (fun _ => rfl) (fun _ _ => rfl) (fun H locs ls hl hP hD hS => ?_) 8 0 (fun _ => 0) H _ ls rfl (fun j hj => absurd hj (Nat.not_lt_zero j)) (lv_sub hl [0, 1] rfl) hP hD hS
  have hP : va_P D vwCl ((h0, .inr (8, [.int 0, .ref q1, .ref q2, .ref q3, .ref q4, .ref q5, .int 0, .int 0, .int 1, .ref q6, .ref q7, .ref q8, .int 0, .int 0, .ref q9, .int (-1), .ref q10, .int 0, .ref q11, .ref q12, .int 0, .ref q13, .int 0, .ref q14, .int 0, .ref q15, .int 0, .int 0, .ref q16, .ref q17, .ref q18, .int 0, .ref q19, .ref q20, .ref q21, .int 0, .int 0])) :: (q1, fI cI 7) :: (q2, fI cI 7) :: (q3, fI cI 7) :: (q4, .inl (cI, 3, .inl (upd (fun _ => 0) 0 5))) :: (q5, .inl (cI, 40, .inl tabF)) :: (q6, fI cI 8) :: (q7, fI cI 8) :: (q8, fL cL 1280) :: (q9, fI cI 3) :: (q10, fI cI 67) :: (q11, fI cI 20) :: (q12, fI cI 8) :: (q13, fI cI 67) :: (q14, fI cI 8) :: (q15, fI cI 16) :: (q16, fI cI 7) :: (q17, fI cI 14) :: (q18, fI cI 7) :: (q19, fI cI 7) :: (q20, fI cI 7) :: (q21, fI cI 7) :: []) H := hP
  have hD : va_D A ((h0, .inr (8, [.int 0, .ref q1, .ref q2, .ref q3, .ref q4, .ref q5, .int 0, .int 0, .int 1, .ref q6, .ref q7, .ref q8, .int 0, .int 0, .ref q9, .int (-1), .ref q10, .int 0, .ref q11, .ref q12, .int 0, .ref q13, .int 0, .ref q14, .int 0, .ref q15, .int 0, .int 0, .ref q16, .ref q17, .ref q18, .int 0, .ref q19, .ref q20, .ref q21, .int 0, .int 0])) :: (q1, fI cI 7) :: (q2, fI cI 7) :: (q3, fI cI 7) :: (q4, .inl (cI, 3, .inl (upd (fun _ => 0) 0 5))) :: (q5, .inl (cI, 40, .inl tabF)) :: (q6, fI cI 8) :: (q7, fI cI 8) :: (q8, fL cL 1280) :: (q9, fI cI 3) :: (q10, fI cI 67) :: (q11, fI cI 20) :: (q12, fI cI 8) :: (q13, fI cI 67) :: (q14, fI cI 8) :: (q15, fI cI 16) :: (q16, fI cI 7) :: (q17, fI cI 14) :: (q18, fI cI 7) :: (q19, fI cI 7) :: (q20, fI cI 7) :: (q21, fI cI 7) :: []) := hD
  refine lv_iconst (v := 0) hx hb dX8_init_233 (by decide) ?_
  refine lv_istore_n (lv' := [(1, .int 0), (0, .ref h0)]) hx hb dX8_init_234 rfl hl (by decide) rfl (fun ls hl => ?_)
  refine m8_hold (cL := cL) (fs := [.int 0, .ref q1, .ref q2, .ref q3, .ref q4, .ref q5, .int 0, .int 0, .int 1, .ref q6, .ref q7, .ref q8, .int 0, .int 0, .ref q9, .int (-1), .ref q10, .int 0, .ref q11, .ref q12, .int 0, .ref q13, .int 0, .ref q14, .int 0, .ref q15, .int 0, .int 0, .ref q16, .ref q17, .ref q18, .int 0, .ref q19, .ref q20, .ref q21, .int 0, .int 0]) (q6 := q6) (wsF := fun f => (h0, .inr (8, [.int 0, .ref q1, .ref q2, .ref q3, .ref q4, .ref q5, .int 0, .int 0, .int 1, .ref q6, .ref q7, .ref q8, .int 0, .int 0, .ref q9, .int (-1), .ref q10, .int 0, .ref q11, .ref q12, .int 0, .ref q13, .int 0, .ref q14, .int 0, .ref q15, .int 0, .int 0, .ref q16, .ref q17, .ref q18, .int 0, .ref q19, .ref q20, .ref q21, .int 0, .int 0])) :: (q1, fI cI 7) :: (q2, fI cI 7) :: (q3, fI cI 7) :: (q4, .inl (cI, 3, .inl (upd (fun _ => 0) 0 5))) :: (q5, .inl (cI, 40, .inl tabF)) :: (q6, .inl (cI, 8, .inl f)) :: (q7, fI cI 8) :: (q8, fL cL 1280) :: (q9, fI cI 3) :: (q10, fI cI 67) :: (q11, fI cI 20) :: (q12, fI cI 8) :: (q13, fI cI 67) :: (q14, fI cI 8) :: (q15, fI cI 16) :: (q16, fI cI 7) :: (q17, fI cI 14) :: (q18, fI cI 7) :: (q19, fI cI 7) :: (q20, fI cI 7) :: (q21, fI cI 7) :: []) hx hb hts hown hK (fun _ => rfl) rfl (fun _ => rfl) (fun _ _ => rfl) (fun H locs ls hP hD hS => ?_) 8 0 (fun _ => 0) H _ ls rfl (fun j hj => absurd hj (Nat.not_lt_zero j)) hl hP hD hS
  have hP : va_P D vwCl ((h0, .inr (8, [.int 0, .ref q1, .ref q2, .ref q3, .ref q4, .ref q5, .int 0, .int 0, .int 1, .ref q6, .ref q7, .ref q8, .int 0, .int 0, .ref q9, .int (-1), .ref q10, .int 0, .ref q11, .ref q12, .int 0, .ref q13, .int 0, .ref q14, .int 0, .ref q15, .int 0, .int 0, .ref q16, .ref q17, .ref q18, .int 0, .ref q19, .ref q20, .ref q21, .int 0, .int 0])) :: (q1, fI cI 7) :: (q2, fI cI 7) :: (q3, fI cI 7) :: (q4, .inl (cI, 3, .inl (upd (fun _ => 0) 0 5))) :: (q5, .inl (cI, 40, .inl tabF)) :: (q6, .inl (cI, 8, .inl (fun _ => -1))) :: (q7, fI cI 8) :: (q8, fL cL 1280) :: (q9, fI cI 3) :: (q10, fI cI 67) :: (q11, fI cI 20) :: (q12, fI cI 8) :: (q13, fI cI 67) :: (q14, fI cI 8) :: (q15, fI cI 16) :: (q16, fI cI 7) :: (q17, fI cI 14) :: (q18, fI cI 7) :: (q19, fI cI 7) :: (q20, fI cI 7) :: (q21, fI cI 7) :: []) H := hP
  have hD : va_D A ((h0, .inr (8, [.int 0, .ref q1, .ref q2, .ref q3, .ref q4, .ref q5, .int 0, .int 0, .int 1, .ref q6, .ref q7, .ref q8, .int 0, .int 0, .ref q9, .int (-1), .ref q10, .int 0, .ref q11, .ref q12, .int 0, .ref q13, .int 0, .ref q14, .int 0, .ref q15, .int 0, .int 0, .ref q16, .ref q17, .ref q18, .int 0, .ref q19, .ref q20, .ref q21, .int 0, .int 0])) :: (q1, fI cI 7) :: (q2, fI cI 7) :: (q3, fI cI 7) :: (q4, .inl (cI, 3, .inl (upd (fun _ => 0) 0 5))) :: (q5, .inl (cI, 40, .inl tabF)) :: (q6, .inl (cI, 8, .inl (fun _ => -1))) :: (q7, fI cI 8) :: (q8, fL cL 1280) :: (q9, fI cI 3) :: (q10, fI cI 67) :: (q11, fI cI 20) :: (q12, fI cI 8) :: (q13, fI cI 67) :: (q14, fI cI 8) :: (q15, fI cI 16) :: (q16, fI cI 7) :: (q17, fI cI 14) :: (q18, fI cI 7) :: (q19, fI cI 7) :: (q20, fI cI 7) :: (q21, fI cI 7) :: []) := hD
  have hP9 : va_P D vwCl (fk_ws wM (adL (h0 :: q1 :: q2 :: q3 :: q4 :: q5 :: q6 :: q7 :: q8 :: q9 :: q10 :: q11 :: q12 :: q13 :: q14 :: q15 :: q16 :: q17 :: q18 :: q19 :: q20 :: q21 :: []), D, (cI, cL, cS), r) stM) H := by rw [wsM_eq]; exact hP
  have hD9 : va_D A (fk_ws wM (adL (h0 :: q1 :: q2 :: q3 :: q4 :: q5 :: q6 :: q7 :: q8 :: q9 :: q10 :: q11 :: q12 :: q13 :: q14 :: q15 :: q16 :: q17 :: q18 :: q19 :: q20 :: q21 :: []), D, (cI, cL, cS), r) stM) := by rw [wsM_eq]; exact hD
  exact W.vret hx hb hr (fun t ht hW => ⟨⟨adL (h0 :: q1 :: q2 :: q3 :: q4 :: q5 :: q6 :: q7 :: q8 :: q9 :: q10 :: q11 :: q12 :: q13 :: q14 :: q15 :: q16 :: q17 :: q18 :: q19 :: q20 :: q21 :: []), rfl, rfl, by rw [ht]; exact hP9, va_K.moved hW.alike hK, hD9⟩, hS.F ht⟩) hS.2.2 dX8_init_254
