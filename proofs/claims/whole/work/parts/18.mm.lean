theorem dX8_tells_0 : decode cX8_tells 0 = .ok (.aload_n 0, 1) := by decide +kernel
theorem dX8_tells_1 : decode cX8_tells 1 = .ok (.getfield 112, 3) := by decide +kernel
theorem dX8_tells_4 : decode cX8_tells 4 = .ok (.aload_n 0, 1) := by decide +kernel
theorem dX8_tells_5 : decode cX8_tells 5 = .ok (.getfield 19, 3) := by decide +kernel
theorem dX8_tells_8 : decode cX8_tells 8 = .ok (.iconst 0, 1) := by decide +kernel
theorem dX8_tells_9 : decode cX8_tells 9 = .ok (.iaload, 1) := by decide +kernel
theorem dX8_tells_10 : decode cX8_tells 10 = .ok (.invokestatic 198, 3) := by decide +kernel
theorem dX8_tells_13 : decode cX8_tells 13 = .ok (.istore_n 2, 1) := by decide +kernel
theorem dX8_tells_14 : decode cX8_tells 14 = .ok (.aload_n 0, 1) := by decide +kernel
theorem dX8_tells_15 : decode cX8_tells 15 = .ok (.iconst 0, 1) := by decide +kernel
theorem dX8_tells_16 : decode cX8_tells 16 = .ok (.putfield 119, 3) := by decide +kernel
theorem dX8_tells_19 : decode cX8_tells 19 = .ok (.iconst 0, 1) := by decide +kernel
theorem dX8_tells_20 : decode cX8_tells 20 = .ok (.istore_n 3, 1) := by decide +kernel
theorem dX8_tells_21 : decode cX8_tells 21 = .ok (.iload_n 3, 1) := by decide +kernel
theorem dX8_tells_22 : decode cX8_tells 22 = .ok (.iload_n 2, 1) := by decide +kernel
theorem dX8_tells_23 : decode cX8_tells 23 = .ok (.if_icmp .ge 243, 3) := by decide +kernel
theorem dX8_tells_26 : decode cX8_tells 26 = .ok (.aload_n 0, 1) := by decide +kernel
theorem dX8_tells_27 : decode cX8_tells 27 = .ok (.getfield 7, 3) := by decide +kernel
theorem dX8_tells_30 : decode cX8_tells 30 = .ok (.iload_n 1, 1) := by decide +kernel
theorem dX8_tells_31 : decode cX8_tells 31 = .ok (.iaload, 1) := by decide +kernel
theorem dX8_tells_32 : decode cX8_tells 32 = .ok (.tableswitch 206 1 6 #[40, 122, 65, 206, 151, 90], 40) := by decide +kernel
theorem dX8_tells_72 : decode cX8_tells 72 = .ok (.aload_n 0, 1) := by decide +kernel
theorem dX8_tells_73 : decode cX8_tells 73 = .ok (.getfield 53, 3) := by decide +kernel
theorem dX8_tells_76 : decode cX8_tells 76 = .ok (.aload_n 0, 1) := by decide +kernel
theorem dX8_tells_77 : decode cX8_tells 77 = .ok (.dup, 1) := by decide +kernel
theorem dX8_tells_78 : decode cX8_tells 78 = .ok (.getfield 119, 3) := by decide +kernel
theorem dX8_tells_81 : decode cX8_tells 81 = .ok (.dup_x1, 1) := by decide +kernel
theorem dX8_tells_82 : decode cX8_tells 82 = .ok (.iconst 1, 1) := by decide +kernel
theorem dX8_tells_83 : decode cX8_tells 83 = .ok (.iadd, 1) := by decide +kernel
theorem dX8_tells_84 : decode cX8_tells 84 = .ok (.putfield 119, 3) := by decide +kernel
theorem dX8_tells_87 : decode cX8_tells 87 = .ok (.aload_n 0, 1) := by decide +kernel
theorem dX8_tells_88 : decode cX8_tells 88 = .ok (.iload_n 1, 1) := by decide +kernel
theorem dX8_tells_89 : decode cX8_tells 89 = .ok (.iload_n 3, 1) := by decide +kernel
theorem dX8_tells_90 : decode cX8_tells 90 = .ok (.invokevirtual 195, 3) := by decide +kernel
theorem dX8_tells_93 : decode cX8_tells 93 = .ok (.iastore, 1) := by decide +kernel
theorem dX8_tells_94 : decode cX8_tells 94 = .ok (.goto 166, 3) := by decide +kernel
theorem dX8_tells_97 : decode cX8_tells 97 = .ok (.aload_n 0, 1) := by decide +kernel
theorem dX8_tells_98 : decode cX8_tells 98 = .ok (.getfield 53, 3) := by decide +kernel
theorem dX8_tells_101 : decode cX8_tells 101 = .ok (.aload_n 0, 1) := by decide +kernel
theorem dX8_tells_102 : decode cX8_tells 102 = .ok (.dup, 1) := by decide +kernel
theorem dX8_tells_103 : decode cX8_tells 103 = .ok (.getfield 119, 3) := by decide +kernel
theorem dX8_tells_106 : decode cX8_tells 106 = .ok (.dup_x1, 1) := by decide +kernel
theorem dX8_tells_107 : decode cX8_tells 107 = .ok (.iconst 1, 1) := by decide +kernel
theorem dX8_tells_108 : decode cX8_tells 108 = .ok (.iadd, 1) := by decide +kernel
theorem dX8_tells_109 : decode cX8_tells 109 = .ok (.putfield 119, 3) := by decide +kernel
theorem dX8_tells_112 : decode cX8_tells 112 = .ok (.aload_n 0, 1) := by decide +kernel
theorem dX8_tells_113 : decode cX8_tells 113 = .ok (.iload_n 1, 1) := by decide +kernel
theorem dX8_tells_114 : decode cX8_tells 114 = .ok (.iload_n 3, 1) := by decide +kernel
theorem dX8_tells_115 : decode cX8_tells 115 = .ok (.invokevirtual 203, 3) := by decide +kernel
theorem dX8_tells_118 : decode cX8_tells 118 = .ok (.iastore, 1) := by decide +kernel
theorem dX8_tells_119 : decode cX8_tells 119 = .ok (.goto 141, 3) := by decide +kernel
theorem dX8_tells_122 : decode cX8_tells 122 = .ok (.iload_n 3, 1) := by decide +kernel
theorem dX8_tells_123 : decode cX8_tells 123 = .ok (.iconst 2, 1) := by decide +kernel
theorem dX8_tells_124 : decode cX8_tells 124 = .ok (.irem, 1) := by decide +kernel
theorem dX8_tells_125 : decode cX8_tells 125 = .ok (.iconst 1, 1) := by decide +kernel
theorem dX8_tells_126 : decode cX8_tells 126 = .ok (.if_icmp .ne 134, 3) := by decide +kernel
theorem dX8_tells_129 : decode cX8_tells 129 = .ok (.aload_n 0, 1) := by decide +kernel
theorem dX8_tells_130 : decode cX8_tells 130 = .ok (.getfield 53, 3) := by decide +kernel
theorem dX8_tells_133 : decode cX8_tells 133 = .ok (.aload_n 0, 1) := by decide +kernel
theorem dX8_tells_134 : decode cX8_tells 134 = .ok (.dup, 1) := by decide +kernel
theorem dX8_tells_135 : decode cX8_tells 135 = .ok (.getfield 119, 3) := by decide +kernel
theorem dX8_tells_138 : decode cX8_tells 138 = .ok (.dup_x1, 1) := by decide +kernel
theorem dX8_tells_139 : decode cX8_tells 139 = .ok (.iconst 1, 1) := by decide +kernel
theorem dX8_tells_140 : decode cX8_tells 140 = .ok (.iadd, 1) := by decide +kernel
theorem dX8_tells_141 : decode cX8_tells 141 = .ok (.putfield 119, 3) := by decide +kernel
theorem dX8_tells_144 : decode cX8_tells 144 = .ok (.aload_n 0, 1) := by decide +kernel
theorem dX8_tells_145 : decode cX8_tells 145 = .ok (.iload_n 1, 1) := by decide +kernel
theorem dX8_tells_146 : decode cX8_tells 146 = .ok (.iload_n 3, 1) := by decide +kernel
theorem dX8_tells_147 : decode cX8_tells 147 = .ok (.invokevirtual 203, 3) := by decide +kernel
theorem dX8_tells_150 : decode cX8_tells 150 = .ok (.iastore, 1) := by decide +kernel
theorem dX8_tells_151 : decode cX8_tells 151 = .ok (.goto 109, 3) := by decide +kernel
theorem dX8_tells_154 : decode cX8_tells 154 = .ok (.aload_n 0, 1) := by decide +kernel
theorem dX8_tells_155 : decode cX8_tells 155 = .ok (.getfield 53, 3) := by decide +kernel
theorem dX8_tells_158 : decode cX8_tells 158 = .ok (.aload_n 0, 1) := by decide +kernel
theorem dX8_tells_159 : decode cX8_tells 159 = .ok (.dup, 1) := by decide +kernel
theorem dX8_tells_160 : decode cX8_tells 160 = .ok (.getfield 119, 3) := by decide +kernel
theorem dX8_tells_163 : decode cX8_tells 163 = .ok (.dup_x1, 1) := by decide +kernel
theorem dX8_tells_164 : decode cX8_tells 164 = .ok (.iconst 1, 1) := by decide +kernel
theorem dX8_tells_165 : decode cX8_tells 165 = .ok (.iadd, 1) := by decide +kernel
theorem dX8_tells_166 : decode cX8_tells 166 = .ok (.putfield 119, 3) := by decide +kernel
theorem dX8_tells_169 : decode cX8_tells 169 = .ok (.aload_n 0, 1) := by decide +kernel
theorem dX8_tells_170 : decode cX8_tells 170 = .ok (.iload_n 1, 1) := by decide +kernel
theorem dX8_tells_171 : decode cX8_tells 171 = .ok (.iload_n 2, 1) := by decide +kernel
theorem dX8_tells_172 : decode cX8_tells 172 = .ok (.iconst 1, 1) := by decide +kernel
theorem dX8_tells_173 : decode cX8_tells 173 = .ok (.isub, 1) := by decide +kernel
theorem dX8_tells_174 : decode cX8_tells 174 = .ok (.iload_n 3, 1) := by decide +kernel
theorem dX8_tells_175 : decode cX8_tells 175 = .ok (.isub, 1) := by decide +kernel
theorem dX8_tells_176 : decode cX8_tells 176 = .ok (.invokevirtual 192, 3) := by decide +kernel
theorem dX8_tells_179 : decode cX8_tells 179 = .ok (.iastore, 1) := by decide +kernel
theorem dX8_tells_180 : decode cX8_tells 180 = .ok (.goto 80, 3) := by decide +kernel
theorem dX8_tells_183 : decode cX8_tells 183 = .ok (.aload_n 0, 1) := by decide +kernel
theorem dX8_tells_184 : decode cX8_tells 184 = .ok (.getfield 53, 3) := by decide +kernel
theorem dX8_tells_187 : decode cX8_tells 187 = .ok (.aload_n 0, 1) := by decide +kernel
theorem dX8_tells_188 : decode cX8_tells 188 = .ok (.dup, 1) := by decide +kernel
theorem dX8_tells_189 : decode cX8_tells 189 = .ok (.getfield 119, 3) := by decide +kernel
theorem dX8_tells_192 : decode cX8_tells 192 = .ok (.dup_x1, 1) := by decide +kernel
theorem dX8_tells_193 : decode cX8_tells 193 = .ok (.iconst 1, 1) := by decide +kernel
theorem dX8_tells_194 : decode cX8_tells 194 = .ok (.iadd, 1) := by decide +kernel
theorem dX8_tells_195 : decode cX8_tells 195 = .ok (.putfield 119, 3) := by decide +kernel
theorem dX8_tells_198 : decode cX8_tells 198 = .ok (.aload_n 0, 1) := by decide +kernel
theorem dX8_tells_199 : decode cX8_tells 199 = .ok (.iload_n 1, 1) := by decide +kernel
theorem dX8_tells_200 : decode cX8_tells 200 = .ok (.iload_n 2, 1) := by decide +kernel
theorem dX8_tells_201 : decode cX8_tells 201 = .ok (.iconst 1, 1) := by decide +kernel
theorem dX8_tells_202 : decode cX8_tells 202 = .ok (.isub, 1) := by decide +kernel
theorem dX8_tells_203 : decode cX8_tells 203 = .ok (.iload_n 3, 1) := by decide +kernel
theorem dX8_tells_204 : decode cX8_tells 204 = .ok (.isub, 1) := by decide +kernel
theorem dX8_tells_205 : decode cX8_tells 205 = .ok (.invokevirtual 192, 3) := by decide +kernel
theorem dX8_tells_208 : decode cX8_tells 208 = .ok (.iastore, 1) := by decide +kernel
theorem dX8_tells_209 : decode cX8_tells 209 = .ok (.aload_n 0, 1) := by decide +kernel
theorem dX8_tells_210 : decode cX8_tells 210 = .ok (.getfield 53, 3) := by decide +kernel
theorem dX8_tells_213 : decode cX8_tells 213 = .ok (.aload_n 0, 1) := by decide +kernel
theorem dX8_tells_214 : decode cX8_tells 214 = .ok (.dup, 1) := by decide +kernel
theorem dX8_tells_215 : decode cX8_tells 215 = .ok (.getfield 119, 3) := by decide +kernel
theorem dX8_tells_218 : decode cX8_tells 218 = .ok (.dup_x1, 1) := by decide +kernel
theorem dX8_tells_219 : decode cX8_tells 219 = .ok (.iconst 1, 1) := by decide +kernel
theorem dX8_tells_220 : decode cX8_tells 220 = .ok (.iadd, 1) := by decide +kernel
theorem dX8_tells_221 : decode cX8_tells 221 = .ok (.putfield 119, 3) := by decide +kernel
theorem dX8_tells_224 : decode cX8_tells 224 = .ok (.aload_n 0, 1) := by decide +kernel
theorem dX8_tells_225 : decode cX8_tells 225 = .ok (.iload_n 1, 1) := by decide +kernel
theorem dX8_tells_226 : decode cX8_tells 226 = .ok (.iload_n 2, 1) := by decide +kernel
theorem dX8_tells_227 : decode cX8_tells 227 = .ok (.iconst 1, 1) := by decide +kernel
theorem dX8_tells_228 : decode cX8_tells 228 = .ok (.isub, 1) := by decide +kernel
theorem dX8_tells_229 : decode cX8_tells 229 = .ok (.iload_n 3, 1) := by decide +kernel
theorem dX8_tells_230 : decode cX8_tells 230 = .ok (.isub, 1) := by decide +kernel
theorem dX8_tells_231 : decode cX8_tells 231 = .ok (.invokevirtual 192, 3) := by decide +kernel
theorem dX8_tells_234 : decode cX8_tells 234 = .ok (.iastore, 1) := by decide +kernel
theorem dX8_tells_235 : decode cX8_tells 235 = .ok (.goto 25, 3) := by decide +kernel
theorem dX8_tells_238 : decode cX8_tells 238 = .ok (.aload_n 0, 1) := by decide +kernel
theorem dX8_tells_239 : decode cX8_tells 239 = .ok (.getfield 53, 3) := by decide +kernel
theorem dX8_tells_242 : decode cX8_tells 242 = .ok (.aload_n 0, 1) := by decide +kernel
theorem dX8_tells_243 : decode cX8_tells 243 = .ok (.dup, 1) := by decide +kernel
theorem dX8_tells_244 : decode cX8_tells 244 = .ok (.getfield 119, 3) := by decide +kernel
theorem dX8_tells_247 : decode cX8_tells 247 = .ok (.dup_x1, 1) := by decide +kernel
theorem dX8_tells_248 : decode cX8_tells 248 = .ok (.iconst 1, 1) := by decide +kernel
theorem dX8_tells_249 : decode cX8_tells 249 = .ok (.iadd, 1) := by decide +kernel
theorem dX8_tells_250 : decode cX8_tells 250 = .ok (.putfield 119, 3) := by decide +kernel
theorem dX8_tells_253 : decode cX8_tells 253 = .ok (.aload_n 0, 1) := by decide +kernel
theorem dX8_tells_254 : decode cX8_tells 254 = .ok (.iload_n 1, 1) := by decide +kernel
theorem dX8_tells_255 : decode cX8_tells 255 = .ok (.iload_n 3, 1) := by decide +kernel
theorem dX8_tells_256 : decode cX8_tells 256 = .ok (.invokevirtual 192, 3) := by decide +kernel
theorem dX8_tells_259 : decode cX8_tells 259 = .ok (.iastore, 1) := by decide +kernel
theorem dX8_tells_260 : decode cX8_tells 260 = .ok (.iinc 3 1, 3) := by decide +kernel
theorem dX8_tells_263 : decode cX8_tells 263 = .ok (.goto (-242), 3) := by decide +kernel
theorem dX8_tells_266 : decode cX8_tells 266 = .ok (.aload_n 0, 1) := by decide +kernel
theorem dX8_tells_267 : decode cX8_tells 267 = .ok (.getfield 7, 3) := by decide +kernel
theorem dX8_tells_270 : decode cX8_tells 270 = .ok (.iload_n 1, 1) := by decide +kernel
theorem dX8_tells_271 : decode cX8_tells 271 = .ok (.iaload, 1) := by decide +kernel
theorem dX8_tells_272 : decode cX8_tells 272 = .ok (.iconst 4, 1) := by decide +kernel
theorem dX8_tells_273 : decode cX8_tells 273 = .ok (.if_icmp .ne 7, 3) := by decide +kernel
theorem dX8_tells_276 : decode cX8_tells 276 = .ok (.aload_n 0, 1) := by decide +kernel
theorem dX8_tells_277 : decode cX8_tells 277 = .ok (.invokevirtual 206, 3) := by decide +kernel
theorem dX8_tells_280 : decode cX8_tells 280 = .ok (.return_, 1) := by decide +kernel
def B8_tells_260 (k21 : Int32 → Int32 → Int32 → fkS → Option (Unit × fkS)) (v1 : Int32) (v2 : Int32) (v3 : Int32) (st : fkS) : Option (Unit × fkS) :=
 k21 v1 v2 (v3 + (1 : Int32)) st
set_option maxHeartbeats 1000000 in
set_option maxRecDepth 20000 in
theorem T8_tells_260 {g : fkG} {k : fkK} (hk : fk_ok wM g k RX8 cX8_tells 4 none 3 100) (k21 : Int32 → Int32 → Int32 → fkS → Option (Unit × fkS)) (H21 : ∀ (v1 : Int32) (v2 : Int32) (v3 : Int32) (st : fkS), fk_J wM g fk_eU k 21 [(0, fk_r g 0), (1, .int v1), (2, .int v2), (3, .int v3)] [] st (k21 v1 v2 v3 st)) : ∀ (v1 : Int32) (v2 : Int32) (v3 : Int32) (st : fkS), fk_J wM g fk_eU k 260 [(0, fk_r g 0), (1, .int v1), (2, .int v2), (3, .int v3)] [] st (B8_tells_260 k21 v1 v2 v3 st) := by
  intro v1 v2 v3 st
  unfold B8_tells_260
  refine j_iinc (dd := (1 : Int32)) (lv' := ((3, .int (v3 + (1 : Int32))) :: [(0, fk_r g 0), (1, .int v1), (2, .int v2)])) (pc := 260) hk 3 rfl (by decide) (by decide) rfl dX8_tells_260 ?_
  refine j_sub hk (lv' := [(0, fk_r g 0), (1, .int v1), (2, .int v2), (3, .int (v3 + (1 : Int32)))]) [1, 2, 3, 0] rfl ?_
  refine j_goto (tgt := 21) (pc := 263) hk (by decide) dX8_tells_263 ?_
  exact j_sub hk [0, 1, 2, 3] rfl (H21 v1 v2 (v3 + (1 : Int32)) st)
def B8_tells_21 (k21 : Int32 → Int32 → Int32 → fkS → Option (Unit × fkS)) (v1 : Int32) (v2 : Int32) (v3 : Int32) (st : fkS) : Option (Unit × fkS) :=
 if v2 ≤ v3 then
 (fk_chk (fk_in v1 7) <| fk_let (gA st 1 v1.toNatClampNeg) <| fun x4 =>
 if x4 = (4 : Int32) then
 (fk_bind (F8_sorts st) <| fun _ st5 =>
 some ((), st5))
 else
 (some ((), st)))
 else
 (fk_chk (fk_in v1 7) <| fk_let (gA st 1 v1.toNatClampNeg) <| fun x6 =>
 if x6 = (1 : Int32) then
 (fk_let (gI st 24 0) <| fun x8 =>
 fk_let (sI st 24 0 (x8 + (1 : Int32))) <| fun st9 =>
 fk_bind (F8_chipped v1 v3 st9) <| fun x10 st11 =>
 fk_chk (fk_in x8 16) <| fk_let (sA st11 15 x8.toNatClampNeg x10) <| fun st12 =>
 B8_tells_260 k21 v1 v2 v3 st12)
 else
 (if x6 = (2 : Int32) then
 (fk_let (gI st 24 0) <| fun x14 =>
 fk_let (sI st 24 0 (x14 + (1 : Int32))) <| fun st15 =>
 fk_bind (F8_plain v1 ((v2 - (1 : Int32)) - v3) st15) <| fun x16 st17 =>
 fk_chk (fk_in x14 16) <| fk_let (sA st17 15 x14.toNatClampNeg x16) <| fun st18 =>
 B8_tells_260 k21 v1 v2 v3 st18)
 else
 (if x6 = (3 : Int32) then
 (fk_let (gI st 24 0) <| fun x20 =>
 fk_let (sI st 24 0 (x20 + (1 : Int32))) <| fun st21 =>
 fk_bind (F8_widowed v1 v3 st21) <| fun x22 st23 =>
 fk_chk (fk_in x20 16) <| fk_let (sA st23 15 x20.toNatClampNeg x22) <| fun st24 =>
 B8_tells_260 k21 v1 v2 v3 st24)
 else
 (if x6 = (4 : Int32) then
 (fk_let (gI st 24 0) <| fun x26 =>
 fk_let (sI st 24 0 (x26 + (1 : Int32))) <| fun st27 =>
 fk_bind (F8_plain v1 v3 st27) <| fun x28 st29 =>
 fk_chk (fk_in x26 16) <| fk_let (sA st29 15 x26.toNatClampNeg x28) <| fun st30 =>
 B8_tells_260 k21 v1 v2 v3 st30)
 else
 (if x6 = (5 : Int32) then
 (fk_let (gI st 24 0) <| fun x32 =>
 fk_let (sI st 24 0 (x32 + (1 : Int32))) <| fun st33 =>
 fk_bind (F8_plain v1 ((v2 - (1 : Int32)) - v3) st33) <| fun x34 st35 =>
 fk_chk (fk_in x32 16) <| fk_let (sA st35 15 x32.toNatClampNeg x34) <| fun st36 =>
 fk_let (gI st36 24 0) <| fun x37 =>
 fk_let (sI st36 24 0 (x37 + (1 : Int32))) <| fun st38 =>
 fk_bind (F8_plain v1 ((v2 - (1 : Int32)) - v3) st38) <| fun x39 st40 =>
 fk_chk (fk_in x37 16) <| fk_let (sA st40 15 x37.toNatClampNeg x39) <| fun st41 =>
 B8_tells_260 k21 v1 v2 v3 st41)
 else
 (if x6 = (6 : Int32) then
 (if (fk_rem v3 (2 : Int32)) = (1 : Int32) then
 (fk_let (gI st 24 0) <| fun x43 =>
 fk_let (sI st 24 0 (x43 + (1 : Int32))) <| fun st44 =>
 fk_bind (F8_widowed v1 v3 st44) <| fun x45 st46 =>
 fk_chk (fk_in x43 16) <| fk_let (sA st46 15 x43.toNatClampNeg x45) <| fun st47 =>
 B8_tells_260 k21 v1 v2 v3 st47)
 else
 (B8_tells_260 k21 v1 v2 v3 st))
 else
 (fk_let (gI st 24 0) <| fun x48 =>
 fk_let (sI st 24 0 (x48 + (1 : Int32))) <| fun st49 =>
 fk_bind (F8_plain v1 v3 st49) <| fun x50 st51 =>
 fk_chk (fk_in x48 16) <| fk_let (sA st51 15 x48.toNatClampNeg x50) <| fun st52 =>
 B8_tells_260 k21 v1 v2 v3 st52)))))))
set_option maxHeartbeats 1000000 in
set_option maxRecDepth 20000 in
theorem T8_tells_21 {g : fkG} {k : fkK} (hk : fk_ok wM g k RX8 cX8_tells 4 none 3 100) (k21 : Int32 → Int32 → Int32 → fkS → Option (Unit × fkS)) (H21 : ∀ (v1 : Int32) (v2 : Int32) (v3 : Int32) (st : fkS), fk_J wM g fk_eU k 21 [(0, fk_r g 0), (1, .int v1), (2, .int v2), (3, .int v3)] [] st (k21 v1 v2 v3 st)) : ∀ (v1 : Int32) (v2 : Int32) (v3 : Int32) (st : fkS), fk_J wM g fk_eU k 21 [(0, fk_r g 0), (1, .int v1), (2, .int v2), (3, .int v3)] [] st (B8_tells_21 k21 v1 v2 v3 st) := by
  intro v1 v2 v3 st
  unfold B8_tells_21
  refine j_iload_n (pc := 21) hk 3 rfl dX8_tells_21 ?_
  refine j_iload_n (pc := 22) hk 2 rfl dX8_tells_22 ?_
  refine j_icmp_ge (tgt := 266) (pc := 23) hk (by decide) dX8_tells_23 (fun _ => ?_) (fun _ => ?_)
  · refine j_aload_n (pc := 266) hk 0 rfl ⟨_, rfl⟩ dX8_tells_266 ?_
    refine f_8_7 (pc := 267) hk (rfl) dX8_tells_267 ?_
    refine j_iload_n (pc := 270) hk 1 rfl dX8_tells_270 ?_
    refine a_iload (pc := 271) hk (isI_8_1) dX8_tells_271 (fun x4 => ?_)
    refine j_iconst (pc := 272) hk dX8_tells_272 (v := 4) (by decide) ?_
    refine j_icmp_ne (tgt := 280) (pc := 273) hk (by decide) dX8_tells_273 (fun _ => ?_) (fun _ => ?_)
    · refine j_aload_n (pc := 276) hk 0 rfl ⟨_, rfl⟩ dX8_tells_276 ?_
      refine j_callVv (pc := 277) hk [] [] rfl (fun l o hq9 => C8_sorts st l o hq9) (rcv_8 (rfl)) yv_X8_sorts ml_8_206 rfl (Nat.le_of_ble_eq_true rfl) (Nat.le_of_ble_eq_true rfl) (Nat.le_of_ble_eq_true rfl) dX8_tells_277 (fun _ st5 => ?_)
      exact j_vret (pc := 280) hk dX8_tells_280
    · exact j_vret (pc := 280) hk dX8_tells_280
  · refine j_aload_n (pc := 26) hk 0 rfl ⟨_, rfl⟩ dX8_tells_26 ?_
    refine f_8_7 (pc := 27) hk (rfl) dX8_tells_27 ?_
    refine j_iload_n (pc := 30) hk 1 rfl dX8_tells_30 ?_
    refine a_iload (pc := 31) hk (isI_8_1) dX8_tells_31 (fun x6 => ?_)
    refine j_case (pc := 32) hk (fun n7 => ?_) (fun n7 => ?_)
    · refine j_tswIn (off := 40) (tgt := 72) (pc := 32) hk (by rw [n7]; decide) (by rw [n7]; decide) (by rw [n7]; decide) (by decide) dX8_tells_32 ?_
      refine j_aload_n (pc := 72) hk 0 rfl ⟨_, rfl⟩ dX8_tells_72 ?_
      refine f_8_53 (pc := 73) hk (rfl) dX8_tells_73 ?_
      refine j_aload_n (pc := 76) hk 0 rfl ⟨_, rfl⟩ dX8_tells_76 ?_
      refine j_dup (pc := 77) hk rfl dX8_tells_77 ?_
      refine f_8_119 (pc := 78) hk (rfl) dX8_tells_78 (fun x8 => ?_)
      refine j_dup_x1 (pc := 81) hk rfl rfl dX8_tells_81 ?_
      refine j_iconst (pc := 82) hk dX8_tells_82 (v := 1) (by decide) ?_
      refine j_iadd (pc := 83) hk dX8_tells_83 ?_
      refine p_8_119 (pc := 84) hk (rfl) dX8_tells_84 (fun st9 => ?_)
      refine j_aload_n (pc := 87) hk 0 rfl ⟨_, rfl⟩ dX8_tells_87 ?_
      refine j_iload_n (pc := 88) hk 1 rfl dX8_tells_88 ?_
      refine j_iload_n (pc := 89) hk 3 rfl dX8_tells_89 ?_
      refine j_callVi (pc := 90) hk [.int v1, .int v3] [.int x8, fk_r g 15] rfl (fun l o hq9 => C8_chipped v1 v3 st9 l o hq9) (rcv_8 (rfl)) yv_X8_chipped ml_8_195 rfl (Nat.le_of_ble_eq_true rfl) (Nat.le_of_ble_eq_true rfl) (Nat.le_of_ble_eq_true rfl) dX8_tells_90 (fun x10 st11 => ?_)
      refine a_istore (pc := 93) hk (isI_8_25) dX8_tells_93 (fun st12 => ?_)
      refine j_goto (tgt := 260) (pc := 94) hk (by decide) dX8_tells_94 ?_
      exact j_sub hk [0, 1, 2, 3] rfl (T8_tells_260 hk k21 H21 v1 v2 v3 st12)
    · refine j_case (pc := 32) hk (fun n13 => ?_) (fun n13 => ?_)
      · refine j_tswIn (off := 122) (tgt := 154) (pc := 32) hk (by rw [n13]; decide) (by rw [n13]; decide) (by rw [n13]; decide) (by decide) dX8_tells_32 ?_
        refine j_aload_n (pc := 154) hk 0 rfl ⟨_, rfl⟩ dX8_tells_154 ?_
        refine f_8_53 (pc := 155) hk (rfl) dX8_tells_155 ?_
        refine j_aload_n (pc := 158) hk 0 rfl ⟨_, rfl⟩ dX8_tells_158 ?_
        refine j_dup (pc := 159) hk rfl dX8_tells_159 ?_
        refine f_8_119 (pc := 160) hk (rfl) dX8_tells_160 (fun x14 => ?_)
        refine j_dup_x1 (pc := 163) hk rfl rfl dX8_tells_163 ?_
        refine j_iconst (pc := 164) hk dX8_tells_164 (v := 1) (by decide) ?_
        refine j_iadd (pc := 165) hk dX8_tells_165 ?_
        refine p_8_119 (pc := 166) hk (rfl) dX8_tells_166 (fun st15 => ?_)
        refine j_aload_n (pc := 169) hk 0 rfl ⟨_, rfl⟩ dX8_tells_169 ?_
        refine j_iload_n (pc := 170) hk 1 rfl dX8_tells_170 ?_
        refine j_iload_n (pc := 171) hk 2 rfl dX8_tells_171 ?_
        refine j_iconst (pc := 172) hk dX8_tells_172 (v := 1) (by decide) ?_
        refine j_isub (pc := 173) hk dX8_tells_173 ?_
        refine j_iload_n (pc := 174) hk 3 rfl dX8_tells_174 ?_
        refine j_isub (pc := 175) hk dX8_tells_175 ?_
        refine j_callVi (pc := 176) hk [.int v1, .int ((v2 - (1 : Int32)) - v3)] [.int x14, fk_r g 15] rfl (fun l o hq9 => C8_plain v1 ((v2 - (1 : Int32)) - v3) st15 l o hq9) (rcv_8 (rfl)) yv_X8_plain ml_8_192 rfl (Nat.le_of_ble_eq_true rfl) (Nat.le_of_ble_eq_true rfl) (Nat.le_of_ble_eq_true rfl) dX8_tells_176 (fun x16 st17 => ?_)
        refine a_istore (pc := 179) hk (isI_8_25) dX8_tells_179 (fun st18 => ?_)
        refine j_goto (tgt := 260) (pc := 180) hk (by decide) dX8_tells_180 ?_
        exact j_sub hk [0, 1, 2, 3] rfl (T8_tells_260 hk k21 H21 v1 v2 v3 st18)
      · refine j_case (pc := 32) hk (fun n19 => ?_) (fun n19 => ?_)
        · refine j_tswIn (off := 65) (tgt := 97) (pc := 32) hk (by rw [n19]; decide) (by rw [n19]; decide) (by rw [n19]; decide) (by decide) dX8_tells_32 ?_
          refine j_aload_n (pc := 97) hk 0 rfl ⟨_, rfl⟩ dX8_tells_97 ?_
          refine f_8_53 (pc := 98) hk (rfl) dX8_tells_98 ?_
          refine j_aload_n (pc := 101) hk 0 rfl ⟨_, rfl⟩ dX8_tells_101 ?_
          refine j_dup (pc := 102) hk rfl dX8_tells_102 ?_
          refine f_8_119 (pc := 103) hk (rfl) dX8_tells_103 (fun x20 => ?_)
          refine j_dup_x1 (pc := 106) hk rfl rfl dX8_tells_106 ?_
          refine j_iconst (pc := 107) hk dX8_tells_107 (v := 1) (by decide) ?_
          refine j_iadd (pc := 108) hk dX8_tells_108 ?_
          refine p_8_119 (pc := 109) hk (rfl) dX8_tells_109 (fun st21 => ?_)
          refine j_aload_n (pc := 112) hk 0 rfl ⟨_, rfl⟩ dX8_tells_112 ?_
          refine j_iload_n (pc := 113) hk 1 rfl dX8_tells_113 ?_
          refine j_iload_n (pc := 114) hk 3 rfl dX8_tells_114 ?_
          refine j_callVi (pc := 115) hk [.int v1, .int v3] [.int x20, fk_r g 15] rfl (fun l o hq9 => C8_widowed v1 v3 st21 l o hq9) (rcv_8 (rfl)) yv_X8_widowed ml_8_203 rfl (Nat.le_of_ble_eq_true rfl) (Nat.le_of_ble_eq_true rfl) (Nat.le_of_ble_eq_true rfl) dX8_tells_115 (fun x22 st23 => ?_)
          refine a_istore (pc := 118) hk (isI_8_25) dX8_tells_118 (fun st24 => ?_)
          refine j_goto (tgt := 260) (pc := 119) hk (by decide) dX8_tells_119 ?_
          exact j_sub hk [0, 1, 2, 3] rfl (T8_tells_260 hk k21 H21 v1 v2 v3 st24)
        · refine j_case (pc := 32) hk (fun n25 => ?_) (fun n25 => ?_)
          · refine j_tswIn (off := 206) (tgt := 238) (pc := 32) hk (by rw [n25]; decide) (by rw [n25]; decide) (by rw [n25]; decide) (by decide) dX8_tells_32 ?_
            refine j_aload_n (pc := 238) hk 0 rfl ⟨_, rfl⟩ dX8_tells_238 ?_
            refine f_8_53 (pc := 239) hk (rfl) dX8_tells_239 ?_
            refine j_aload_n (pc := 242) hk 0 rfl ⟨_, rfl⟩ dX8_tells_242 ?_
            refine j_dup (pc := 243) hk rfl dX8_tells_243 ?_
            refine f_8_119 (pc := 244) hk (rfl) dX8_tells_244 (fun x26 => ?_)
            refine j_dup_x1 (pc := 247) hk rfl rfl dX8_tells_247 ?_
            refine j_iconst (pc := 248) hk dX8_tells_248 (v := 1) (by decide) ?_
            refine j_iadd (pc := 249) hk dX8_tells_249 ?_
            refine p_8_119 (pc := 250) hk (rfl) dX8_tells_250 (fun st27 => ?_)
            refine j_aload_n (pc := 253) hk 0 rfl ⟨_, rfl⟩ dX8_tells_253 ?_
            refine j_iload_n (pc := 254) hk 1 rfl dX8_tells_254 ?_
            refine j_iload_n (pc := 255) hk 3 rfl dX8_tells_255 ?_
            refine j_callVi (pc := 256) hk [.int v1, .int v3] [.int x26, fk_r g 15] rfl (fun l o hq9 => C8_plain v1 v3 st27 l o hq9) (rcv_8 (rfl)) yv_X8_plain ml_8_192 rfl (Nat.le_of_ble_eq_true rfl) (Nat.le_of_ble_eq_true rfl) (Nat.le_of_ble_eq_true rfl) dX8_tells_256 (fun x28 st29 => ?_)
            refine a_istore (pc := 259) hk (isI_8_25) dX8_tells_259 (fun st30 => ?_)
            exact j_sub hk [0, 1, 2, 3] rfl (T8_tells_260 hk k21 H21 v1 v2 v3 st30)
          · refine j_case (pc := 32) hk (fun n31 => ?_) (fun n31 => ?_)
            · refine j_tswIn (off := 151) (tgt := 183) (pc := 32) hk (by rw [n31]; decide) (by rw [n31]; decide) (by rw [n31]; decide) (by decide) dX8_tells_32 ?_
              refine j_aload_n (pc := 183) hk 0 rfl ⟨_, rfl⟩ dX8_tells_183 ?_
              refine f_8_53 (pc := 184) hk (rfl) dX8_tells_184 ?_
              refine j_aload_n (pc := 187) hk 0 rfl ⟨_, rfl⟩ dX8_tells_187 ?_
              refine j_dup (pc := 188) hk rfl dX8_tells_188 ?_
              refine f_8_119 (pc := 189) hk (rfl) dX8_tells_189 (fun x32 => ?_)
              refine j_dup_x1 (pc := 192) hk rfl rfl dX8_tells_192 ?_
              refine j_iconst (pc := 193) hk dX8_tells_193 (v := 1) (by decide) ?_
              refine j_iadd (pc := 194) hk dX8_tells_194 ?_
              refine p_8_119 (pc := 195) hk (rfl) dX8_tells_195 (fun st33 => ?_)
              refine j_aload_n (pc := 198) hk 0 rfl ⟨_, rfl⟩ dX8_tells_198 ?_
              refine j_iload_n (pc := 199) hk 1 rfl dX8_tells_199 ?_
              refine j_iload_n (pc := 200) hk 2 rfl dX8_tells_200 ?_
              refine j_iconst (pc := 201) hk dX8_tells_201 (v := 1) (by decide) ?_
              refine j_isub (pc := 202) hk dX8_tells_202 ?_
              refine j_iload_n (pc := 203) hk 3 rfl dX8_tells_203 ?_
              refine j_isub (pc := 204) hk dX8_tells_204 ?_
              refine j_callVi (pc := 205) hk [.int v1, .int ((v2 - (1 : Int32)) - v3)] [.int x32, fk_r g 15] rfl (fun l o hq9 => C8_plain v1 ((v2 - (1 : Int32)) - v3) st33 l o hq9) (rcv_8 (rfl)) yv_X8_plain ml_8_192 rfl (Nat.le_of_ble_eq_true rfl) (Nat.le_of_ble_eq_true rfl) (Nat.le_of_ble_eq_true rfl) dX8_tells_205 (fun x34 st35 => ?_)
              refine a_istore (pc := 208) hk (isI_8_25) dX8_tells_208 (fun st36 => ?_)
              refine j_aload_n (pc := 209) hk 0 rfl ⟨_, rfl⟩ dX8_tells_209 ?_
              refine f_8_53 (pc := 210) hk (rfl) dX8_tells_210 ?_
              refine j_aload_n (pc := 213) hk 0 rfl ⟨_, rfl⟩ dX8_tells_213 ?_
              refine j_dup (pc := 214) hk rfl dX8_tells_214 ?_
              refine f_8_119 (pc := 215) hk (rfl) dX8_tells_215 (fun x37 => ?_)
              refine j_dup_x1 (pc := 218) hk rfl rfl dX8_tells_218 ?_
              refine j_iconst (pc := 219) hk dX8_tells_219 (v := 1) (by decide) ?_
              refine j_iadd (pc := 220) hk dX8_tells_220 ?_
              refine p_8_119 (pc := 221) hk (rfl) dX8_tells_221 (fun st38 => ?_)
              refine j_aload_n (pc := 224) hk 0 rfl ⟨_, rfl⟩ dX8_tells_224 ?_
              refine j_iload_n (pc := 225) hk 1 rfl dX8_tells_225 ?_
              refine j_iload_n (pc := 226) hk 2 rfl dX8_tells_226 ?_
              refine j_iconst (pc := 227) hk dX8_tells_227 (v := 1) (by decide) ?_
              refine j_isub (pc := 228) hk dX8_tells_228 ?_
              refine j_iload_n (pc := 229) hk 3 rfl dX8_tells_229 ?_
              refine j_isub (pc := 230) hk dX8_tells_230 ?_
              refine j_callVi (pc := 231) hk [.int v1, .int ((v2 - (1 : Int32)) - v3)] [.int x37, fk_r g 15] rfl (fun l o hq9 => C8_plain v1 ((v2 - (1 : Int32)) - v3) st38 l o hq9) (rcv_8 (rfl)) yv_X8_plain ml_8_192 rfl (Nat.le_of_ble_eq_true rfl) (Nat.le_of_ble_eq_true rfl) (Nat.le_of_ble_eq_true rfl) dX8_tells_231 (fun x39 st40 => ?_)
              refine a_istore (pc := 234) hk (isI_8_25) dX8_tells_234 (fun st41 => ?_)
              refine j_goto (tgt := 260) (pc := 235) hk (by decide) dX8_tells_235 ?_
              exact j_sub hk [0, 1, 2, 3] rfl (T8_tells_260 hk k21 H21 v1 v2 v3 st41)
            · refine j_case (pc := 32) hk (fun n42 => ?_) (fun n42 => ?_)
              · refine j_tswIn (off := 90) (tgt := 122) (pc := 32) hk (by rw [n42]; decide) (by rw [n42]; decide) (by rw [n42]; decide) (by decide) dX8_tells_32 ?_
                refine j_iload_n (pc := 122) hk 3 rfl dX8_tells_122 ?_
                refine j_iconst (pc := 123) hk dX8_tells_123 (v := 2) (by decide) ?_
                refine j_irem (pc := 124) hk (show fk_nz (2 : Int32) = true from by decide) dX8_tells_124 ?_
                refine j_iconst (pc := 125) hk dX8_tells_125 (v := 1) (by decide) ?_
                refine j_icmp_ne (tgt := 260) (pc := 126) hk (by decide) dX8_tells_126 (fun _ => ?_) (fun _ => ?_)
                · refine j_aload_n (pc := 129) hk 0 rfl ⟨_, rfl⟩ dX8_tells_129 ?_
                  refine f_8_53 (pc := 130) hk (rfl) dX8_tells_130 ?_
                  refine j_aload_n (pc := 133) hk 0 rfl ⟨_, rfl⟩ dX8_tells_133 ?_
                  refine j_dup (pc := 134) hk rfl dX8_tells_134 ?_
                  refine f_8_119 (pc := 135) hk (rfl) dX8_tells_135 (fun x43 => ?_)
                  refine j_dup_x1 (pc := 138) hk rfl rfl dX8_tells_138 ?_
                  refine j_iconst (pc := 139) hk dX8_tells_139 (v := 1) (by decide) ?_
                  refine j_iadd (pc := 140) hk dX8_tells_140 ?_
                  refine p_8_119 (pc := 141) hk (rfl) dX8_tells_141 (fun st44 => ?_)
                  refine j_aload_n (pc := 144) hk 0 rfl ⟨_, rfl⟩ dX8_tells_144 ?_
                  refine j_iload_n (pc := 145) hk 1 rfl dX8_tells_145 ?_
                  refine j_iload_n (pc := 146) hk 3 rfl dX8_tells_146 ?_
                  refine j_callVi (pc := 147) hk [.int v1, .int v3] [.int x43, fk_r g 15] rfl (fun l o hq9 => C8_widowed v1 v3 st44 l o hq9) (rcv_8 (rfl)) yv_X8_widowed ml_8_203 rfl (Nat.le_of_ble_eq_true rfl) (Nat.le_of_ble_eq_true rfl) (Nat.le_of_ble_eq_true rfl) dX8_tells_147 (fun x45 st46 => ?_)
                  refine a_istore (pc := 150) hk (isI_8_25) dX8_tells_150 (fun st47 => ?_)
                  refine j_goto (tgt := 260) (pc := 151) hk (by decide) dX8_tells_151 ?_
                  exact j_sub hk [0, 1, 2, 3] rfl (T8_tells_260 hk k21 H21 v1 v2 v3 st47)
                · exact j_sub hk [0, 1, 2, 3] rfl (T8_tells_260 hk k21 H21 v1 v2 v3 st)
              · have mn7 := lv_neT (a := 1) n7 (by decide)
                have mn13 := lv_neT (a := 2) n13 (by decide)
                have mn19 := lv_neT (a := 3) n19 (by decide)
                have mn25 := lv_neT (a := 4) n25 (by decide)
                have mn31 := lv_neT (a := 5) n31 (by decide)
                have mn42 := lv_neT (a := 6) n42 (by decide)
                refine j_tswOut (tgt := 238) (pc := 32) hk (by omega) (by decide) dX8_tells_32 ?_
                refine j_aload_n (pc := 238) hk 0 rfl ⟨_, rfl⟩ dX8_tells_238 ?_
                refine f_8_53 (pc := 239) hk (rfl) dX8_tells_239 ?_
                refine j_aload_n (pc := 242) hk 0 rfl ⟨_, rfl⟩ dX8_tells_242 ?_
                refine j_dup (pc := 243) hk rfl dX8_tells_243 ?_
                refine f_8_119 (pc := 244) hk (rfl) dX8_tells_244 (fun x48 => ?_)
                refine j_dup_x1 (pc := 247) hk rfl rfl dX8_tells_247 ?_
                refine j_iconst (pc := 248) hk dX8_tells_248 (v := 1) (by decide) ?_
                refine j_iadd (pc := 249) hk dX8_tells_249 ?_
                refine p_8_119 (pc := 250) hk (rfl) dX8_tells_250 (fun st49 => ?_)
                refine j_aload_n (pc := 253) hk 0 rfl ⟨_, rfl⟩ dX8_tells_253 ?_
                refine j_iload_n (pc := 254) hk 1 rfl dX8_tells_254 ?_
                refine j_iload_n (pc := 255) hk 3 rfl dX8_tells_255 ?_
                refine j_callVi (pc := 256) hk [.int v1, .int v3] [.int x48, fk_r g 15] rfl (fun l o hq9 => C8_plain v1 v3 st49 l o hq9) (rcv_8 (rfl)) yv_X8_plain ml_8_192 rfl (Nat.le_of_ble_eq_true rfl) (Nat.le_of_ble_eq_true rfl) (Nat.le_of_ble_eq_true rfl) dX8_tells_256 (fun x50 st51 => ?_)
                refine a_istore (pc := 259) hk (isI_8_25) dX8_tells_259 (fun st52 => ?_)
                exact j_sub hk [0, 1, 2, 3] rfl (T8_tells_260 hk k21 H21 v1 v2 v3 st52)
set_option maxHeartbeats 1000000 in
set_option maxRecDepth 20000 in
theorem L8_tells_21 {g : fkG} {k : fkK} (hk : fk_ok wM g k RX8 cX8_tells 4 none 3 100) (fu : Nat) : ∀ (v1 : Int32) (v2 : Int32) (v3 : Int32) (st : fkS), fk_J wM g fk_eU k 21 [(0, fk_r g 0), (1, .int v1), (2, .int v2), (3, .int v3)] [] st (fk_lp3 (B8_tells_21) fu v1 v2 v3 st) := by
  induction fu with
  | zero =>
    intro v1 v2 v3 st
    exact j_none hk
  | succ fu ih =>
    exact T8_tells_21 hk _ ih
def F8_tells (p1 : Int32) (st : fkS) : Option (Unit × fkS) :=
 fk_let (gI st 22 0) <| fun x1 =>
 fk_chk (fk_in (0 : Int32) 3) <| fk_let (gA st 4 (0 : Int32).toNatClampNeg) <| fun x2 =>
 fk_let (sI st 24 0 (0 : Int32)) <| fun st3 =>
 fk_lp3 (B8_tells_21) fk_fuel p1 (fk_min x1 x2) (0 : Int32) st3
set_option maxHeartbeats 1000000 in
set_option maxRecDepth 20000 in
theorem C8_tells (p1 : Int32) (st : fkS) {g : fkG} (l : Launch) (o : Unit × fkS) (hF : F8_tells p1 st = some o) : fk_C wM yX8_tells cX8_tells 4 none 3 100 l g [fk_r g 0, .int p1] st (fk_eU o.1) o.2 := by
  refine fk_begin rfl (Nat.le_of_ble_eq_true rfl) (fun k hk => ?_) o hF
  have hk : fk_ok wM g k RX8 cX8_tells 4 none 3 100 := hk
  show fk_J wM g fk_eU k 0 [(0, fk_r g 0), (1, .int p1)] [] st (F8_tells p1 st)
  unfold F8_tells
  refine j_aload_n (pc := 0) hk 0 rfl ⟨_, rfl⟩ dX8_tells_0 ?_
  refine f_8_112 (pc := 1) hk (rfl) dX8_tells_1 (fun x1 => ?_)
  refine j_aload_n (pc := 4) hk 0 rfl ⟨_, rfl⟩ dX8_tells_4 ?_
  refine f_8_19 (pc := 5) hk (rfl) dX8_tells_5 ?_
  refine j_iconst (pc := 8) hk dX8_tells_8 (v := 0) (by decide) ?_
  refine a_iload (pc := 9) hk (isI_8_4) dX8_tells_9 (fun x2 => ?_)
  refine j_mmin (pc := 10) hk ml_8_198 wd_min1 wd_math wd_min2 (Nat.le_of_ble_eq_true rfl) (Nat.le_of_ble_eq_true rfl) dX8_tells_10 ?_
  refine j_istore_n (lv' := ((2, .int (fk_min x1 x2)) :: [(0, fk_r g 0), (1, .int p1)])) (pc := 13) hk rfl (by decide) rfl dX8_tells_13 ?_
  refine j_sub hk (lv' := [(0, fk_r g 0), (1, .int p1), (2, .int (fk_min x1 x2))]) [1, 2, 0] rfl ?_
  refine j_aload_n (pc := 14) hk 0 rfl ⟨_, rfl⟩ dX8_tells_14 ?_
  refine j_iconst (pc := 15) hk dX8_tells_15 (v := 0) (by decide) ?_
  refine p_8_119 (pc := 16) hk (rfl) dX8_tells_16 (fun st3 => ?_)
  refine j_iconst (pc := 19) hk dX8_tells_19 (v := 0) (by decide) ?_
  refine j_istore_n (lv' := ((3, .int (0 : Int32)) :: [(0, fk_r g 0), (1, .int p1), (2, .int (fk_min x1 x2))])) (pc := 20) hk rfl (by decide) rfl dX8_tells_20 ?_
  refine j_sub hk (lv' := [(0, fk_r g 0), (1, .int p1), (2, .int (fk_min x1 x2)), (3, .int (0 : Int32))]) [1, 2, 3, 0] rfl ?_
  exact j_sub hk [0, 1, 2, 3] rfl (L8_tells_21 hk fk_fuel p1 (fk_min x1 x2) (0 : Int32) st3)
theorem dX8_says_0 : decode cX8_says 0 = .ok (.iload_n 1, 1) := by decide +kernel
theorem dX8_says_1 : decode cX8_says 1 = .ok (.iconst 0, 1) := by decide +kernel
theorem dX8_says_2 : decode cX8_says 2 = .ok (.bipush 7, 2) := by decide +kernel
theorem dX8_says_4 : decode cX8_says 4 = .ok (.invokestatic 88, 3) := by decide +kernel
theorem dX8_says_7 : decode cX8_says 7 = .ok (.ifCond .eq 13, 3) := by decide +kernel
theorem dX8_says_10 : decode cX8_says 10 = .ok (.iload_n 2, 1) := by decide +kernel
theorem dX8_says_11 : decode cX8_says 11 = .ok (.iconst 0, 1) := by decide +kernel
theorem dX8_says_12 : decode cX8_says 12 = .ok (.bipush 6, 2) := by decide +kernel
theorem dX8_says_14 : decode cX8_says 14 = .ok (.invokestatic 88, 3) := by decide +kernel
theorem dX8_says_17 : decode cX8_says 17 = .ok (.ifCond .ne 9, 3) := by decide +kernel
theorem dX8_says_20 : decode cX8_says 20 = .ok (.aload_n 0, 1) := by decide +kernel
theorem dX8_says_21 : decode cX8_says 21 = .ok (.iconst (-1), 1) := by decide +kernel
theorem dX8_says_22 : decode cX8_says 22 = .ok (.invokevirtual 105, 3) := by decide +kernel
theorem dX8_says_25 : decode cX8_says 25 = .ok (.ireturn, 1) := by decide +kernel
theorem dX8_says_26 : decode cX8_says 26 = .ok (.aload_n 0, 1) := by decide +kernel
theorem dX8_says_27 : decode cX8_says 27 = .ok (.getfield 25, 3) := by decide +kernel
theorem dX8_says_30 : decode cX8_says 30 = .ok (.iload_n 1, 1) := by decide +kernel
theorem dX8_says_31 : decode cX8_says 31 = .ok (.iaload, 1) := by decide +kernel
theorem dX8_says_32 : decode cX8_says 32 = .ok (.istore_n 3, 1) := by decide +kernel
theorem dX8_says_33 : decode cX8_says 33 = .ok (.iload_n 3, 1) := by decide +kernel
theorem dX8_says_34 : decode cX8_says 34 = .ok (.ifCond .lt 31, 3) := by decide +kernel
theorem dX8_says_37 : decode cX8_says 37 = .ok (.aload_n 0, 1) := by decide +kernel
theorem dX8_says_38 : decode cX8_says 38 = .ok (.iload_n 1, 1) := by decide +kernel
theorem dX8_says_39 : decode cX8_says 39 = .ok (.invokevirtual 92, 3) := by decide +kernel
theorem dX8_says_42 : decode cX8_says 42 = .ok (.ifCond .ne 16, 3) := by decide +kernel
theorem dX8_says_45 : decode cX8_says 45 = .ok (.aload_n 0, 1) := by decide +kernel
theorem dX8_says_46 : decode cX8_says 46 = .ok (.getfield 7, 3) := by decide +kernel
theorem dX8_says_49 : decode cX8_says 49 = .ok (.iload_n 3, 1) := by decide +kernel
theorem dX8_says_50 : decode cX8_says 50 = .ok (.iaload, 1) := by decide +kernel
theorem dX8_says_51 : decode cX8_says 51 = .ok (.iload_n 2, 1) := by decide +kernel
theorem dX8_says_52 : decode cX8_says 52 = .ok (.invokestatic 108, 3) := by decide +kernel
theorem dX8_says_55 : decode cX8_says 55 = .ok (.ifCond .ne 10, 3) := by decide +kernel
theorem dX8_says_58 : decode cX8_says 58 = .ok (.aload_n 0, 1) := by decide +kernel
theorem dX8_says_59 : decode cX8_says 59 = .ok (.bipush (-2), 2) := by decide +kernel
theorem dX8_says_61 : decode cX8_says 61 = .ok (.invokevirtual 105, 3) := by decide +kernel
theorem dX8_says_64 : decode cX8_says 64 = .ok (.ireturn, 1) := by decide +kernel
theorem dX8_says_65 : decode cX8_says 65 = .ok (.iload_n 3, 1) := by decide +kernel
theorem dX8_says_66 : decode cX8_says 66 = .ok (.ifCond .ge 10, 3) := by decide +kernel
theorem dX8_says_69 : decode cX8_says 69 = .ok (.aload_n 0, 1) := by decide +kernel
theorem dX8_says_70 : decode cX8_says 70 = .ok (.bipush (-3), 2) := by decide +kernel
theorem dX8_says_72 : decode cX8_says 72 = .ok (.invokevirtual 105, 3) := by decide +kernel
theorem dX8_says_75 : decode cX8_says 75 = .ok (.ireturn, 1) := by decide +kernel
theorem dX8_says_76 : decode cX8_says 76 = .ok (.aload_n 0, 1) := by decide +kernel
theorem dX8_says_77 : decode cX8_says 77 = .ok (.iconst 3, 1) := by decide +kernel
theorem dX8_says_78 : decode cX8_says 78 = .ok (.putfield 112, 3) := by decide +kernel
theorem dX8_says_81 : decode cX8_says 81 = .ok (.iconst 0, 1) := by decide +kernel
theorem dX8_says_82 : decode cX8_says 82 = .ok (.istore 4, 2) := by decide +kernel
theorem dX8_says_84 : decode cX8_says 84 = .ok (.iload 4, 2) := by decide +kernel
theorem dX8_says_86 : decode cX8_says 86 = .ok (.iconst 3, 1) := by decide +kernel
theorem dX8_says_87 : decode cX8_says 87 = .ok (.if_icmp .ge 20, 3) := by decide +kernel
theorem dX8_says_90 : decode cX8_says 90 = .ok (.aload_n 0, 1) := by decide +kernel
theorem dX8_says_91 : decode cX8_says 91 = .ok (.getfield 50, 3) := by decide +kernel
theorem dX8_says_94 : decode cX8_says 94 = .ok (.iload 4, 2) := by decide +kernel
theorem dX8_says_96 : decode cX8_says 96 = .ok (.iconst 2, 1) := by decide +kernel
theorem dX8_says_97 : decode cX8_says 97 = .ok (.iload 4, 2) := by decide +kernel
theorem dX8_says_99 : decode cX8_says 99 = .ok (.isub, 1) := by decide +kernel
theorem dX8_says_100 : decode cX8_says 100 = .ok (.iastore, 1) := by decide +kernel
theorem dX8_says_101 : decode cX8_says 101 = .ok (.iinc 4 1, 3) := by decide +kernel
theorem dX8_says_104 : decode cX8_says 104 = .ok (.goto (-20), 3) := by decide +kernel
theorem dX8_says_107 : decode cX8_says 107 = .ok (.aload_n 0, 1) := by decide +kernel
theorem dX8_says_108 : decode cX8_says 108 = .ok (.iload_n 3, 1) := by decide +kernel
theorem dX8_says_109 : decode cX8_says 109 = .ok (.invokevirtual 115, 3) := by decide +kernel
theorem dX8_says_112 : decode cX8_says 112 = .ok (.iload_n 2, 1) := by decide +kernel
theorem dX8_says_113 : decode cX8_says 113 = .ok (.tableswitch 75 0 6 #[43, 50, 75, 50, 57, 75, 50], 43) := by decide +kernel
theorem dX8_says_156 : decode cX8_says 156 = .ok (.aload_n 0, 1) := by decide +kernel
theorem dX8_says_157 : decode cX8_says 157 = .ok (.getfield 16, 3) := by decide +kernel
theorem dX8_says_160 : decode cX8_says 160 = .ok (.iload_n 3, 1) := by decide +kernel
theorem dX8_says_161 : decode cX8_says 161 = .ok (.iaload, 1) := by decide +kernel
theorem dX8_says_162 : decode cX8_says 162 = .ok (.ireturn, 1) := by decide +kernel
theorem dX8_says_163 : decode cX8_says 163 = .ok (.aload_n 0, 1) := by decide +kernel
theorem dX8_says_164 : decode cX8_says 164 = .ok (.getfield 13, 3) := by decide +kernel
theorem dX8_says_167 : decode cX8_says 167 = .ok (.iload_n 3, 1) := by decide +kernel
theorem dX8_says_168 : decode cX8_says 168 = .ok (.iaload, 1) := by decide +kernel
theorem dX8_says_169 : decode cX8_says 169 = .ok (.ireturn, 1) := by decide +kernel
theorem dX8_says_170 : decode cX8_says 170 = .ok (.aload_n 0, 1) := by decide +kernel
theorem dX8_says_171 : decode cX8_says 171 = .ok (.getfield 119, 3) := by decide +kernel
theorem dX8_says_174 : decode cX8_says 174 = .ok (.ifCond .ne 7, 3) := by decide +kernel
theorem dX8_says_177 : decode cX8_says 177 = .ok (.iconst (-1), 1) := by decide +kernel
theorem dX8_says_178 : decode cX8_says 178 = .ok (.goto 9, 3) := by decide +kernel
theorem dX8_says_181 : decode cX8_says 181 = .ok (.aload_n 0, 1) := by decide +kernel
theorem dX8_says_182 : decode cX8_says 182 = .ok (.getfield 53, 3) := by decide +kernel
theorem dX8_says_185 : decode cX8_says 185 = .ok (.iconst 0, 1) := by decide +kernel
theorem dX8_says_186 : decode cX8_says 186 = .ok (.iaload, 1) := by decide +kernel
theorem dX8_says_187 : decode cX8_says 187 = .ok (.ireturn, 1) := by decide +kernel
theorem dX8_says_188 : decode cX8_says 188 = .ok (.aload_n 0, 1) := by decide +kernel
theorem dX8_says_189 : decode cX8_says 189 = .ok (.getfield 119, 3) := by decide +kernel
theorem dX8_says_192 : decode cX8_says 192 = .ok (.ireturn, 1) := by decide +kernel
def B8_says_20 (st : fkS) : Option (Int32 × fkS) :=
 fk_bind (F8_no10 (-1 : Int32) st) <| fun x11 st12 =>
 some (x11, st12)
set_option maxHeartbeats 1000000 in
set_option maxRecDepth 20000 in
theorem T8_says_20 {g : fkG} {k : fkK} (hk : fk_ok wM g k RX8 cX8_says 5 (some (.int)) 4 123) : ∀ (st : fkS), fk_J wM g fk_eI k 20 [(0, fk_r g 0)] [] st (B8_says_20 st) := by
  intro st
  unfold B8_says_20
  refine j_aload_n (pc := 20) hk 0 rfl ⟨_, rfl⟩ dX8_says_20 ?_
  refine j_iconst (pc := 21) hk dX8_says_21 (v := -1) (by decide) ?_
  refine j_callVi (pc := 22) hk [.int (-1 : Int32)] [] rfl (fun l o hq9 => C8_no10 (-1 : Int32) st l o hq9) (rcv_8 (rfl)) yv_X8_no10 ml_8_105 rfl (Nat.le_of_ble_eq_true rfl) (Nat.le_of_ble_eq_true rfl) (Nat.le_of_ble_eq_true rfl) dX8_says_22 (fun x11 st12 => ?_)
  exact j_iret (pc := 25) hk dX8_says_25
def B8_says_58 (st : fkS) : Option (Int32 × fkS) :=
 fk_bind (F8_no10 (-2 : Int32) st) <| fun x16 st17 =>
 some (x16, st17)
set_option maxHeartbeats 1000000 in
set_option maxRecDepth 20000 in
theorem T8_says_58 {g : fkG} {k : fkK} (hk : fk_ok wM g k RX8 cX8_says 5 (some (.int)) 4 123) : ∀ (st : fkS), fk_J wM g fk_eI k 58 [(0, fk_r g 0)] [] st (B8_says_58 st) := by
  intro st
  unfold B8_says_58
  refine j_aload_n (pc := 58) hk 0 rfl ⟨_, rfl⟩ dX8_says_58 ?_
  refine j_bipush (pc := 59) hk dX8_says_59 (v := -2) (by decide) ?_
  refine j_callVi (pc := 61) hk [.int (-2 : Int32)] [] rfl (fun l o hq9 => C8_no10 (-2 : Int32) st l o hq9) (rcv_8 (rfl)) yv_X8_no10 ml_8_105 rfl (Nat.le_of_ble_eq_true rfl) (Nat.le_of_ble_eq_true rfl) (Nat.le_of_ble_eq_true rfl) dX8_says_61 (fun x16 st17 => ?_)
  exact j_iret (pc := 64) hk dX8_says_64
def B8_says_84 (k84 : Int32 → Int32 → Int32 → fkS → Option (Int32 × fkS)) (v2 : Int32) (v3 : Int32) (v4 : Int32) (st : fkS) : Option (Int32 × fkS) :=
 if (3 : Int32) ≤ v4 then
 (fk_bind (F8_tells v3 st) <| fun _ st18 =>
 if v2 = (0 : Int32) then
 (fk_chk (fk_in v3 7) <| fk_let (gA st18 3 v3.toNatClampNeg) <| fun x20 =>
 some (x20, st18))
 else
 (if v2 = (1 : Int32) then
 (fk_chk (fk_in v3 7) <| fk_let (gA st18 2 v3.toNatClampNeg) <| fun x22 =>
 some (x22, st18))
 else
 (if v2 = (2 : Int32) then
 (fk_let (gI st18 24 0) <| fun x24 =>
 some (x24, st18))
 else
 (if v2 = (3 : Int32) then
 (fk_chk (fk_in v3 7) <| fk_let (gA st18 2 v3.toNatClampNeg) <| fun x26 =>
 some (x26, st18))
 else
 (if v2 = (4 : Int32) then
 (fk_let (gI st18 24 0) <| fun x28 =>
 if x28 = 0 then
 (some ((-1 : Int32), st18))
 else
 (fk_chk (fk_in (0 : Int32) 16) <| fk_let (gA st18 15 (0 : Int32).toNatClampNeg) <| fun x29 =>
 some (x29, st18)))
 else
 (if v2 = (5 : Int32) then
 (fk_let (gI st18 24 0) <| fun x31 =>
 some (x31, st18))
 else
 (if v2 = (6 : Int32) then
 (fk_chk (fk_in v3 7) <| fk_let (gA st18 2 v3.toNatClampNeg) <| fun x33 =>
 some (x33, st18))
 else
 (fk_let (gI st18 24 0) <| fun x34 =>
 some (x34, st18)))))))))
 else
 (fk_chk (fk_in v4 8) <| fk_let (sA st 14 v4.toNatClampNeg ((2 : Int32) - v4)) <| fun st35 =>
 k84 v2 v3 (v4 + (1 : Int32)) st35)
set_option maxHeartbeats 1000000 in
set_option maxRecDepth 20000 in
theorem T8_says_84 {g : fkG} {k : fkK} (hk : fk_ok wM g k RX8 cX8_says 5 (some (.int)) 4 123) (k84 : Int32 → Int32 → Int32 → fkS → Option (Int32 × fkS)) (H84 : ∀ (v2 : Int32) (v3 : Int32) (v4 : Int32) (st : fkS), fk_J wM g fk_eI k 84 [(0, fk_r g 0), (2, .int v2), (3, .int v3), (4, .int v4)] [] st (k84 v2 v3 v4 st)) : ∀ (v2 : Int32) (v3 : Int32) (v4 : Int32) (st : fkS), fk_J wM g fk_eI k 84 [(0, fk_r g 0), (2, .int v2), (3, .int v3), (4, .int v4)] [] st (B8_says_84 k84 v2 v3 v4 st) := by
  intro v2 v3 v4 st
  unfold B8_says_84
  refine j_iload (pc := 84) hk 3 rfl dX8_says_84 ?_
  refine j_iconst (pc := 86) hk dX8_says_86 (v := 3) (by decide) ?_
  refine j_icmp_ge (tgt := 107) (pc := 87) hk (by decide) dX8_says_87 (fun _ => ?_) (fun _ => ?_)
  · refine j_aload_n (pc := 107) hk 0 rfl ⟨_, rfl⟩ dX8_says_107 ?_
    refine j_iload_n (pc := 108) hk 2 rfl dX8_says_108 ?_
    refine j_callVv (pc := 109) hk [.int v3] [] rfl (fun l o hq9 => C8_tells v3 st l o hq9) (rcv_8 (rfl)) yv_X8_tells ml_8_115 rfl (Nat.le_of_ble_eq_true rfl) (Nat.le_of_ble_eq_true rfl) (Nat.le_of_ble_eq_true rfl) dX8_says_109 (fun _ st18 => ?_)
    refine j_iload_n (pc := 112) hk 1 rfl dX8_says_112 ?_
    refine j_case (pc := 113) hk (fun n19 => ?_) (fun n19 => ?_)
    · refine j_tswIn (off := 43) (tgt := 156) (pc := 113) hk (by rw [n19]; decide) (by rw [n19]; decide) (by rw [n19]; decide) (by decide) dX8_says_113 ?_
      refine j_aload_n (pc := 156) hk 0 rfl ⟨_, rfl⟩ dX8_says_156 ?_
      refine f_8_16 (pc := 157) hk (rfl) dX8_says_157 ?_
      refine j_iload_n (pc := 160) hk 2 rfl dX8_says_160 ?_
      refine a_iload (pc := 161) hk (isI_8_3) dX8_says_161 (fun x20 => ?_)
      exact j_iret (pc := 162) hk dX8_says_162
    · refine j_case (pc := 113) hk (fun n21 => ?_) (fun n21 => ?_)
      · refine j_tswIn (off := 50) (tgt := 163) (pc := 113) hk (by rw [n21]; decide) (by rw [n21]; decide) (by rw [n21]; decide) (by decide) dX8_says_113 ?_
        refine j_aload_n (pc := 163) hk 0 rfl ⟨_, rfl⟩ dX8_says_163 ?_
        refine f_8_13 (pc := 164) hk (rfl) dX8_says_164 ?_
        refine j_iload_n (pc := 167) hk 2 rfl dX8_says_167 ?_
        refine a_iload (pc := 168) hk (isI_8_2) dX8_says_168 (fun x22 => ?_)
        exact j_iret (pc := 169) hk dX8_says_169
      · refine j_case (pc := 113) hk (fun n23 => ?_) (fun n23 => ?_)
        · refine j_tswIn (off := 75) (tgt := 188) (pc := 113) hk (by rw [n23]; decide) (by rw [n23]; decide) (by rw [n23]; decide) (by decide) dX8_says_113 ?_
          refine j_aload_n (pc := 188) hk 0 rfl ⟨_, rfl⟩ dX8_says_188 ?_
          refine f_8_119 (pc := 189) hk (rfl) dX8_says_189 (fun x24 => ?_)
          exact j_iret (pc := 192) hk dX8_says_192
        · refine j_case (pc := 113) hk (fun n25 => ?_) (fun n25 => ?_)
          · refine j_tswIn (off := 50) (tgt := 163) (pc := 113) hk (by rw [n25]; decide) (by rw [n25]; decide) (by rw [n25]; decide) (by decide) dX8_says_113 ?_
            refine j_aload_n (pc := 163) hk 0 rfl ⟨_, rfl⟩ dX8_says_163 ?_
            refine f_8_13 (pc := 164) hk (rfl) dX8_says_164 ?_
            refine j_iload_n (pc := 167) hk 2 rfl dX8_says_167 ?_
            refine a_iload (pc := 168) hk (isI_8_2) dX8_says_168 (fun x26 => ?_)
            exact j_iret (pc := 169) hk dX8_says_169
          · refine j_case (pc := 113) hk (fun n27 => ?_) (fun n27 => ?_)
            · refine j_tswIn (off := 57) (tgt := 170) (pc := 113) hk (by rw [n27]; decide) (by rw [n27]; decide) (by rw [n27]; decide) (by decide) dX8_says_113 ?_
              refine j_aload_n (pc := 170) hk 0 rfl ⟨_, rfl⟩ dX8_says_170 ?_
              refine f_8_119 (pc := 171) hk (rfl) dX8_says_171 (fun x28 => ?_)
              refine j_if_ne (tgt := 181) (pc := 174) hk (by decide) dX8_says_174 (fun _ => ?_) (fun _ => ?_)
              · refine j_iconst (pc := 177) hk dX8_says_177 (v := -1) (by decide) ?_
                refine j_goto (tgt := 187) (pc := 178) hk (by decide) dX8_says_178 ?_
                exact j_iret (pc := 187) hk dX8_says_187
              · refine j_aload_n (pc := 181) hk 0 rfl ⟨_, rfl⟩ dX8_says_181 ?_
                refine f_8_53 (pc := 182) hk (rfl) dX8_says_182 ?_
                refine j_iconst (pc := 185) hk dX8_says_185 (v := 0) (by decide) ?_
                refine a_iload (pc := 186) hk (isI_8_25) dX8_says_186 (fun x29 => ?_)
                exact j_iret (pc := 187) hk dX8_says_187
            · refine j_case (pc := 113) hk (fun n30 => ?_) (fun n30 => ?_)
              · refine j_tswIn (off := 75) (tgt := 188) (pc := 113) hk (by rw [n30]; decide) (by rw [n30]; decide) (by rw [n30]; decide) (by decide) dX8_says_113 ?_
                refine j_aload_n (pc := 188) hk 0 rfl ⟨_, rfl⟩ dX8_says_188 ?_
                refine f_8_119 (pc := 189) hk (rfl) dX8_says_189 (fun x31 => ?_)
                exact j_iret (pc := 192) hk dX8_says_192
              · refine j_case (pc := 113) hk (fun n32 => ?_) (fun n32 => ?_)
                · refine j_tswIn (off := 50) (tgt := 163) (pc := 113) hk (by rw [n32]; decide) (by rw [n32]; decide) (by rw [n32]; decide) (by decide) dX8_says_113 ?_
                  refine j_aload_n (pc := 163) hk 0 rfl ⟨_, rfl⟩ dX8_says_163 ?_
                  refine f_8_13 (pc := 164) hk (rfl) dX8_says_164 ?_
                  refine j_iload_n (pc := 167) hk 2 rfl dX8_says_167 ?_
                  refine a_iload (pc := 168) hk (isI_8_2) dX8_says_168 (fun x33 => ?_)
                  exact j_iret (pc := 169) hk dX8_says_169
                · have mn19 := lv_neT (a := 0) n19 (by decide)
                  have mn21 := lv_neT (a := 1) n21 (by decide)
                  have mn23 := lv_neT (a := 2) n23 (by decide)
                  have mn25 := lv_neT (a := 3) n25 (by decide)
                  have mn27 := lv_neT (a := 4) n27 (by decide)
                  have mn30 := lv_neT (a := 5) n30 (by decide)
                  have mn32 := lv_neT (a := 6) n32 (by decide)
                  refine j_tswOut (tgt := 188) (pc := 113) hk (by omega) (by decide) dX8_says_113 ?_
                  refine j_aload_n (pc := 188) hk 0 rfl ⟨_, rfl⟩ dX8_says_188 ?_
                  refine f_8_119 (pc := 189) hk (rfl) dX8_says_189 (fun x34 => ?_)
                  exact j_iret (pc := 192) hk dX8_says_192
  · refine j_aload_n (pc := 90) hk 0 rfl ⟨_, rfl⟩ dX8_says_90 ?_
    refine f_8_50 (pc := 91) hk (rfl) dX8_says_91 ?_
    refine j_iload (pc := 94) hk 3 rfl dX8_says_94 ?_
    refine j_iconst (pc := 96) hk dX8_says_96 (v := 2) (by decide) ?_
    refine j_iload (pc := 97) hk 3 rfl dX8_says_97 ?_
    refine j_isub (pc := 99) hk dX8_says_99 ?_
    refine a_istore (pc := 100) hk (isI_8_23) dX8_says_100 (fun st35 => ?_)
    refine j_iinc (dd := (1 : Int32)) (lv' := ((4, .int (v4 + (1 : Int32))) :: [(0, fk_r g 0), (2, .int v2), (3, .int v3)])) (pc := 101) hk 3 rfl (by decide) (by decide) rfl dX8_says_101 ?_
    refine j_sub hk (lv' := [(0, fk_r g 0), (2, .int v2), (3, .int v3), (4, .int (v4 + (1 : Int32)))]) [1, 2, 3, 0] rfl ?_
    refine j_goto (tgt := 84) (pc := 104) hk (by decide) dX8_says_104 ?_
    exact j_sub hk [0, 1, 2, 3] rfl (H84 v2 v3 (v4 + (1 : Int32)) st35)
set_option maxHeartbeats 1000000 in
set_option maxRecDepth 20000 in
theorem L8_says_84 {g : fkG} {k : fkK} (hk : fk_ok wM g k RX8 cX8_says 5 (some (.int)) 4 123) (fu : Nat) : ∀ (v2 : Int32) (v3 : Int32) (v4 : Int32) (st : fkS), fk_J wM g fk_eI k 84 [(0, fk_r g 0), (2, .int v2), (3, .int v3), (4, .int v4)] [] st (fk_lp3 (B8_says_84) fu v2 v3 v4 st) := by
  induction fu with
  | zero =>
    intro v2 v3 v4 st
    exact j_none hk
  | succ fu ih =>
    exact T8_says_84 hk _ ih
def B8_says_65 (v2 : Int32) (v3 : Int32) (st : fkS) : Option (Int32 × fkS) :=
 if 0 ≤ v3 then
 (fk_let (sI st 22 0 (3 : Int32)) <| fun st13 =>
 fk_lp3 (B8_says_84) fk_fuel v2 v3 (0 : Int32) st13)
 else
 (fk_bind (F8_no10 (-3 : Int32) st) <| fun x14 st15 =>
 some (x14, st15))
set_option maxHeartbeats 1000000 in
set_option maxRecDepth 20000 in
theorem T8_says_65 {g : fkG} {k : fkK} (hk : fk_ok wM g k RX8 cX8_says 5 (some (.int)) 4 123) : ∀ (v2 : Int32) (v3 : Int32) (st : fkS), fk_J wM g fk_eI k 65 [(0, fk_r g 0), (2, .int v2), (3, .int v3)] [] st (B8_says_65 v2 v3 st) := by
  intro v2 v3 st
  unfold B8_says_65
  refine j_iload_n (pc := 65) hk 2 rfl dX8_says_65 ?_
  refine j_if_ge (tgt := 76) (pc := 66) hk (by decide) dX8_says_66 (fun _ => ?_) (fun _ => ?_)
  · refine j_aload_n (pc := 76) hk 0 rfl ⟨_, rfl⟩ dX8_says_76 ?_
    refine j_iconst (pc := 77) hk dX8_says_77 (v := 3) (by decide) ?_
    refine p_8_112 (pc := 78) hk (rfl) dX8_says_78 (fun st13 => ?_)
    refine j_iconst (pc := 81) hk dX8_says_81 (v := 0) (by decide) ?_
    refine j_istore (lv' := ((4, .int (0 : Int32)) :: [(0, fk_r g 0), (2, .int v2), (3, .int v3)])) (pc := 82) hk (by decide) rfl dX8_says_82 ?_
    refine j_sub hk (lv' := [(0, fk_r g 0), (2, .int v2), (3, .int v3), (4, .int (0 : Int32))]) [1, 2, 3, 0] rfl ?_
    exact j_sub hk [0, 1, 2, 3] rfl (L8_says_84 hk fk_fuel v2 v3 (0 : Int32) st13)
  · refine j_aload_n (pc := 69) hk 0 rfl ⟨_, rfl⟩ dX8_says_69 ?_
    refine j_bipush (pc := 70) hk dX8_says_70 (v := -3) (by decide) ?_
    refine j_callVi (pc := 72) hk [.int (-3 : Int32)] [] rfl (fun l o hq9 => C8_no10 (-3 : Int32) st l o hq9) (rcv_8 (rfl)) yv_X8_no10 ml_8_105 rfl (Nat.le_of_ble_eq_true rfl) (Nat.le_of_ble_eq_true rfl) (Nat.le_of_ble_eq_true rfl) dX8_says_72 (fun x14 st15 => ?_)
    exact j_iret (pc := 75) hk dX8_says_75
def F8_says (p1 : Int32) (p2 : Int32) (st : fkS) : Option (Int32 × fkS) :=
 fk_bind (F8_within p1 (0 : Int32) (7 : Int32) st) <| fun x1 st2 =>
 if x1 = 0 then
 (B8_says_20 st2)
 else
 (fk_bind (F8_within p2 (0 : Int32) (6 : Int32) st2) <| fun x3 st4 =>
 if x3 = 0 then
 (B8_says_20 st4)
 else
 (fk_chk (fk_in p1 8) <| fk_let (gA st4 6 p1.toNatClampNeg) <| fun x5 =>
 if x5 < 0 then
 (B8_says_65 p2 x5 st4)
 else
 (fk_bind (F8_isRow p1 st4) <| fun x6 st7 =>
 if x6 = 0 then
 (fk_chk (fk_in x5 7) <| fk_let (gA st7 1 x5.toNatClampNeg) <| fun x8 =>
 fk_bind (F8_isUnder x8 p2 st7) <| fun x9 st10 =>
 if x9 = 0 then
 (B8_says_58 st10)
 else
 (B8_says_65 p2 x5 st10))
 else
 (B8_says_58 st7))))
set_option maxHeartbeats 1000000 in
set_option maxRecDepth 20000 in
theorem C8_says (p1 : Int32) (p2 : Int32) (st : fkS) {g : fkG} (l : Launch) (o : Int32 × fkS) (hF : F8_says p1 p2 st = some o) : fk_C wM yX8_says cX8_says 5 (some (.int)) 4 123 l g [fk_r g 0, .int p1, .int p2] st (fk_eI o.1) o.2 := by
  refine fk_begin rfl (Nat.le_of_ble_eq_true rfl) (fun k hk => ?_) o hF
  have hk : fk_ok wM g k RX8 cX8_says 5 (some (.int)) 4 123 := hk
  show fk_J wM g fk_eI k 0 [(0, fk_r g 0), (1, .int p1), (2, .int p2)] [] st (F8_says p1 p2 st)
  unfold F8_says
  refine j_iload_n (pc := 0) hk 1 rfl dX8_says_0 ?_
  refine j_iconst (pc := 1) hk dX8_says_1 (v := 0) (by decide) ?_
  refine j_bipush (pc := 2) hk dX8_says_2 (v := 7) (by decide) ?_
  refine j_callSi (pc := 4) hk [.int p1, .int (0 : Int32), .int (7 : Int32)] [] rfl (fun l o hq9 => C8_within p1 (0 : Int32) (7 : Int32) st l o hq9) yv_X8_within ml_8_88 rfl (Nat.le_of_ble_eq_true rfl) (Nat.le_of_ble_eq_true rfl) (Nat.le_of_ble_eq_true rfl) dX8_says_4 (fun x1 st2 => ?_)
  refine j_if_eq (tgt := 20) (pc := 7) hk (by decide) dX8_says_7 (fun _ => ?_) (fun _ => ?_)
  · exact j_sub hk [0] rfl (T8_says_20 hk st2)
  · refine j_iload_n (pc := 10) hk 2 rfl dX8_says_10 ?_
    refine j_iconst (pc := 11) hk dX8_says_11 (v := 0) (by decide) ?_
    refine j_bipush (pc := 12) hk dX8_says_12 (v := 6) (by decide) ?_
    refine j_callSi (pc := 14) hk [.int p2, .int (0 : Int32), .int (6 : Int32)] [] rfl (fun l o hq9 => C8_within p2 (0 : Int32) (6 : Int32) st2 l o hq9) yv_X8_within ml_8_88 rfl (Nat.le_of_ble_eq_true rfl) (Nat.le_of_ble_eq_true rfl) (Nat.le_of_ble_eq_true rfl) dX8_says_14 (fun x3 st4 => ?_)
    refine j_if_ne (tgt := 26) (pc := 17) hk (by decide) dX8_says_17 (fun _ => ?_) (fun _ => ?_)
    · exact j_sub hk [0] rfl (T8_says_20 hk st4)
    · refine j_aload_n (pc := 26) hk 0 rfl ⟨_, rfl⟩ dX8_says_26 ?_
      refine f_8_25 (pc := 27) hk (rfl) dX8_says_27 ?_
      refine j_iload_n (pc := 30) hk 1 rfl dX8_says_30 ?_
      refine a_iload (pc := 31) hk (isI_8_9) dX8_says_31 (fun x5 => ?_)
      refine j_istore_n (lv' := ((3, .int x5) :: [(0, fk_r g 0), (1, .int p1), (2, .int p2)])) (pc := 32) hk rfl (by decide) rfl dX8_says_32 ?_
      refine j_sub hk (lv' := [(0, fk_r g 0), (1, .int p1), (2, .int p2), (3, .int x5)]) [1, 2, 3, 0] rfl ?_
      refine j_iload_n (pc := 33) hk 3 rfl dX8_says_33 ?_
      refine j_if_lt (tgt := 65) (pc := 34) hk (by decide) dX8_says_34 (fun _ => ?_) (fun _ => ?_)
      · exact j_sub hk [0, 2, 3] rfl (T8_says_65 hk p2 x5 st4)
      · refine j_aload_n (pc := 37) hk 0 rfl ⟨_, rfl⟩ dX8_says_37 ?_
        refine j_iload_n (pc := 38) hk 1 rfl dX8_says_38 ?_
        refine j_callVi (pc := 39) hk [.int p1] [] rfl (fun l o hq9 => C8_isRow p1 st4 l o hq9) (rcv_8 (rfl)) yv_X8_isRow ml_8_92 rfl (Nat.le_of_ble_eq_true rfl) (Nat.le_of_ble_eq_true rfl) (Nat.le_of_ble_eq_true rfl) dX8_says_39 (fun x6 st7 => ?_)
        refine j_if_ne (tgt := 58) (pc := 42) hk (by decide) dX8_says_42 (fun _ => ?_) (fun _ => ?_)
        · refine j_aload_n (pc := 45) hk 0 rfl ⟨_, rfl⟩ dX8_says_45 ?_
          refine f_8_7 (pc := 46) hk (rfl) dX8_says_46 ?_
          refine j_iload_n (pc := 49) hk 3 rfl dX8_says_49 ?_
          refine a_iload (pc := 50) hk (isI_8_1) dX8_says_50 (fun x8 => ?_)
          refine j_iload_n (pc := 51) hk 2 rfl dX8_says_51 ?_
          refine j_callSi (pc := 52) hk [.int x8, .int p2] [] rfl (fun l o hq9 => C8_isUnder x8 p2 st7 l o hq9) yv_X8_isUnder ml_8_108 rfl (Nat.le_of_ble_eq_true rfl) (Nat.le_of_ble_eq_true rfl) (Nat.le_of_ble_eq_true rfl) dX8_says_52 (fun x9 st10 => ?_)
          refine j_if_ne (tgt := 65) (pc := 55) hk (by decide) dX8_says_55 (fun _ => ?_) (fun _ => ?_)
          · exact j_sub hk [0] rfl (T8_says_58 hk st10)
          · exact j_sub hk [0, 2, 3] rfl (T8_says_65 hk p2 x5 st10)
        · exact j_sub hk [0] rfl (T8_says_58 hk st7)
theorem dX8_newBird_0 : decode cX8_newBird 0 = .ok (.aload_n 0, 1) := by decide +kernel
theorem dX8_newBird_1 : decode cX8_newBird 1 = .ok (.getfield 7, 3) := by decide +kernel
theorem dX8_newBird_4 : decode cX8_newBird 4 = .ok (.aload_n 0, 1) := by decide +kernel
theorem dX8_newBird_5 : decode cX8_newBird 5 = .ok (.getfield 85, 3) := by decide +kernel
theorem dX8_newBird_8 : decode cX8_newBird 8 = .ok (.iload_n 1, 1) := by decide +kernel
theorem dX8_newBird_9 : decode cX8_newBird 9 = .ok (.iastore, 1) := by decide +kernel
theorem dX8_newBird_10 : decode cX8_newBird 10 = .ok (.aload_n 0, 1) := by decide +kernel
theorem dX8_newBird_11 : decode cX8_newBird 11 = .ok (.getfield 13, 3) := by decide +kernel
theorem dX8_newBird_14 : decode cX8_newBird 14 = .ok (.aload_n 0, 1) := by decide +kernel
theorem dX8_newBird_15 : decode cX8_newBird 15 = .ok (.getfield 85, 3) := by decide +kernel
theorem dX8_newBird_18 : decode cX8_newBird 18 = .ok (.iload_n 2, 1) := by decide +kernel
theorem dX8_newBird_19 : decode cX8_newBird 19 = .ok (.iastore, 1) := by decide +kernel
theorem dX8_newBird_20 : decode cX8_newBird 20 = .ok (.aload_n 0, 1) := by decide +kernel
theorem dX8_newBird_21 : decode cX8_newBird 21 = .ok (.getfield 16, 3) := by decide +kernel
theorem dX8_newBird_24 : decode cX8_newBird 24 = .ok (.aload_n 0, 1) := by decide +kernel
theorem dX8_newBird_25 : decode cX8_newBird 25 = .ok (.getfield 85, 3) := by decide +kernel
theorem dX8_newBird_28 : decode cX8_newBird 28 = .ok (.iload_n 3, 1) := by decide +kernel
theorem dX8_newBird_29 : decode cX8_newBird 29 = .ok (.iastore, 1) := by decide +kernel
theorem dX8_newBird_30 : decode cX8_newBird 30 = .ok (.aload_n 0, 1) := by decide +kernel
theorem dX8_newBird_31 : decode cX8_newBird 31 = .ok (.dup, 1) := by decide +kernel
theorem dX8_newBird_32 : decode cX8_newBird 32 = .ok (.getfield 85, 3) := by decide +kernel
theorem dX8_newBird_35 : decode cX8_newBird 35 = .ok (.dup_x1, 1) := by decide +kernel
theorem dX8_newBird_36 : decode cX8_newBird 36 = .ok (.iconst 1, 1) := by decide +kernel
theorem dX8_newBird_37 : decode cX8_newBird 37 = .ok (.iadd, 1) := by decide +kernel
theorem dX8_newBird_38 : decode cX8_newBird 38 = .ok (.putfield 85, 3) := by decide +kernel
theorem dX8_newBird_41 : decode cX8_newBird 41 = .ok (.ireturn, 1) := by decide +kernel
def F8_newBird (p1 : Int32) (p2 : Int32) (p3 : Int32) (st : fkS) : Option (Int32 × fkS) :=
 fk_let (gI st 0 0) <| fun x1 =>
 fk_chk (fk_in x1 7) <| fk_let (sA st 1 x1.toNatClampNeg p1) <| fun st2 =>
 fk_let (gI st2 0 0) <| fun x3 =>
 fk_chk (fk_in x3 7) <| fk_let (sA st2 2 x3.toNatClampNeg p2) <| fun st4 =>
 fk_let (gI st4 0 0) <| fun x5 =>
 fk_chk (fk_in x5 7) <| fk_let (sA st4 3 x5.toNatClampNeg p3) <| fun st6 =>
 fk_let (gI st6 0 0) <| fun x7 =>
 fk_let (sI st6 0 0 (x7 + (1 : Int32))) <| fun st8 =>
 some (x7, st8)
set_option maxHeartbeats 1000000 in
set_option maxRecDepth 20000 in
theorem C8_newBird (p1 : Int32) (p2 : Int32) (p3 : Int32) (st : fkS) {g : fkG} (l : Launch) (o : Int32 × fkS) (hF : F8_newBird p1 p2 p3 st = some o) : fk_C wM yX8_newBird cX8_newBird 4 (some (.int)) 0 0 l g [fk_r g 0, .int p1, .int p2, .int p3] st (fk_eI o.1) o.2 := by
  refine fk_begin rfl (Nat.le_of_ble_eq_true rfl) (fun k hk => ?_) o hF
  have hk : fk_ok wM g k RX8 cX8_newBird 4 (some (.int)) 0 0 := hk
  show fk_J wM g fk_eI k 0 [(0, fk_r g 0), (1, .int p1), (2, .int p2), (3, .int p3)] [] st (F8_newBird p1 p2 p3 st)
  unfold F8_newBird
  refine j_aload_n (pc := 0) hk 0 rfl ⟨_, rfl⟩ dX8_newBird_0 ?_
  refine f_8_7 (pc := 1) hk (rfl) dX8_newBird_1 ?_
  refine j_aload_n (pc := 4) hk 0 rfl ⟨_, rfl⟩ dX8_newBird_4 ?_
  refine f_8_85 (pc := 5) hk (rfl) dX8_newBird_5 (fun x1 => ?_)
  refine j_iload_n (pc := 8) hk 1 rfl dX8_newBird_8 ?_
  refine a_istore (pc := 9) hk (isI_8_1) dX8_newBird_9 (fun st2 => ?_)
  refine j_aload_n (pc := 10) hk 0 rfl ⟨_, rfl⟩ dX8_newBird_10 ?_
  refine f_8_13 (pc := 11) hk (rfl) dX8_newBird_11 ?_
  refine j_aload_n (pc := 14) hk 0 rfl ⟨_, rfl⟩ dX8_newBird_14 ?_
  refine f_8_85 (pc := 15) hk (rfl) dX8_newBird_15 (fun x3 => ?_)
  refine j_iload_n (pc := 18) hk 2 rfl dX8_newBird_18 ?_
  refine a_istore (pc := 19) hk (isI_8_2) dX8_newBird_19 (fun st4 => ?_)
  refine j_aload_n (pc := 20) hk 0 rfl ⟨_, rfl⟩ dX8_newBird_20 ?_
  refine f_8_16 (pc := 21) hk (rfl) dX8_newBird_21 ?_
  refine j_aload_n (pc := 24) hk 0 rfl ⟨_, rfl⟩ dX8_newBird_24 ?_
  refine f_8_85 (pc := 25) hk (rfl) dX8_newBird_25 (fun x5 => ?_)
  refine j_iload_n (pc := 28) hk 3 rfl dX8_newBird_28 ?_
  refine a_istore (pc := 29) hk (isI_8_3) dX8_newBird_29 (fun st6 => ?_)
  refine j_aload_n (pc := 30) hk 0 rfl ⟨_, rfl⟩ dX8_newBird_30 ?_
  refine j_dup (pc := 31) hk rfl dX8_newBird_31 ?_
  refine f_8_85 (pc := 32) hk (rfl) dX8_newBird_32 (fun x7 => ?_)
  refine j_dup_x1 (pc := 35) hk rfl rfl dX8_newBird_35 ?_
  refine j_iconst (pc := 36) hk dX8_newBird_36 (v := 1) (by decide) ?_
  refine j_iadd (pc := 37) hk dX8_newBird_37 ?_
  refine p_8_85 (pc := 38) hk (rfl) dX8_newBird_38 (fun st8 => ?_)
  exact j_iret (pc := 41) hk dX8_newBird_41
theorem dX8_bird_0 : decode cX8_bird 0 = .ok (.iload_n 1, 1) := by decide +kernel
theorem dX8_bird_1 : decode cX8_bird 1 = .ok (.iconst 0, 1) := by decide +kernel
theorem dX8_bird_2 : decode cX8_bird 2 = .ok (.bipush 6, 2) := by decide +kernel
theorem dX8_bird_4 : decode cX8_bird 4 = .ok (.invokestatic 88, 3) := by decide +kernel
theorem dX8_bird_7 : decode cX8_bird 7 = .ok (.ifCond .ne 9, 3) := by decide +kernel
theorem dX8_bird_10 : decode cX8_bird 10 = .ok (.aload_n 0, 1) := by decide +kernel
theorem dX8_bird_11 : decode cX8_bird 11 = .ok (.iconst (-1), 1) := by decide +kernel
theorem dX8_bird_12 : decode cX8_bird 12 = .ok (.invokevirtual 81, 3) := by decide +kernel
theorem dX8_bird_15 : decode cX8_bird 15 = .ok (.ireturn, 1) := by decide +kernel
theorem dX8_bird_16 : decode cX8_bird 16 = .ok (.iload_n 2, 1) := by decide +kernel
theorem dX8_bird_17 : decode cX8_bird 17 = .ok (.iconst 0, 1) := by decide +kernel
theorem dX8_bird_18 : decode cX8_bird 18 = .ok (.bipush 9, 2) := by decide +kernel
theorem dX8_bird_20 : decode cX8_bird 20 = .ok (.invokestatic 88, 3) := by decide +kernel
theorem dX8_bird_23 : decode cX8_bird 23 = .ok (.ifCond .eq 13, 3) := by decide +kernel
theorem dX8_bird_26 : decode cX8_bird 26 = .ok (.iload_n 3, 1) := by decide +kernel
theorem dX8_bird_27 : decode cX8_bird 27 = .ok (.iconst 0, 1) := by decide +kernel
theorem dX8_bird_28 : decode cX8_bird 28 = .ok (.bipush 19, 2) := by decide +kernel
theorem dX8_bird_30 : decode cX8_bird 30 = .ok (.invokestatic 88, 3) := by decide +kernel
theorem dX8_bird_33 : decode cX8_bird 33 = .ok (.ifCond .ne 10, 3) := by decide +kernel
theorem dX8_bird_36 : decode cX8_bird 36 = .ok (.aload_n 0, 1) := by decide +kernel
theorem dX8_bird_37 : decode cX8_bird 37 = .ok (.bipush (-6), 2) := by decide +kernel
theorem dX8_bird_39 : decode cX8_bird 39 = .ok (.invokevirtual 81, 3) := by decide +kernel
theorem dX8_bird_42 : decode cX8_bird 42 = .ok (.ireturn, 1) := by decide +kernel
theorem dX8_bird_43 : decode cX8_bird 43 = .ok (.aload_n 0, 1) := by decide +kernel
theorem dX8_bird_44 : decode cX8_bird 44 = .ok (.getfield 85, 3) := by decide +kernel
theorem dX8_bird_47 : decode cX8_bird 47 = .ok (.bipush 7, 2) := by decide +kernel
theorem dX8_bird_49 : decode cX8_bird 49 = .ok (.if_icmp .ne 12, 3) := by decide +kernel
theorem dX8_bird_52 : decode cX8_bird 52 = .ok (.aload_n 0, 1) := by decide +kernel
theorem dX8_bird_53 : decode cX8_bird 53 = .ok (.bipush (-7), 2) := by decide +kernel
theorem dX8_bird_55 : decode cX8_bird 55 = .ok (.invokevirtual 81, 3) := by decide +kernel
theorem dX8_bird_58 : decode cX8_bird 58 = .ok (.goto 10, 3) := by decide +kernel
theorem dX8_bird_61 : decode cX8_bird 61 = .ok (.aload_n 0, 1) := by decide +kernel
theorem dX8_bird_62 : decode cX8_bird 62 = .ok (.iload_n 1, 1) := by decide +kernel
theorem dX8_bird_63 : decode cX8_bird 63 = .ok (.iload_n 2, 1) := by decide +kernel
theorem dX8_bird_64 : decode cX8_bird 64 = .ok (.iload_n 3, 1) := by decide +kernel
theorem dX8_bird_65 : decode cX8_bird 65 = .ok (.invokevirtual 122, 3) := by decide +kernel
theorem dX8_bird_68 : decode cX8_bird 68 = .ok (.ireturn, 1) := by decide +kernel
def B8_bird_36 (st : fkS) : Option (Int32 × fkS) :=
 fk_bind (F8_no (-6 : Int32) st) <| fun x14 st15 =>
 some (x14, st15)
set_option maxHeartbeats 1000000 in
set_option maxRecDepth 20000 in
theorem T8_bird_36 {g : fkG} {k : fkK} (hk : fk_ok wM g k RX8 cX8_bird 4 (some (.int)) 1 23) : ∀ (st : fkS), fk_J wM g fk_eI k 36 [(0, fk_r g 0)] [] st (B8_bird_36 st) := by
  intro st
  unfold B8_bird_36
  refine j_aload_n (pc := 36) hk 0 rfl ⟨_, rfl⟩ dX8_bird_36 ?_
  refine j_bipush (pc := 37) hk dX8_bird_37 (v := -6) (by decide) ?_
  refine j_callVi (pc := 39) hk [.int (-6 : Int32)] [] rfl (fun l o hq9 => C8_no (-6 : Int32) st l o hq9) (rcv_8 (rfl)) yv_X8_no ml_8_81 rfl (Nat.le_of_ble_eq_true rfl) (Nat.le_of_ble_eq_true rfl) (Nat.le_of_ble_eq_true rfl) dX8_bird_39 (fun x14 st15 => ?_)
  exact j_iret (pc := 42) hk dX8_bird_42
def F8_bird (p1 : Int32) (p2 : Int32) (p3 : Int32) (st : fkS) : Option (Int32 × fkS) :=
 fk_bind (F8_within p1 (0 : Int32) (6 : Int32) st) <| fun x1 st2 =>
 if x1 = 0 then
 (fk_bind (F8_no (-1 : Int32) st2) <| fun x3 st4 =>
 some (x3, st4))
 else
 (fk_bind (F8_within p2 (0 : Int32) (9 : Int32) st2) <| fun x5 st6 =>
 if x5 = 0 then
 (B8_bird_36 st6)
 else
 (fk_bind (F8_within p3 (0 : Int32) (19 : Int32) st6) <| fun x7 st8 =>
 if x7 = 0 then
 (B8_bird_36 st8)
 else
 (fk_let (gI st8 0 0) <| fun x9 =>
 if x9 = (7 : Int32) then
 (fk_bind (F8_no (-7 : Int32) st8) <| fun x10 st11 =>
 some (x10, st11))
 else
 (fk_bind (F8_newBird p1 p2 p3 st8) <| fun x12 st13 =>
 some (x12, st13)))))
set_option maxHeartbeats 1000000 in
set_option maxRecDepth 20000 in
theorem C8_bird (p1 : Int32) (p2 : Int32) (p3 : Int32) (st : fkS) {g : fkG} (l : Launch) (o : Int32 × fkS) (hF : F8_bird p1 p2 p3 st = some o) : fk_C wM yX8_bird cX8_bird 4 (some (.int)) 1 23 l g [fk_r g 0, .int p1, .int p2, .int p3] st (fk_eI o.1) o.2 := by
  refine fk_begin rfl (Nat.le_of_ble_eq_true rfl) (fun k hk => ?_) o hF
  have hk : fk_ok wM g k RX8 cX8_bird 4 (some (.int)) 1 23 := hk
  show fk_J wM g fk_eI k 0 [(0, fk_r g 0), (1, .int p1), (2, .int p2), (3, .int p3)] [] st (F8_bird p1 p2 p3 st)
  unfold F8_bird
  refine j_iload_n (pc := 0) hk 1 rfl dX8_bird_0 ?_
  refine j_iconst (pc := 1) hk dX8_bird_1 (v := 0) (by decide) ?_
  refine j_bipush (pc := 2) hk dX8_bird_2 (v := 6) (by decide) ?_
  refine j_callSi (pc := 4) hk [.int p1, .int (0 : Int32), .int (6 : Int32)] [] rfl (fun l o hq9 => C8_within p1 (0 : Int32) (6 : Int32) st l o hq9) yv_X8_within ml_8_88 rfl (Nat.le_of_ble_eq_true rfl) (Nat.le_of_ble_eq_true rfl) (Nat.le_of_ble_eq_true rfl) dX8_bird_4 (fun x1 st2 => ?_)
  refine j_if_ne (tgt := 16) (pc := 7) hk (by decide) dX8_bird_7 (fun _ => ?_) (fun _ => ?_)
  · refine j_aload_n (pc := 10) hk 0 rfl ⟨_, rfl⟩ dX8_bird_10 ?_
    refine j_iconst (pc := 11) hk dX8_bird_11 (v := -1) (by decide) ?_
    refine j_callVi (pc := 12) hk [.int (-1 : Int32)] [] rfl (fun l o hq9 => C8_no (-1 : Int32) st2 l o hq9) (rcv_8 (rfl)) yv_X8_no ml_8_81 rfl (Nat.le_of_ble_eq_true rfl) (Nat.le_of_ble_eq_true rfl) (Nat.le_of_ble_eq_true rfl) dX8_bird_12 (fun x3 st4 => ?_)
    exact j_iret (pc := 15) hk dX8_bird_15
  · refine j_iload_n (pc := 16) hk 2 rfl dX8_bird_16 ?_
    refine j_iconst (pc := 17) hk dX8_bird_17 (v := 0) (by decide) ?_
    refine j_bipush (pc := 18) hk dX8_bird_18 (v := 9) (by decide) ?_
    refine j_callSi (pc := 20) hk [.int p2, .int (0 : Int32), .int (9 : Int32)] [] rfl (fun l o hq9 => C8_within p2 (0 : Int32) (9 : Int32) st2 l o hq9) yv_X8_within ml_8_88 rfl (Nat.le_of_ble_eq_true rfl) (Nat.le_of_ble_eq_true rfl) (Nat.le_of_ble_eq_true rfl) dX8_bird_20 (fun x5 st6 => ?_)
    refine j_if_eq (tgt := 36) (pc := 23) hk (by decide) dX8_bird_23 (fun _ => ?_) (fun _ => ?_)
    · exact j_sub hk [0] rfl (T8_bird_36 hk st6)
    · refine j_iload_n (pc := 26) hk 3 rfl dX8_bird_26 ?_
      refine j_iconst (pc := 27) hk dX8_bird_27 (v := 0) (by decide) ?_
      refine j_bipush (pc := 28) hk dX8_bird_28 (v := 19) (by decide) ?_
      refine j_callSi (pc := 30) hk [.int p3, .int (0 : Int32), .int (19 : Int32)] [] rfl (fun l o hq9 => C8_within p3 (0 : Int32) (19 : Int32) st6 l o hq9) yv_X8_within ml_8_88 rfl (Nat.le_of_ble_eq_true rfl) (Nat.le_of_ble_eq_true rfl) (Nat.le_of_ble_eq_true rfl) dX8_bird_30 (fun x7 st8 => ?_)
      refine j_if_ne (tgt := 43) (pc := 33) hk (by decide) dX8_bird_33 (fun _ => ?_) (fun _ => ?_)
      · exact j_sub hk [0] rfl (T8_bird_36 hk st8)
      · refine j_aload_n (pc := 43) hk 0 rfl ⟨_, rfl⟩ dX8_bird_43 ?_
        refine f_8_85 (pc := 44) hk (rfl) dX8_bird_44 (fun x9 => ?_)
        refine j_bipush (pc := 47) hk dX8_bird_47 (v := 7) (by decide) ?_
        refine j_icmp_ne (tgt := 61) (pc := 49) hk (by decide) dX8_bird_49 (fun _ => ?_) (fun _ => ?_)
        · refine j_aload_n (pc := 52) hk 0 rfl ⟨_, rfl⟩ dX8_bird_52 ?_
          refine j_bipush (pc := 53) hk dX8_bird_53 (v := -7) (by decide) ?_
          refine j_callVi (pc := 55) hk [.int (-7 : Int32)] [] rfl (fun l o hq9 => C8_no (-7 : Int32) st8 l o hq9) (rcv_8 (rfl)) yv_X8_no ml_8_81 rfl (Nat.le_of_ble_eq_true rfl) (Nat.le_of_ble_eq_true rfl) (Nat.le_of_ble_eq_true rfl) dX8_bird_55 (fun x10 st11 => ?_)
          refine j_goto (tgt := 68) (pc := 58) hk (by decide) dX8_bird_58 ?_
          exact j_iret (pc := 68) hk dX8_bird_68
        · refine j_aload_n (pc := 61) hk 0 rfl ⟨_, rfl⟩ dX8_bird_61 ?_
          refine j_iload_n (pc := 62) hk 1 rfl dX8_bird_62 ?_
          refine j_iload_n (pc := 63) hk 2 rfl dX8_bird_63 ?_
          refine j_iload_n (pc := 64) hk 3 rfl dX8_bird_64 ?_
          refine j_callVi (pc := 65) hk [.int p1, .int p2, .int p3] [] rfl (fun l o hq9 => C8_newBird p1 p2 p3 st8 l o hq9) (rcv_8 (rfl)) yv_X8_newBird ml_8_122 rfl (Nat.le_of_ble_eq_true rfl) (Nat.le_of_ble_eq_true rfl) (Nat.le_of_ble_eq_true rfl) dX8_bird_65 (fun x12 st13 => ?_)
          exact j_iret (pc := 68) hk dX8_bird_68
theorem dX8_ask_0 : decode cX8_ask 0 = .ok (.iload_n 1, 1) := by decide +kernel
theorem dX8_ask_1 : decode cX8_ask 1 = .ok (.iconst 0, 1) := by decide +kernel
theorem dX8_ask_2 : decode cX8_ask 2 = .ok (.iconst 2, 1) := by decide +kernel
theorem dX8_ask_3 : decode cX8_ask 3 = .ok (.invokestatic 88, 3) := by decide +kernel
theorem dX8_ask_6 : decode cX8_ask 6 = .ok (.ifCond .eq 33, 3) := by decide +kernel
theorem dX8_ask_9 : decode cX8_ask 9 = .ok (.iload_n 2, 1) := by decide +kernel
theorem dX8_ask_10 : decode cX8_ask 10 = .ok (.iconst 0, 1) := by decide +kernel
theorem dX8_ask_11 : decode cX8_ask 11 = .ok (.iload_n 1, 1) := by decide +kernel
theorem dX8_ask_12 : decode cX8_ask 12 = .ok (.ifCond .ne 8, 3) := by decide +kernel
theorem dX8_ask_15 : decode cX8_ask 15 = .ok (.bipush 9, 2) := by decide +kernel
theorem dX8_ask_17 : decode cX8_ask 17 = .ok (.goto 16, 3) := by decide +kernel
theorem dX8_ask_20 : decode cX8_ask 20 = .ok (.iload_n 1, 1) := by decide +kernel
theorem dX8_ask_21 : decode cX8_ask 21 = .ok (.iconst 1, 1) := by decide +kernel
theorem dX8_ask_22 : decode cX8_ask 22 = .ok (.if_icmp .ne 8, 3) := by decide +kernel
theorem dX8_ask_25 : decode cX8_ask 25 = .ok (.bipush 7, 2) := by decide +kernel
theorem dX8_ask_27 : decode cX8_ask 27 = .ok (.goto 6, 3) := by decide +kernel
theorem dX8_ask_30 : decode cX8_ask 30 = .ok (.sipush 255, 3) := by decide +kernel
theorem dX8_ask_33 : decode cX8_ask 33 = .ok (.invokestatic 88, 3) := by decide +kernel
theorem dX8_ask_36 : decode cX8_ask 36 = .ok (.ifCond .ne 10, 3) := by decide +kernel
theorem dX8_ask_39 : decode cX8_ask 39 = .ok (.aload_n 0, 1) := by decide +kernel
theorem dX8_ask_40 : decode cX8_ask 40 = .ok (.bipush (-6), 2) := by decide +kernel
theorem dX8_ask_42 : decode cX8_ask 42 = .ok (.invokevirtual 81, 3) := by decide +kernel
theorem dX8_ask_45 : decode cX8_ask 45 = .ok (.ireturn, 1) := by decide +kernel
theorem dX8_ask_46 : decode cX8_ask 46 = .ok (.aload_n 0, 1) := by decide +kernel
theorem dX8_ask_47 : decode cX8_ask 47 = .ok (.getfield 19, 3) := by decide +kernel
theorem dX8_ask_50 : decode cX8_ask 50 = .ok (.iload_n 1, 1) := by decide +kernel
theorem dX8_ask_51 : decode cX8_ask 51 = .ok (.iaload, 1) := by decide +kernel
theorem dX8_ask_52 : decode cX8_ask 52 = .ok (.istore_n 3, 1) := by decide +kernel
theorem dX8_ask_53 : decode cX8_ask 53 = .ok (.aload_n 0, 1) := by decide +kernel
theorem dX8_ask_54 : decode cX8_ask 54 = .ok (.getfield 19, 3) := by decide +kernel
theorem dX8_ask_57 : decode cX8_ask 57 = .ok (.iload_n 1, 1) := by decide +kernel
theorem dX8_ask_58 : decode cX8_ask 58 = .ok (.iload_n 2, 1) := by decide +kernel
theorem dX8_ask_59 : decode cX8_ask 59 = .ok (.iastore, 1) := by decide +kernel
theorem dX8_ask_60 : decode cX8_ask 60 = .ok (.iload_n 3, 1) := by decide +kernel
theorem dX8_ask_61 : decode cX8_ask 61 = .ok (.ireturn, 1) := by decide +kernel
def B8_ask_39 (st : fkS) : Option (Int32 × fkS) :=
 fk_bind (F8_no (-6 : Int32) st) <| fun x3 st4 =>
 some (x3, st4)
set_option maxHeartbeats 1000000 in
set_option maxRecDepth 20000 in
theorem T8_ask_39 {g : fkG} {k : fkK} (hk : fk_ok wM g k RX8 cX8_ask 4 (some (.int)) 1 22) : ∀ (st : fkS), fk_J wM g fk_eI k 39 [(0, fk_r g 0)] [] st (B8_ask_39 st) := by
  intro st
  unfold B8_ask_39
  refine j_aload_n (pc := 39) hk 0 rfl ⟨_, rfl⟩ dX8_ask_39 ?_
  refine j_bipush (pc := 40) hk dX8_ask_40 (v := -6) (by decide) ?_
  refine j_callVi (pc := 42) hk [.int (-6 : Int32)] [] rfl (fun l o hq9 => C8_no (-6 : Int32) st l o hq9) (rcv_8 (rfl)) yv_X8_no ml_8_81 rfl (Nat.le_of_ble_eq_true rfl) (Nat.le_of_ble_eq_true rfl) (Nat.le_of_ble_eq_true rfl) dX8_ask_42 (fun x3 st4 => ?_)
  exact j_iret (pc := 45) hk dX8_ask_45
def B8_ask_33 (v1 : Int32) (v2 : Int32) (s0 : Int32) (s1 : Int32) (s2 : Int32) (st : fkS) : Option (Int32 × fkS) :=
 fk_bind (F8_within s0 s1 s2 st) <| fun x5 st6 =>
 if x5 = 0 then
 (B8_ask_39 st6)
 else
 (fk_chk (fk_in v1 3) <| fk_let (gA st6 4 v1.toNatClampNeg) <| fun x7 =>
 fk_chk (fk_in v1 3) <| fk_let (sA st6 4 v1.toNatClampNeg v2) <| fun st8 =>
 some (x7, st8))
set_option maxHeartbeats 1000000 in
set_option maxRecDepth 20000 in
theorem T8_ask_33 {g : fkG} {k : fkK} (hk : fk_ok wM g k RX8 cX8_ask 4 (some (.int)) 1 22) : ∀ (v1 : Int32) (v2 : Int32) (s0 : Int32) (s1 : Int32) (s2 : Int32) (st : fkS), fk_J wM g fk_eI k 33 [(0, fk_r g 0), (1, .int v1), (2, .int v2)] [.int s2, .int s1, .int s0] st (B8_ask_33 v1 v2 s0 s1 s2 st) := by
  intro v1 v2 s0 s1 s2 st
  unfold B8_ask_33
  refine j_callSi (pc := 33) hk [.int s0, .int s1, .int s2] [] rfl (fun l o hq9 => C8_within s0 s1 s2 st l o hq9) yv_X8_within ml_8_88 rfl (Nat.le_of_ble_eq_true rfl) (Nat.le_of_ble_eq_true rfl) (Nat.le_of_ble_eq_true rfl) dX8_ask_33 (fun x5 st6 => ?_)
  refine j_if_ne (tgt := 46) (pc := 36) hk (by decide) dX8_ask_36 (fun _ => ?_) (fun _ => ?_)
  · exact j_sub hk [0] rfl (T8_ask_39 hk st6)
  · refine j_aload_n (pc := 46) hk 0 rfl ⟨_, rfl⟩ dX8_ask_46 ?_
    refine f_8_19 (pc := 47) hk (rfl) dX8_ask_47 ?_
    refine j_iload_n (pc := 50) hk 1 rfl dX8_ask_50 ?_
    refine a_iload (pc := 51) hk (isI_8_4) dX8_ask_51 (fun x7 => ?_)
    refine j_istore_n (lv' := ((3, .int x7) :: [(0, fk_r g 0), (1, .int v1), (2, .int v2)])) (pc := 52) hk rfl (by decide) rfl dX8_ask_52 ?_
    refine j_sub hk (lv' := [(0, fk_r g 0), (1, .int v1), (2, .int v2), (3, .int x7)]) [1, 2, 3, 0] rfl ?_
    refine j_aload_n (pc := 53) hk 0 rfl ⟨_, rfl⟩ dX8_ask_53 ?_
    refine f_8_19 (pc := 54) hk (rfl) dX8_ask_54 ?_
    refine j_iload_n (pc := 57) hk 1 rfl dX8_ask_57 ?_
    refine j_iload_n (pc := 58) hk 2 rfl dX8_ask_58 ?_
    refine a_istore (pc := 59) hk (isI_8_4) dX8_ask_59 (fun st8 => ?_)
    refine j_iload_n (pc := 60) hk 3 rfl dX8_ask_60 ?_
    exact j_iret (pc := 61) hk dX8_ask_61
def F8_ask (p1 : Int32) (p2 : Int32) (st : fkS) : Option (Int32 × fkS) :=
 fk_bind (F8_within p1 (0 : Int32) (2 : Int32) st) <| fun x1 st2 =>
 if x1 = 0 then
 (B8_ask_39 st2)
 else
 (if p1 = 0 then
 (B8_ask_33 p1 p2 p2 (0 : Int32) (9 : Int32) st2)
 else
 (if p1 = (1 : Int32) then
 (B8_ask_33 p1 p2 p2 (0 : Int32) (7 : Int32) st2)
 else
 (B8_ask_33 p1 p2 p2 (0 : Int32) (255 : Int32) st2)))
set_option maxHeartbeats 1000000 in
set_option maxRecDepth 20000 in
theorem C8_ask (p1 : Int32) (p2 : Int32) (st : fkS) {g : fkG} (l : Launch) (o : Int32 × fkS) (hF : F8_ask p1 p2 st = some o) : fk_C wM yX8_ask cX8_ask 4 (some (.int)) 1 22 l g [fk_r g 0, .int p1, .int p2] st (fk_eI o.1) o.2 := by
  refine fk_begin rfl (Nat.le_of_ble_eq_true rfl) (fun k hk => ?_) o hF
  have hk : fk_ok wM g k RX8 cX8_ask 4 (some (.int)) 1 22 := hk
  show fk_J wM g fk_eI k 0 [(0, fk_r g 0), (1, .int p1), (2, .int p2)] [] st (F8_ask p1 p2 st)
  unfold F8_ask
  refine j_iload_n (pc := 0) hk 1 rfl dX8_ask_0 ?_
  refine j_iconst (pc := 1) hk dX8_ask_1 (v := 0) (by decide) ?_
  refine j_iconst (pc := 2) hk dX8_ask_2 (v := 2) (by decide) ?_
  refine j_callSi (pc := 3) hk [.int p1, .int (0 : Int32), .int (2 : Int32)] [] rfl (fun l o hq9 => C8_within p1 (0 : Int32) (2 : Int32) st l o hq9) yv_X8_within ml_8_88 rfl (Nat.le_of_ble_eq_true rfl) (Nat.le_of_ble_eq_true rfl) (Nat.le_of_ble_eq_true rfl) dX8_ask_3 (fun x1 st2 => ?_)
  refine j_if_eq (tgt := 39) (pc := 6) hk (by decide) dX8_ask_6 (fun _ => ?_) (fun _ => ?_)
  · exact j_sub hk [0] rfl (T8_ask_39 hk st2)
  · refine j_iload_n (pc := 9) hk 2 rfl dX8_ask_9 ?_
    refine j_iconst (pc := 10) hk dX8_ask_10 (v := 0) (by decide) ?_
    refine j_iload_n (pc := 11) hk 1 rfl dX8_ask_11 ?_
    refine j_if_ne (tgt := 20) (pc := 12) hk (by decide) dX8_ask_12 (fun _ => ?_) (fun _ => ?_)
    · refine j_bipush (pc := 15) hk dX8_ask_15 (v := 9) (by decide) ?_
      refine j_goto (tgt := 33) (pc := 17) hk (by decide) dX8_ask_17 ?_
      exact j_sub hk [0, 1, 2] rfl (T8_ask_33 hk p1 p2 p2 (0 : Int32) (9 : Int32) st2)
    · refine j_iload_n (pc := 20) hk 1 rfl dX8_ask_20 ?_
      refine j_iconst (pc := 21) hk dX8_ask_21 (v := 1) (by decide) ?_
      refine j_icmp_ne (tgt := 30) (pc := 22) hk (by decide) dX8_ask_22 (fun _ => ?_) (fun _ => ?_)
      · refine j_bipush (pc := 25) hk dX8_ask_25 (v := 7) (by decide) ?_
        refine j_goto (tgt := 33) (pc := 27) hk (by decide) dX8_ask_27 ?_
        exact j_sub hk [0, 1, 2] rfl (T8_ask_33 hk p1 p2 p2 (0 : Int32) (7 : Int32) st2)
      · refine j_sipush (pc := 30) hk dX8_ask_30 (v := 255) (by decide) ?_
        exact j_sub hk [0, 1, 2] rfl (T8_ask_33 hk p1 p2 p2 (0 : Int32) (255 : Int32) st2)
theorem dX8_isPart_0 : decode cX8_isPart 0 = .ok (.iload_n 0, 1) := by decide +kernel
theorem dX8_isPart_1 : decode cX8_isPart 1 = .ok (.invokestatic 126, 3) := by decide +kernel
theorem dX8_isPart_4 : decode cX8_isPart 4 = .ok (.ifCond .eq 16, 3) := by decide +kernel
theorem dX8_isPart_7 : decode cX8_isPart 7 = .ok (.iload_n 1, 1) := by decide +kernel
theorem dX8_isPart_8 : decode cX8_isPart 8 = .ok (.iconst 0, 1) := by decide +kernel
theorem dX8_isPart_9 : decode cX8_isPart 9 = .ok (.iconst 4, 1) := by decide +kernel
theorem dX8_isPart_10 : decode cX8_isPart 10 = .ok (.invokestatic 88, 3) := by decide +kernel
theorem dX8_isPart_13 : decode cX8_isPart 13 = .ok (.ifCond .eq 7, 3) := by decide +kernel
theorem dX8_isPart_16 : decode cX8_isPart 16 = .ok (.iconst 1, 1) := by decide +kernel
theorem dX8_isPart_17 : decode cX8_isPart 17 = .ok (.goto 4, 3) := by decide +kernel
theorem dX8_isPart_20 : decode cX8_isPart 20 = .ok (.iconst 0, 1) := by decide +kernel
theorem dX8_isPart_21 : decode cX8_isPart 21 = .ok (.ireturn, 1) := by decide +kernel
def F8_isPart (p0 : Int32) (p1 : Int32) (st : fkS) : Option (Int32 × fkS) :=
 fk_bind (F8_isState p0 st) <| fun x1 st2 =>
 if x1 = 0 then
 (some ((0 : Int32), st2))
 else
 (fk_bind (F8_within p1 (0 : Int32) (4 : Int32) st2) <| fun x3 st4 =>
 if x3 = 0 then
 (some ((0 : Int32), st4))
 else
 (some ((1 : Int32), st4)))
set_option maxHeartbeats 1000000 in
set_option maxRecDepth 20000 in
theorem C8_isPart (p0 : Int32) (p1 : Int32) (st : fkS) {g : fkG} (l : Launch) (o : Int32 × fkS) (hF : F8_isPart p0 p1 st = some o) : fk_C wM yX8_isPart cX8_isPart 2 (some (.boolean)) 2 42 l g [.int p0, .int p1] st (fk_eI o.1) o.2 := by
  refine fk_begin rfl (Nat.le_of_ble_eq_true rfl) (fun k hk => ?_) o hF
  have hk : fk_ok wM g k RX8 cX8_isPart 2 (some (.boolean)) 2 42 := hk
  show fk_J wM g fk_eI k 0 [(0, .int p0), (1, .int p1)] [] st (F8_isPart p0 p1 st)
  unfold F8_isPart
  refine j_iload_n (pc := 0) hk 0 rfl dX8_isPart_0 ?_
  refine j_callSi (pc := 1) hk [.int p0] [] rfl (fun l o hq9 => C8_isState p0 st l o hq9) yv_X8_isState ml_8_126 rfl (Nat.le_of_ble_eq_true rfl) (Nat.le_of_ble_eq_true rfl) (Nat.le_of_ble_eq_true rfl) dX8_isPart_1 (fun x1 st2 => ?_)
  refine j_if_eq (tgt := 20) (pc := 4) hk (by decide) dX8_isPart_4 (fun _ => ?_) (fun _ => ?_)
  · refine j_iconst (pc := 20) hk dX8_isPart_20 (v := 0) (by decide) ?_
    exact j_zret (pc := 21) hk rfl dX8_isPart_21
  · refine j_iload_n (pc := 7) hk 1 rfl dX8_isPart_7 ?_
    refine j_iconst (pc := 8) hk dX8_isPart_8 (v := 0) (by decide) ?_
    refine j_iconst (pc := 9) hk dX8_isPart_9 (v := 4) (by decide) ?_
    refine j_callSi (pc := 10) hk [.int p1, .int (0 : Int32), .int (4 : Int32)] [] rfl (fun l o hq9 => C8_within p1 (0 : Int32) (4 : Int32) st2 l o hq9) yv_X8_within ml_8_88 rfl (Nat.le_of_ble_eq_true rfl) (Nat.le_of_ble_eq_true rfl) (Nat.le_of_ble_eq_true rfl) dX8_isPart_10 (fun x3 st4 => ?_)
    refine j_if_eq (tgt := 20) (pc := 13) hk (by decide) dX8_isPart_13 (fun _ => ?_) (fun _ => ?_)
    · refine j_iconst (pc := 20) hk dX8_isPart_20 (v := 0) (by decide) ?_
      exact j_zret (pc := 21) hk rfl dX8_isPart_21
    · refine j_iconst (pc := 16) hk dX8_isPart_16 (v := 1) (by decide) ?_
      refine j_goto (tgt := 21) (pc := 17) hk (by decide) dX8_isPart_17 ?_
      exact j_zret (pc := 21) hk rfl dX8_isPart_21
theorem dX8_table_0 : decode cX8_table 0 = .ok (.iload_n 1, 1) := by decide +kernel
theorem dX8_table_1 : decode cX8_table 1 = .ok (.iload_n 2, 1) := by decide +kernel
theorem dX8_table_2 : decode cX8_table 2 = .ok (.invokestatic 129, 3) := by decide +kernel
theorem dX8_table_5 : decode cX8_table 5 = .ok (.ifCond .eq 10, 3) := by decide +kernel
theorem dX8_table_8 : decode cX8_table 8 = .ok (.iload_n 3, 1) := by decide +kernel
theorem dX8_table_9 : decode cX8_table 9 = .ok (.invokestatic 126, 3) := by decide +kernel
theorem dX8_table_12 : decode cX8_table 12 = .ok (.ifCond .ne 10, 3) := by decide +kernel
theorem dX8_table_15 : decode cX8_table 15 = .ok (.aload_n 0, 1) := by decide +kernel
theorem dX8_table_16 : decode cX8_table 16 = .ok (.bipush (-6), 2) := by decide +kernel
theorem dX8_table_18 : decode cX8_table 18 = .ok (.invokevirtual 81, 3) := by decide +kernel
theorem dX8_table_21 : decode cX8_table 21 = .ok (.ireturn, 1) := by decide +kernel
theorem dX8_table_22 : decode cX8_table 22 = .ok (.aload_n 0, 1) := by decide +kernel
theorem dX8_table_23 : decode cX8_table 23 = .ok (.getfield 22, 3) := by decide +kernel
theorem dX8_table_26 : decode cX8_table 26 = .ok (.iconst 5, 1) := by decide +kernel
theorem dX8_table_27 : decode cX8_table 27 = .ok (.iload_n 1, 1) := by decide +kernel
theorem dX8_table_28 : decode cX8_table 28 = .ok (.imul, 1) := by decide +kernel
theorem dX8_table_29 : decode cX8_table 29 = .ok (.iload_n 2, 1) := by decide +kernel
theorem dX8_table_30 : decode cX8_table 30 = .ok (.iadd, 1) := by decide +kernel
theorem dX8_table_31 : decode cX8_table 31 = .ok (.iaload, 1) := by decide +kernel
theorem dX8_table_32 : decode cX8_table 32 = .ok (.istore 4, 2) := by decide +kernel
theorem dX8_table_34 : decode cX8_table 34 = .ok (.aload_n 0, 1) := by decide +kernel
theorem dX8_table_35 : decode cX8_table 35 = .ok (.getfield 22, 3) := by decide +kernel
theorem dX8_table_38 : decode cX8_table 38 = .ok (.iconst 5, 1) := by decide +kernel
theorem dX8_table_39 : decode cX8_table 39 = .ok (.iload_n 1, 1) := by decide +kernel
theorem dX8_table_40 : decode cX8_table 40 = .ok (.imul, 1) := by decide +kernel
theorem dX8_table_41 : decode cX8_table 41 = .ok (.iload_n 2, 1) := by decide +kernel
theorem dX8_table_42 : decode cX8_table 42 = .ok (.iadd, 1) := by decide +kernel
theorem dX8_table_43 : decode cX8_table 43 = .ok (.iload_n 3, 1) := by decide +kernel
theorem dX8_table_44 : decode cX8_table 44 = .ok (.iastore, 1) := by decide +kernel
theorem dX8_table_45 : decode cX8_table 45 = .ok (.iload 4, 2) := by decide +kernel
theorem dX8_table_47 : decode cX8_table 47 = .ok (.ireturn, 1) := by decide +kernel
def B8_table_15 (st : fkS) : Option (Int32 × fkS) :=
 fk_bind (F8_no (-6 : Int32) st) <| fun x7 st8 =>
 some (x7, st8)
set_option maxHeartbeats 1000000 in
set_option maxRecDepth 20000 in
theorem T8_table_15 {g : fkG} {k : fkK} (hk : fk_ok wM g k RX8 cX8_table 5 (some (.int)) 3 63) : ∀ (st : fkS), fk_J wM g fk_eI k 15 [(0, fk_r g 0)] [] st (B8_table_15 st) := by
  intro st
  unfold B8_table_15
  refine j_aload_n (pc := 15) hk 0 rfl ⟨_, rfl⟩ dX8_table_15 ?_
  refine j_bipush (pc := 16) hk dX8_table_16 (v := -6) (by decide) ?_
  refine j_callVi (pc := 18) hk [.int (-6 : Int32)] [] rfl (fun l o hq9 => C8_no (-6 : Int32) st l o hq9) (rcv_8 (rfl)) yv_X8_no ml_8_81 rfl (Nat.le_of_ble_eq_true rfl) (Nat.le_of_ble_eq_true rfl) (Nat.le_of_ble_eq_true rfl) dX8_table_18 (fun x7 st8 => ?_)
  exact j_iret (pc := 21) hk dX8_table_21
def F8_table (p1 : Int32) (p2 : Int32) (p3 : Int32) (st : fkS) : Option (Int32 × fkS) :=
 fk_bind (F8_isPart p1 p2 st) <| fun x1 st2 =>
 if x1 = 0 then
 (B8_table_15 st2)
 else
 (fk_bind (F8_isState p3 st2) <| fun x3 st4 =>
 if x3 = 0 then
 (B8_table_15 st4)
 else
 (fk_chk (fk_in (((5 : Int32) * p1) + p2) 40) <| fk_let (gA st4 5 (((5 : Int32) * p1) + p2).toNatClampNeg) <| fun x5 =>
 fk_chk (fk_in (((5 : Int32) * p1) + p2) 40) <| fk_let (sA st4 5 (((5 : Int32) * p1) + p2).toNatClampNeg p3) <| fun st6 =>
 some (x5, st6)))
set_option maxHeartbeats 1000000 in
set_option maxRecDepth 20000 in
theorem C8_table (p1 : Int32) (p2 : Int32) (p3 : Int32) (st : fkS) {g : fkG} (l : Launch) (o : Int32 × fkS) (hF : F8_table p1 p2 p3 st = some o) : fk_C wM yX8_table cX8_table 5 (some (.int)) 3 63 l g [fk_r g 0, .int p1, .int p2, .int p3] st (fk_eI o.1) o.2 := by
  refine fk_begin rfl (Nat.le_of_ble_eq_true rfl) (fun k hk => ?_) o hF
  have hk : fk_ok wM g k RX8 cX8_table 5 (some (.int)) 3 63 := hk
  show fk_J wM g fk_eI k 0 [(0, fk_r g 0), (1, .int p1), (2, .int p2), (3, .int p3)] [] st (F8_table p1 p2 p3 st)
  unfold F8_table
  refine j_iload_n (pc := 0) hk 1 rfl dX8_table_0 ?_
  refine j_iload_n (pc := 1) hk 2 rfl dX8_table_1 ?_
  refine j_callSi (pc := 2) hk [.int p1, .int p2] [] rfl (fun l o hq9 => C8_isPart p1 p2 st l o hq9) yv_X8_isPart ml_8_129 rfl (Nat.le_of_ble_eq_true rfl) (Nat.le_of_ble_eq_true rfl) (Nat.le_of_ble_eq_true rfl) dX8_table_2 (fun x1 st2 => ?_)
  refine j_if_eq (tgt := 15) (pc := 5) hk (by decide) dX8_table_5 (fun _ => ?_) (fun _ => ?_)
  · exact j_sub hk [0] rfl (T8_table_15 hk st2)
  · refine j_iload_n (pc := 8) hk 3 rfl dX8_table_8 ?_
    refine j_callSi (pc := 9) hk [.int p3] [] rfl (fun l o hq9 => C8_isState p3 st2 l o hq9) yv_X8_isState ml_8_126 rfl (Nat.le_of_ble_eq_true rfl) (Nat.le_of_ble_eq_true rfl) (Nat.le_of_ble_eq_true rfl) dX8_table_9 (fun x3 st4 => ?_)
    refine j_if_ne (tgt := 22) (pc := 12) hk (by decide) dX8_table_12 (fun _ => ?_) (fun _ => ?_)
    · exact j_sub hk [0] rfl (T8_table_15 hk st4)
    · refine j_aload_n (pc := 22) hk 0 rfl ⟨_, rfl⟩ dX8_table_22 ?_
      refine f_8_22 (pc := 23) hk (rfl) dX8_table_23 ?_
      refine j_iconst (pc := 26) hk dX8_table_26 (v := 5) (by decide) ?_
      refine j_iload_n (pc := 27) hk 1 rfl dX8_table_27 ?_
      refine j_imul (pc := 28) hk dX8_table_28 ?_
      refine j_iload_n (pc := 29) hk 2 rfl dX8_table_29 ?_
      refine j_iadd (pc := 30) hk dX8_table_30 ?_
      refine a_iload (pc := 31) hk (isI_8_5) dX8_table_31 (fun x5 => ?_)
      refine j_istore (lv' := ((4, .int x5) :: [(0, fk_r g 0), (1, .int p1), (2, .int p2), (3, .int p3)])) (pc := 32) hk (by decide) rfl dX8_table_32 ?_
      refine j_sub hk (lv' := [(0, fk_r g 0), (1, .int p1), (2, .int p2), (3, .int p3), (4, .int x5)]) [1, 2, 3, 4, 0] rfl ?_
      refine j_aload_n (pc := 34) hk 0 rfl ⟨_, rfl⟩ dX8_table_34 ?_
      refine f_8_22 (pc := 35) hk (rfl) dX8_table_35 ?_
      refine j_iconst (pc := 38) hk dX8_table_38 (v := 5) (by decide) ?_
      refine j_iload_n (pc := 39) hk 1 rfl dX8_table_39 ?_
      refine j_imul (pc := 40) hk dX8_table_40 ?_
      refine j_iload_n (pc := 41) hk 2 rfl dX8_table_41 ?_
      refine j_iadd (pc := 42) hk dX8_table_42 ?_
      refine j_iload_n (pc := 43) hk 3 rfl dX8_table_43 ?_
      refine a_istore (pc := 44) hk (isI_8_5) dX8_table_44 (fun st6 => ?_)
      refine j_iload (pc := 45) hk 4 rfl dX8_table_45 ?_
      exact j_iret (pc := 47) hk dX8_table_47
theorem dX8_comes_0 : decode cX8_comes 0 = .ok (.iload_n 1, 1) := by decide +kernel
theorem dX8_comes_1 : decode cX8_comes 1 = .ok (.iload_n 2, 1) := by decide +kernel
theorem dX8_comes_2 : decode cX8_comes 2 = .ok (.invokestatic 129, 3) := by decide +kernel
theorem dX8_comes_5 : decode cX8_comes 5 = .ok (.ifCond .eq 16, 3) := by decide +kernel
theorem dX8_comes_8 : decode cX8_comes 8 = .ok (.aload_n 0, 1) := by decide +kernel
theorem dX8_comes_9 : decode cX8_comes 9 = .ok (.getfield 22, 3) := by decide +kernel
theorem dX8_comes_12 : decode cX8_comes 12 = .ok (.iconst 5, 1) := by decide +kernel
theorem dX8_comes_13 : decode cX8_comes 13 = .ok (.iload_n 1, 1) := by decide +kernel
theorem dX8_comes_14 : decode cX8_comes 14 = .ok (.imul, 1) := by decide +kernel
theorem dX8_comes_15 : decode cX8_comes 15 = .ok (.iload_n 2, 1) := by decide +kernel
theorem dX8_comes_16 : decode cX8_comes 16 = .ok (.iadd, 1) := by decide +kernel
theorem dX8_comes_17 : decode cX8_comes 17 = .ok (.iaload, 1) := by decide +kernel
theorem dX8_comes_18 : decode cX8_comes 18 = .ok (.goto 9, 3) := by decide +kernel
theorem dX8_comes_21 : decode cX8_comes 21 = .ok (.aload_n 0, 1) := by decide +kernel
theorem dX8_comes_22 : decode cX8_comes 22 = .ok (.bipush (-5), 2) := by decide +kernel
theorem dX8_comes_24 : decode cX8_comes 24 = .ok (.invokevirtual 81, 3) := by decide +kernel
theorem dX8_comes_27 : decode cX8_comes 27 = .ok (.ireturn, 1) := by decide +kernel
def F8_comes (p1 : Int32) (p2 : Int32) (st : fkS) : Option (Int32 × fkS) :=
 fk_bind (F8_isPart p1 p2 st) <| fun x1 st2 =>
 if x1 = 0 then
 (fk_bind (F8_no (-5 : Int32) st2) <| fun x3 st4 =>
 some (x3, st4))
 else
 (fk_chk (fk_in (((5 : Int32) * p1) + p2) 40) <| fk_let (gA st2 5 (((5 : Int32) * p1) + p2).toNatClampNeg) <| fun x5 =>
 some (x5, st2))
set_option maxHeartbeats 1000000 in
set_option maxRecDepth 20000 in
theorem C8_comes (p1 : Int32) (p2 : Int32) (st : fkS) {g : fkG} (l : Launch) (o : Int32 × fkS) (hF : F8_comes p1 p2 st = some o) : fk_C wM yX8_comes cX8_comes 3 (some (.int)) 3 63 l g [fk_r g 0, .int p1, .int p2] st (fk_eI o.1) o.2 := by
  refine fk_begin rfl (Nat.le_of_ble_eq_true rfl) (fun k hk => ?_) o hF
  have hk : fk_ok wM g k RX8 cX8_comes 3 (some (.int)) 3 63 := hk
  show fk_J wM g fk_eI k 0 [(0, fk_r g 0), (1, .int p1), (2, .int p2)] [] st (F8_comes p1 p2 st)
  unfold F8_comes
  refine j_iload_n (pc := 0) hk 1 rfl dX8_comes_0 ?_
  refine j_iload_n (pc := 1) hk 2 rfl dX8_comes_1 ?_
  refine j_callSi (pc := 2) hk [.int p1, .int p2] [] rfl (fun l o hq9 => C8_isPart p1 p2 st l o hq9) yv_X8_isPart ml_8_129 rfl (Nat.le_of_ble_eq_true rfl) (Nat.le_of_ble_eq_true rfl) (Nat.le_of_ble_eq_true rfl) dX8_comes_2 (fun x1 st2 => ?_)
  refine j_if_eq (tgt := 21) (pc := 5) hk (by decide) dX8_comes_5 (fun _ => ?_) (fun _ => ?_)
  · refine j_aload_n (pc := 21) hk 0 rfl ⟨_, rfl⟩ dX8_comes_21 ?_
    refine j_bipush (pc := 22) hk dX8_comes_22 (v := -5) (by decide) ?_
    refine j_callVi (pc := 24) hk [.int (-5 : Int32)] [] rfl (fun l o hq9 => C8_no (-5 : Int32) st2 l o hq9) (rcv_8 (rfl)) yv_X8_no ml_8_81 rfl (Nat.le_of_ble_eq_true rfl) (Nat.le_of_ble_eq_true rfl) (Nat.le_of_ble_eq_true rfl) dX8_comes_24 (fun x3 st4 => ?_)
    exact j_iret (pc := 27) hk dX8_comes_27
  · refine j_aload_n (pc := 8) hk 0 rfl ⟨_, rfl⟩ dX8_comes_8 ?_
    refine f_8_22 (pc := 9) hk (rfl) dX8_comes_9 ?_
    refine j_iconst (pc := 12) hk dX8_comes_12 (v := 5) (by decide) ?_
    refine j_iload_n (pc := 13) hk 1 rfl dX8_comes_13 ?_
    refine j_imul (pc := 14) hk dX8_comes_14 ?_
    refine j_iload_n (pc := 15) hk 2 rfl dX8_comes_15 ?_
    refine j_iadd (pc := 16) hk dX8_comes_16 ?_
    refine a_iload (pc := 17) hk (isI_8_5) dX8_comes_17 (fun x5 => ?_)
    refine j_goto (tgt := 27) (pc := 18) hk (by decide) dX8_comes_18 ?_
    exact j_iret (pc := 27) hk dX8_comes_27
theorem dX8_birdOf_0 : decode cX8_birdOf 0 = .ok (.aload_n 0, 1) := by decide +kernel
theorem dX8_birdOf_1 : decode cX8_birdOf 1 = .ok (.iload_n 1, 1) := by decide +kernel
theorem dX8_birdOf_2 : decode cX8_birdOf 2 = .ok (.invokevirtual 99, 3) := by decide +kernel
theorem dX8_birdOf_5 : decode cX8_birdOf 5 = .ok (.ifCond .eq 12, 3) := by decide +kernel
theorem dX8_birdOf_8 : decode cX8_birdOf 8 = .ok (.iload_n 2, 1) := by decide +kernel
theorem dX8_birdOf_9 : decode cX8_birdOf 9 = .ok (.iconst 0, 1) := by decide +kernel
theorem dX8_birdOf_10 : decode cX8_birdOf 10 = .ok (.iconst 2, 1) := by decide +kernel
theorem dX8_birdOf_11 : decode cX8_birdOf 11 = .ok (.invokestatic 88, 3) := by decide +kernel
theorem dX8_birdOf_14 : decode cX8_birdOf 14 = .ok (.ifCond .ne 10, 3) := by decide +kernel
theorem dX8_birdOf_17 : decode cX8_birdOf 17 = .ok (.aload_n 0, 1) := by decide +kernel
theorem dX8_birdOf_18 : decode cX8_birdOf 18 = .ok (.bipush (-5), 2) := by decide +kernel
theorem dX8_birdOf_20 : decode cX8_birdOf 20 = .ok (.invokevirtual 81, 3) := by decide +kernel
theorem dX8_birdOf_23 : decode cX8_birdOf 23 = .ok (.ireturn, 1) := by decide +kernel
theorem dX8_birdOf_24 : decode cX8_birdOf 24 = .ok (.iload_n 2, 1) := by decide +kernel
theorem dX8_birdOf_25 : decode cX8_birdOf 25 = .ok (.ifCond .ne 12, 3) := by decide +kernel
theorem dX8_birdOf_28 : decode cX8_birdOf 28 = .ok (.aload_n 0, 1) := by decide +kernel
theorem dX8_birdOf_29 : decode cX8_birdOf 29 = .ok (.getfield 7, 3) := by decide +kernel
theorem dX8_birdOf_32 : decode cX8_birdOf 32 = .ok (.iload_n 1, 1) := by decide +kernel
theorem dX8_birdOf_33 : decode cX8_birdOf 33 = .ok (.iaload, 1) := by decide +kernel
theorem dX8_birdOf_34 : decode cX8_birdOf 34 = .ok (.goto 23, 3) := by decide +kernel
theorem dX8_birdOf_37 : decode cX8_birdOf 37 = .ok (.iload_n 2, 1) := by decide +kernel
theorem dX8_birdOf_38 : decode cX8_birdOf 38 = .ok (.iconst 1, 1) := by decide +kernel
theorem dX8_birdOf_39 : decode cX8_birdOf 39 = .ok (.if_icmp .ne 12, 3) := by decide +kernel
theorem dX8_birdOf_42 : decode cX8_birdOf 42 = .ok (.aload_n 0, 1) := by decide +kernel
theorem dX8_birdOf_43 : decode cX8_birdOf 43 = .ok (.getfield 13, 3) := by decide +kernel
theorem dX8_birdOf_46 : decode cX8_birdOf 46 = .ok (.iload_n 1, 1) := by decide +kernel
theorem dX8_birdOf_47 : decode cX8_birdOf 47 = .ok (.iaload, 1) := by decide +kernel
theorem dX8_birdOf_48 : decode cX8_birdOf 48 = .ok (.goto 9, 3) := by decide +kernel
theorem dX8_birdOf_51 : decode cX8_birdOf 51 = .ok (.aload_n 0, 1) := by decide +kernel
theorem dX8_birdOf_52 : decode cX8_birdOf 52 = .ok (.getfield 16, 3) := by decide +kernel
theorem dX8_birdOf_55 : decode cX8_birdOf 55 = .ok (.iload_n 1, 1) := by decide +kernel
theorem dX8_birdOf_56 : decode cX8_birdOf 56 = .ok (.iaload, 1) := by decide +kernel
theorem dX8_birdOf_57 : decode cX8_birdOf 57 = .ok (.ireturn, 1) := by decide +kernel
def B8_birdOf_17 (st : fkS) : Option (Int32 × fkS) :=
 fk_bind (F8_no (-5 : Int32) st) <| fun x8 st9 =>
 some (x8, st9)
set_option maxHeartbeats 1000000 in
set_option maxRecDepth 20000 in
theorem T8_birdOf_17 {g : fkG} {k : fkK} (hk : fk_ok wM g k RX8 cX8_birdOf 3 (some (.int)) 2 43) : ∀ (st : fkS), fk_J wM g fk_eI k 17 [(0, fk_r g 0)] [] st (B8_birdOf_17 st) := by
  intro st
  unfold B8_birdOf_17
  refine j_aload_n (pc := 17) hk 0 rfl ⟨_, rfl⟩ dX8_birdOf_17 ?_
  refine j_bipush (pc := 18) hk dX8_birdOf_18 (v := -5) (by decide) ?_
  refine j_callVi (pc := 20) hk [.int (-5 : Int32)] [] rfl (fun l o hq9 => C8_no (-5 : Int32) st l o hq9) (rcv_8 (rfl)) yv_X8_no ml_8_81 rfl (Nat.le_of_ble_eq_true rfl) (Nat.le_of_ble_eq_true rfl) (Nat.le_of_ble_eq_true rfl) dX8_birdOf_20 (fun x8 st9 => ?_)
  exact j_iret (pc := 23) hk dX8_birdOf_23
def F8_birdOf (p1 : Int32) (p2 : Int32) (st : fkS) : Option (Int32 × fkS) :=
 fk_bind (F8_isBird p1 st) <| fun x1 st2 =>
 if x1 = 0 then
 (B8_birdOf_17 st2)
 else
 (fk_bind (F8_within p2 (0 : Int32) (2 : Int32) st2) <| fun x3 st4 =>
 if x3 = 0 then
 (B8_birdOf_17 st4)
 else
 (if p2 = 0 then
 (fk_chk (fk_in p1 7) <| fk_let (gA st4 1 p1.toNatClampNeg) <| fun x5 =>
 some (x5, st4))
 else
 (if p2 = (1 : Int32) then
 (fk_chk (fk_in p1 7) <| fk_let (gA st4 2 p1.toNatClampNeg) <| fun x6 =>
 some (x6, st4))
 else
 (fk_chk (fk_in p1 7) <| fk_let (gA st4 3 p1.toNatClampNeg) <| fun x7 =>
 some (x7, st4)))))
set_option maxHeartbeats 1000000 in
set_option maxRecDepth 20000 in
theorem C8_birdOf (p1 : Int32) (p2 : Int32) (st : fkS) {g : fkG} (l : Launch) (o : Int32 × fkS) (hF : F8_birdOf p1 p2 st = some o) : fk_C wM yX8_birdOf cX8_birdOf 3 (some (.int)) 2 43 l g [fk_r g 0, .int p1, .int p2] st (fk_eI o.1) o.2 := by
  refine fk_begin rfl (Nat.le_of_ble_eq_true rfl) (fun k hk => ?_) o hF
  have hk : fk_ok wM g k RX8 cX8_birdOf 3 (some (.int)) 2 43 := hk
  show fk_J wM g fk_eI k 0 [(0, fk_r g 0), (1, .int p1), (2, .int p2)] [] st (F8_birdOf p1 p2 st)
  unfold F8_birdOf
  refine j_aload_n (pc := 0) hk 0 rfl ⟨_, rfl⟩ dX8_birdOf_0 ?_
  refine j_iload_n (pc := 1) hk 1 rfl dX8_birdOf_1 ?_
  refine j_callVi (pc := 2) hk [.int p1] [] rfl (fun l o hq9 => C8_isBird p1 st l o hq9) (rcv_8 (rfl)) yv_X8_isBird ml_8_99 rfl (Nat.le_of_ble_eq_true rfl) (Nat.le_of_ble_eq_true rfl) (Nat.le_of_ble_eq_true rfl) dX8_birdOf_2 (fun x1 st2 => ?_)
  refine j_if_eq (tgt := 17) (pc := 5) hk (by decide) dX8_birdOf_5 (fun _ => ?_) (fun _ => ?_)
  · exact j_sub hk [0] rfl (T8_birdOf_17 hk st2)
  · refine j_iload_n (pc := 8) hk 2 rfl dX8_birdOf_8 ?_
    refine j_iconst (pc := 9) hk dX8_birdOf_9 (v := 0) (by decide) ?_
    refine j_iconst (pc := 10) hk dX8_birdOf_10 (v := 2) (by decide) ?_
    refine j_callSi (pc := 11) hk [.int p2, .int (0 : Int32), .int (2 : Int32)] [] rfl (fun l o hq9 => C8_within p2 (0 : Int32) (2 : Int32) st2 l o hq9) yv_X8_within ml_8_88 rfl (Nat.le_of_ble_eq_true rfl) (Nat.le_of_ble_eq_true rfl) (Nat.le_of_ble_eq_true rfl) dX8_birdOf_11 (fun x3 st4 => ?_)
    refine j_if_ne (tgt := 24) (pc := 14) hk (by decide) dX8_birdOf_14 (fun _ => ?_) (fun _ => ?_)
    · exact j_sub hk [0] rfl (T8_birdOf_17 hk st4)
    · refine j_iload_n (pc := 24) hk 2 rfl dX8_birdOf_24 ?_
      refine j_if_ne (tgt := 37) (pc := 25) hk (by decide) dX8_birdOf_25 (fun _ => ?_) (fun _ => ?_)
      · refine j_aload_n (pc := 28) hk 0 rfl ⟨_, rfl⟩ dX8_birdOf_28 ?_
        refine f_8_7 (pc := 29) hk (rfl) dX8_birdOf_29 ?_
        refine j_iload_n (pc := 32) hk 1 rfl dX8_birdOf_32 ?_
        refine a_iload (pc := 33) hk (isI_8_1) dX8_birdOf_33 (fun x5 => ?_)
        refine j_goto (tgt := 57) (pc := 34) hk (by decide) dX8_birdOf_34 ?_
        exact j_iret (pc := 57) hk dX8_birdOf_57
      · refine j_iload_n (pc := 37) hk 2 rfl dX8_birdOf_37 ?_
        refine j_iconst (pc := 38) hk dX8_birdOf_38 (v := 1) (by decide) ?_
        refine j_icmp_ne (tgt := 51) (pc := 39) hk (by decide) dX8_birdOf_39 (fun _ => ?_) (fun _ => ?_)
        · refine j_aload_n (pc := 42) hk 0 rfl ⟨_, rfl⟩ dX8_birdOf_42 ?_
          refine f_8_13 (pc := 43) hk (rfl) dX8_birdOf_43 ?_
          refine j_iload_n (pc := 46) hk 1 rfl dX8_birdOf_46 ?_
          refine a_iload (pc := 47) hk (isI_8_2) dX8_birdOf_47 (fun x6 => ?_)
          refine j_goto (tgt := 57) (pc := 48) hk (by decide) dX8_birdOf_48 ?_
          exact j_iret (pc := 57) hk dX8_birdOf_57
        · refine j_aload_n (pc := 51) hk 0 rfl ⟨_, rfl⟩ dX8_birdOf_51 ?_
          refine f_8_16 (pc := 52) hk (rfl) dX8_birdOf_52 ?_
          refine j_iload_n (pc := 55) hk 1 rfl dX8_birdOf_55 ?_
          refine a_iload (pc := 56) hk (isI_8_3) dX8_birdOf_56 (fun x7 => ?_)
          exact j_iret (pc := 57) hk dX8_birdOf_57
theorem dX8_sign_0 : decode cX8_sign 0 = .ok (.aload_n 0, 1) := by decide +kernel
theorem dX8_sign_1 : decode cX8_sign 1 = .ok (.getfield 132, 3) := by decide +kernel
theorem dX8_sign_4 : decode cX8_sign 4 = .ok (.aload_n 0, 1) := by decide +kernel
theorem dX8_sign_5 : decode cX8_sign 5 = .ok (.getfield 28, 3) := by decide +kernel
theorem dX8_sign_8 : decode cX8_sign 8 = .ok (.aload_n 0, 1) := by decide +kernel
theorem dX8_sign_9 : decode cX8_sign 9 = .ok (.getfield 135, 3) := by decide +kernel
theorem dX8_sign_12 : decode cX8_sign 12 = .ok (.iaload, 1) := by decide +kernel
theorem dX8_sign_13 : decode cX8_sign 13 = .ok (.if_icmp .ge 25, 3) := by decide +kernel
theorem dX8_sign_16 : decode cX8_sign 16 = .ok (.aload_n 0, 1) := by decide +kernel
theorem dX8_sign_17 : decode cX8_sign 17 = .ok (.getfield 31, 3) := by decide +kernel
theorem dX8_sign_20 : decode cX8_sign 20 = .ok (.sipush 160, 3) := by decide +kernel
theorem dX8_sign_23 : decode cX8_sign 23 = .ok (.aload_n 0, 1) := by decide +kernel
theorem dX8_sign_24 : decode cX8_sign 24 = .ok (.getfield 135, 3) := by decide +kernel
theorem dX8_sign_27 : decode cX8_sign 27 = .ok (.imul, 1) := by decide +kernel
theorem dX8_sign_28 : decode cX8_sign 28 = .ok (.aload_n 0, 1) := by decide +kernel
theorem dX8_sign_29 : decode cX8_sign 29 = .ok (.getfield 132, 3) := by decide +kernel
theorem dX8_sign_32 : decode cX8_sign 32 = .ok (.iadd, 1) := by decide +kernel
theorem dX8_sign_33 : decode cX8_sign 33 = .ok (.laload, 1) := by decide +kernel
theorem dX8_sign_34 : decode cX8_sign 34 = .ok (.l2i, 1) := by decide +kernel
theorem dX8_sign_35 : decode cX8_sign 35 = .ok (.goto 4, 3) := by decide +kernel
theorem dX8_sign_38 : decode cX8_sign 38 = .ok (.iconst (-1), 1) := by decide +kernel
theorem dX8_sign_39 : decode cX8_sign 39 = .ok (.ireturn, 1) := by decide +kernel
def F8_sign (st : fkS) : Option (Int32 × fkS) :=
 fk_let (gI st 13 0) <| fun x1 =>
 fk_let (gI st 12 0) <| fun x2 =>
 fk_chk (fk_in x2 8) <| fk_let (gA st 7 x2.toNatClampNeg) <| fun x3 =>
 if x3 ≤ x1 then
 (some ((-1 : Int32), st))
 else
 (fk_let (gI st 12 0) <| fun x4 =>
 fk_let (gI st 13 0) <| fun x5 =>
 fk_chk (fk_in (((160 : Int32) * x4) + x5) 1280) <| fk_let (gL st 8 (((160 : Int32) * x4) + x5).toNatClampNeg) <| fun x6 =>
 some (x6.toInt32, st))
set_option maxHeartbeats 1000000 in
set_option maxRecDepth 20000 in
theorem C8_sign (st : fkS) {g : fkG} (l : Launch) (o : Int32 × fkS) (hF : F8_sign st = some o) : fk_C wM yX8_sign cX8_sign 1 (some (.int)) 0 0 l g [fk_r g 0] st (fk_eI o.1) o.2 := by
  refine fk_begin rfl (Nat.le_of_ble_eq_true rfl) (fun k hk => ?_) o hF
  have hk : fk_ok wM g k RX8 cX8_sign 1 (some (.int)) 0 0 := hk
  show fk_J wM g fk_eI k 0 [(0, fk_r g 0)] [] st (F8_sign st)
  unfold F8_sign
  refine j_aload_n (pc := 0) hk 0 rfl ⟨_, rfl⟩ dX8_sign_0 ?_
  refine f_8_132 (pc := 1) hk (rfl) dX8_sign_1 (fun x1 => ?_)
  refine j_aload_n (pc := 4) hk 0 rfl ⟨_, rfl⟩ dX8_sign_4 ?_
  refine f_8_28 (pc := 5) hk (rfl) dX8_sign_5 ?_
  refine j_aload_n (pc := 8) hk 0 rfl ⟨_, rfl⟩ dX8_sign_8 ?_
  refine f_8_135 (pc := 9) hk (rfl) dX8_sign_9 (fun x2 => ?_)
  refine a_iload (pc := 12) hk (isI_8_10) dX8_sign_12 (fun x3 => ?_)
  refine j_icmp_ge (tgt := 38) (pc := 13) hk (by decide) dX8_sign_13 (fun _ => ?_) (fun _ => ?_)
  · refine j_iconst (pc := 38) hk dX8_sign_38 (v := -1) (by decide) ?_
    exact j_iret (pc := 39) hk dX8_sign_39
  · refine j_aload_n (pc := 16) hk 0 rfl ⟨_, rfl⟩ dX8_sign_16 ?_
    refine f_8_31 (pc := 17) hk (rfl) dX8_sign_17 ?_
    refine j_sipush (pc := 20) hk dX8_sign_20 (v := 160) (by decide) ?_
    refine j_aload_n (pc := 23) hk 0 rfl ⟨_, rfl⟩ dX8_sign_23 ?_
    refine f_8_135 (pc := 24) hk (rfl) dX8_sign_24 (fun x4 => ?_)
    refine j_imul (pc := 27) hk dX8_sign_27 ?_
    refine j_aload_n (pc := 28) hk 0 rfl ⟨_, rfl⟩ dX8_sign_28 ?_
    refine f_8_132 (pc := 29) hk (rfl) dX8_sign_29 (fun x5 => ?_)
    refine j_iadd (pc := 32) hk dX8_sign_32 ?_
    refine a_lload (pc := 33) hk (isL_8_11) dX8_sign_33 (fun x6 => ?_)
    refine j_l2i (pc := 34) hk dX8_sign_34 ?_
    refine j_goto (tgt := 39) (pc := 35) hk (by decide) dX8_sign_35 ?_
    exact j_iret (pc := 39) hk dX8_sign_39
theorem dX8_is_0 : decode cX8_is 0 = .ok (.aload_n 0, 1) := by decide +kernel
theorem dX8_is_1 : decode cX8_is 1 = .ok (.invokevirtual 138, 3) := by decide +kernel
theorem dX8_is_4 : decode cX8_is 4 = .ok (.iload_n 1, 1) := by decide +kernel
theorem dX8_is_5 : decode cX8_is 5 = .ok (.if_icmp .eq 5, 3) := by decide +kernel
theorem dX8_is_8 : decode cX8_is 8 = .ok (.iconst 0, 1) := by decide +kernel
theorem dX8_is_9 : decode cX8_is 9 = .ok (.ireturn, 1) := by decide +kernel
theorem dX8_is_10 : decode cX8_is 10 = .ok (.aload_n 0, 1) := by decide +kernel
theorem dX8_is_11 : decode cX8_is 11 = .ok (.dup, 1) := by decide +kernel
theorem dX8_is_12 : decode cX8_is 12 = .ok (.getfield 132, 3) := by decide +kernel
theorem dX8_is_15 : decode cX8_is 15 = .ok (.iconst 1, 1) := by decide +kernel
theorem dX8_is_16 : decode cX8_is 16 = .ok (.iadd, 1) := by decide +kernel
theorem dX8_is_17 : decode cX8_is 17 = .ok (.putfield 132, 3) := by decide +kernel
theorem dX8_is_20 : decode cX8_is 20 = .ok (.iconst 1, 1) := by decide +kernel
theorem dX8_is_21 : decode cX8_is 21 = .ok (.ireturn, 1) := by decide +kernel
def F8_is (p1 : Int32) (st : fkS) : Option (Int32 × fkS) :=
 fk_bind (F8_sign st) <| fun x1 st2 =>
 if x1 = p1 then
 (fk_let (gI st2 13 0) <| fun x3 =>
 fk_let (sI st2 13 0 (x3 + (1 : Int32))) <| fun st4 =>
 some ((1 : Int32), st4))
 else
 (some ((0 : Int32), st2))
set_option maxHeartbeats 1000000 in
set_option maxRecDepth 20000 in
theorem C8_is (p1 : Int32) (st : fkS) {g : fkG} (l : Launch) (o : Int32 × fkS) (hF : F8_is p1 st = some o) : fk_C wM yX8_is cX8_is 2 (some (.boolean)) 1 20 l g [fk_r g 0, .int p1] st (fk_eI o.1) o.2 := by
  refine fk_begin rfl (Nat.le_of_ble_eq_true rfl) (fun k hk => ?_) o hF
  have hk : fk_ok wM g k RX8 cX8_is 2 (some (.boolean)) 1 20 := hk
  show fk_J wM g fk_eI k 0 [(0, fk_r g 0), (1, .int p1)] [] st (F8_is p1 st)
  unfold F8_is
  refine j_aload_n (pc := 0) hk 0 rfl ⟨_, rfl⟩ dX8_is_0 ?_
  refine j_callVi (pc := 1) hk [] [] rfl (fun l o hq9 => C8_sign st l o hq9) (rcv_8 (rfl)) yv_X8_sign ml_8_138 rfl (Nat.le_of_ble_eq_true rfl) (Nat.le_of_ble_eq_true rfl) (Nat.le_of_ble_eq_true rfl) dX8_is_1 (fun x1 st2 => ?_)
  refine j_iload_n (pc := 4) hk 1 rfl dX8_is_4 ?_
  refine j_icmp_eq (tgt := 10) (pc := 5) hk (by decide) dX8_is_5 (fun _ => ?_) (fun _ => ?_)
  · refine j_aload_n (pc := 10) hk 0 rfl ⟨_, rfl⟩ dX8_is_10 ?_
    refine j_dup (pc := 11) hk rfl dX8_is_11 ?_
    refine f_8_132 (pc := 12) hk (rfl) dX8_is_12 (fun x3 => ?_)
    refine j_iconst (pc := 15) hk dX8_is_15 (v := 1) (by decide) ?_
    refine j_iadd (pc := 16) hk dX8_is_16 ?_
    refine p_8_132 (pc := 17) hk (rfl) dX8_is_17 (fun st4 => ?_)
    refine j_iconst (pc := 20) hk dX8_is_20 (v := 1) (by decide) ?_
    exact j_zret (pc := 21) hk rfl dX8_is_21
  · refine j_iconst (pc := 8) hk dX8_is_8 (v := 0) (by decide) ?_
    exact j_zret (pc := 9) hk rfl dX8_is_9
theorem dX8_word_0 : decode cX8_word 0 = .ok (.iconst 0, 1) := by decide +kernel
theorem dX8_word_1 : decode cX8_word 1 = .ok (.istore_n 2, 1) := by decide +kernel
theorem dX8_word_2 : decode cX8_word 2 = .ok (.iload_n 2, 1) := by decide +kernel
theorem dX8_word_3 : decode cX8_word 3 = .ok (.aload_n 1, 1) := by decide +kernel
theorem dX8_word_4 : decode cX8_word 4 = .ok (.invokevirtual 142, 3) := by decide +kernel
theorem dX8_word_7 : decode cX8_word 7 = .ok (.if_icmp .ge 23, 3) := by decide +kernel
theorem dX8_word_10 : decode cX8_word 10 = .ok (.aload_n 0, 1) := by decide +kernel
theorem dX8_word_11 : decode cX8_word 11 = .ok (.aload_n 1, 1) := by decide +kernel
theorem dX8_word_12 : decode cX8_word 12 = .ok (.iload_n 2, 1) := by decide +kernel
theorem dX8_word_13 : decode cX8_word 13 = .ok (.invokevirtual 147, 3) := by decide +kernel
theorem dX8_word_16 : decode cX8_word 16 = .ok (.invokevirtual 151, 3) := by decide +kernel
theorem dX8_word_19 : decode cX8_word 19 = .ok (.ifCond .ne 5, 3) := by decide +kernel
theorem dX8_word_22 : decode cX8_word 22 = .ok (.iconst 0, 1) := by decide +kernel
theorem dX8_word_23 : decode cX8_word 23 = .ok (.ireturn, 1) := by decide +kernel
theorem dX8_word_24 : decode cX8_word 24 = .ok (.iinc 2 1, 3) := by decide +kernel
theorem dX8_word_27 : decode cX8_word 27 = .ok (.goto (-25), 3) := by decide +kernel
theorem dX8_word_30 : decode cX8_word 30 = .ok (.iconst 1, 1) := by decide +kernel
theorem dX8_word_31 : decode cX8_word 31 = .ok (.ireturn, 1) := by decide +kernel
def B8_word_2 (o1 : Nat) (k2 : Int32 → fkS → Option (Int32 × fkS)) (v2 : Int32) (st : fkS) : Option (Int32 × fkS) :=
 fk_bind (FS_len o1 st) <| fun x1 st2 =>
 if x1 ≤ v2 then
 (some ((1 : Int32), st2))
 else
 (fk_bind (FS_char o1 v2 st2) <| fun x3 st4 =>
 fk_bind (F8_is x3 st4) <| fun x5 st6 =>
 if x5 = 0 then
 (some ((0 : Int32), st6))
 else
 (k2 (v2 + (1 : Int32)) st6))
set_option maxHeartbeats 1000000 in
set_option maxRecDepth 20000 in
theorem T8_word_2 {g : fkG} {k : fkK} (o1 : Nat) (ho1 : o1 < 7) (hk : fk_ok wM g k RX8 cX8_word 3 (some (.boolean)) 7 324) (k2 : Int32 → fkS → Option (Int32 × fkS)) (H2 : ∀ (v2 : Int32) (st : fkS), fk_J wM g fk_eI k 2 [(0, fk_r g 0), (1, fk_q g o1), (2, .int v2)] [] st (k2 v2 st)) : ∀ (v2 : Int32) (st : fkS), fk_J wM g fk_eI k 2 [(0, fk_r g 0), (1, fk_q g o1), (2, .int v2)] [] st (B8_word_2 o1 k2 v2 st) := by
  intro v2 st
  unfold B8_word_2
  refine j_iload_n (pc := 2) hk 2 rfl dX8_word_2 ?_
  refine j_aload_n (pc := 3) hk 1 rfl ⟨_, rfl⟩ dX8_word_3 ?_
  refine j_slen (pc := 4) hk (ho1) ml_8_142 (Nat.le_of_ble_eq_true rfl) (Nat.le_of_ble_eq_true rfl) (Nat.le_of_ble_eq_true rfl) dX8_word_4 (fun x1 st2 => ?_)
  refine j_icmp_ge (tgt := 30) (pc := 7) hk (by decide) dX8_word_7 (fun _ => ?_) (fun _ => ?_)
  · refine j_iconst (pc := 30) hk dX8_word_30 (v := 1) (by decide) ?_
    exact j_zret (pc := 31) hk rfl dX8_word_31
  · refine j_aload_n (pc := 10) hk 0 rfl ⟨_, rfl⟩ dX8_word_10 ?_
    refine j_aload_n (pc := 11) hk 1 rfl ⟨_, rfl⟩ dX8_word_11 ?_
    refine j_iload_n (pc := 12) hk 2 rfl dX8_word_12 ?_
    refine j_schar (pc := 13) hk (ho1) ml_8_147 (Nat.le_of_ble_eq_true rfl) (Nat.le_of_ble_eq_true rfl) (Nat.le_of_ble_eq_true rfl) dX8_word_13 (fun x3 st4 => ?_)
    refine j_callVi (pc := 16) hk [.int x3] [] rfl (fun l o hq9 => C8_is x3 st4 l o hq9) (rcv_8 (rfl)) yv_X8_is ml_8_151 rfl (Nat.le_of_ble_eq_true rfl) (Nat.le_of_ble_eq_true rfl) (Nat.le_of_ble_eq_true rfl) dX8_word_16 (fun x5 st6 => ?_)
    refine j_if_ne (tgt := 24) (pc := 19) hk (by decide) dX8_word_19 (fun _ => ?_) (fun _ => ?_)
    · refine j_iconst (pc := 22) hk dX8_word_22 (v := 0) (by decide) ?_
      exact j_zret (pc := 23) hk rfl dX8_word_23
    · refine j_iinc (dd := (1 : Int32)) (lv' := ((2, .int (v2 + (1 : Int32))) :: [(0, fk_r g 0), (1, fk_q g o1)])) (pc := 24) hk 2 rfl (by decide) (by decide) rfl dX8_word_24 ?_
      refine j_sub hk (lv' := [(0, fk_r g 0), (1, fk_q g o1), (2, .int (v2 + (1 : Int32)))]) [1, 2, 0] rfl ?_
      refine j_goto (tgt := 2) (pc := 27) hk (by decide) dX8_word_27 ?_
      exact j_sub hk [0, 1, 2] rfl (H2 (v2 + (1 : Int32)) st6)
set_option maxHeartbeats 1000000 in
set_option maxRecDepth 20000 in
theorem L8_word_2 {g : fkG} {k : fkK} (o1 : Nat) (ho1 : o1 < 7) (hk : fk_ok wM g k RX8 cX8_word 3 (some (.boolean)) 7 324) (fu : Nat) : ∀ (v2 : Int32) (st : fkS), fk_J wM g fk_eI k 2 [(0, fk_r g 0), (1, fk_q g o1), (2, .int v2)] [] st (fk_lp1 (B8_word_2 o1) fu v2 st) := by
  induction fu with
  | zero =>
    intro v2 st
    exact j_none hk
  | succ fu ih =>
    exact T8_word_2 o1 ho1 hk _ ih
def F8_word (o1 : Nat) (st : fkS) : Option (Int32 × fkS) :=
 fk_lp1 (B8_word_2 o1) fk_fuel (0 : Int32) st
set_option maxHeartbeats 1000000 in
set_option maxRecDepth 20000 in
theorem C8_word (o1 : Nat) (ho1 : o1 < 7) (st : fkS) {g : fkG} (l : Launch) (o : Int32 × fkS) (hF : F8_word o1 st = some o) : fk_C wM yX8_word cX8_word 3 (some (.boolean)) 7 324 l g [fk_r g 0, fk_q g o1] st (fk_eI o.1) o.2 := by
  refine fk_begin rfl (Nat.le_of_ble_eq_true rfl) (fun k hk => ?_) o hF
  have hk : fk_ok wM g k RX8 cX8_word 3 (some (.boolean)) 7 324 := hk
  show fk_J wM g fk_eI k 0 [(0, fk_r g 0), (1, fk_q g o1)] [] st (F8_word o1 st)
  unfold F8_word
  refine j_iconst (pc := 0) hk dX8_word_0 (v := 0) (by decide) ?_
  refine j_istore_n (lv' := ((2, .int (0 : Int32)) :: [(0, fk_r g 0), (1, fk_q g o1)])) (pc := 1) hk rfl (by decide) rfl dX8_word_1 ?_
  refine j_sub hk (lv' := [(0, fk_r g 0), (1, fk_q g o1), (2, .int (0 : Int32))]) [1, 2, 0] rfl ?_
  exact j_sub hk [0, 1, 2] rfl (L8_word_2 o1 ho1 hk fk_fuel (0 : Int32) st)
theorem dX8_word__0 : decode cX8_word_ 0 = .ok (.aload_n 0, 1) := by decide +kernel
theorem dX8_word__1 : decode cX8_word_ 1 = .ok (.getfield 132, 3) := by decide +kernel
theorem dX8_word__4 : decode cX8_word_ 4 = .ok (.istore_n 3, 1) := by decide +kernel
theorem dX8_word__5 : decode cX8_word_ 5 = .ok (.aload_n 0, 1) := by decide +kernel
theorem dX8_word__6 : decode cX8_word_ 6 = .ok (.aload_n 1, 1) := by decide +kernel
theorem dX8_word__7 : decode cX8_word_ 7 = .ok (.invokevirtual 155, 3) := by decide +kernel
theorem dX8_word__10 : decode cX8_word_ 10 = .ok (.istore 4, 2) := by decide +kernel
theorem dX8_word__12 : decode cX8_word_ 12 = .ok (.iload 4, 2) := by decide +kernel
theorem dX8_word__14 : decode cX8_word_ 14 = .ok (.ifCond .eq 12, 3) := by decide +kernel
theorem dX8_word__17 : decode cX8_word_ 17 = .ok (.iload_n 2, 1) := by decide +kernel
theorem dX8_word__18 : decode cX8_word_ 18 = .ok (.ifCond .ne 8, 3) := by decide +kernel
theorem dX8_word__21 : decode cX8_word_ 21 = .ok (.aload_n 0, 1) := by decide +kernel
theorem dX8_word__22 : decode cX8_word_ 22 = .ok (.iload_n 3, 1) := by decide +kernel
theorem dX8_word__23 : decode cX8_word_ 23 = .ok (.putfield 132, 3) := by decide +kernel
theorem dX8_word__26 : decode cX8_word_ 26 = .ok (.iload 4, 2) := by decide +kernel
theorem dX8_word__28 : decode cX8_word_ 28 = .ok (.ifCond .eq 11, 3) := by decide +kernel
theorem dX8_word__31 : decode cX8_word_ 31 = .ok (.iload_n 2, 1) := by decide +kernel
theorem dX8_word__32 : decode cX8_word_ 32 = .ok (.ifCond .eq 7, 3) := by decide +kernel
theorem dX8_word__35 : decode cX8_word_ 35 = .ok (.iconst 1, 1) := by decide +kernel
theorem dX8_word__36 : decode cX8_word_ 36 = .ok (.goto 4, 3) := by decide +kernel
theorem dX8_word__39 : decode cX8_word_ 39 = .ok (.iconst 0, 1) := by decide +kernel
theorem dX8_word__40 : decode cX8_word_ 40 = .ok (.ireturn, 1) := by decide +kernel
def B8_word__26 (o1 : Nat) (v2 : Int32) (v4 : Int32) (st : fkS) : Option (Int32 × fkS) :=
 if v4 = 0 then
 (some ((0 : Int32), st))
 else
 (if v2 = 0 then
 (some ((0 : Int32), st))
 else
 (some ((1 : Int32), st)))
set_option maxHeartbeats 1000000 in
set_option maxRecDepth 20000 in
theorem T8_word__26 {g : fkG} {k : fkK} (o1 : Nat) (ho1 : o1 < 7) (hk : fk_ok wM g k RX8 cX8_word_ 5 (some (.boolean)) 8 346) : ∀ (v2 : Int32) (v4 : Int32) (st : fkS), fk_J wM g fk_eI k 26 [(2, .int v2), (4, .int v4)] [] st (B8_word__26 o1 v2 v4 st) := by
  intro v2 v4 st
  unfold B8_word__26
  refine j_iload (pc := 26) hk 1 rfl dX8_word__26 ?_
  refine j_if_eq (tgt := 39) (pc := 28) hk (by decide) dX8_word__28 (fun _ => ?_) (fun _ => ?_)
  · refine j_iconst (pc := 39) hk dX8_word__39 (v := 0) (by decide) ?_
    exact j_zret (pc := 40) hk rfl dX8_word__40
  · refine j_iload_n (pc := 31) hk 0 rfl dX8_word__31 ?_
    refine j_if_eq (tgt := 39) (pc := 32) hk (by decide) dX8_word__32 (fun _ => ?_) (fun _ => ?_)
    · refine j_iconst (pc := 39) hk dX8_word__39 (v := 0) (by decide) ?_
      exact j_zret (pc := 40) hk rfl dX8_word__40
    · refine j_iconst (pc := 35) hk dX8_word__35 (v := 1) (by decide) ?_
      refine j_goto (tgt := 40) (pc := 36) hk (by decide) dX8_word__36 ?_
      exact j_zret (pc := 40) hk rfl dX8_word__40
def F8_word_ (o1 : Nat) (p2 : Int32) (st : fkS) : Option (Int32 × fkS) :=
 fk_let (gI st 13 0) <| fun x1 =>
 fk_bind (F8_word o1 st) <| fun x2 st3 =>
 if x2 = 0 then
 (B8_word__26 o1 p2 x2 st3)
 else
 (if p2 = 0 then
 (fk_let (sI st3 13 0 x1) <| fun st4 =>
 B8_word__26 o1 p2 x2 st4)
 else
 (B8_word__26 o1 p2 x2 st3))
set_option maxHeartbeats 1000000 in
set_option maxRecDepth 20000 in
theorem C8_word_ (o1 : Nat) (ho1 : o1 < 7) (p2 : Int32) (st : fkS) {g : fkG} (l : Launch) (o : Int32 × fkS) (hF : F8_word_ o1 p2 st = some o) : fk_C wM yX8_word_ cX8_word_ 5 (some (.boolean)) 8 346 l g [fk_r g 0, fk_q g o1, .int p2] st (fk_eI o.1) o.2 := by
  refine fk_begin rfl (Nat.le_of_ble_eq_true rfl) (fun k hk => ?_) o hF
  have hk : fk_ok wM g k RX8 cX8_word_ 5 (some (.boolean)) 8 346 := hk
  show fk_J wM g fk_eI k 0 [(0, fk_r g 0), (1, fk_q g o1), (2, .int p2)] [] st (F8_word_ o1 p2 st)
  unfold F8_word_
  refine j_aload_n (pc := 0) hk 0 rfl ⟨_, rfl⟩ dX8_word__0 ?_
  refine f_8_132 (pc := 1) hk (rfl) dX8_word__1 (fun x1 => ?_)
  refine j_istore_n (lv' := ((3, .int x1) :: [(0, fk_r g 0), (1, fk_q g o1), (2, .int p2)])) (pc := 4) hk rfl (by decide) rfl dX8_word__4 ?_
  refine j_sub hk (lv' := [(0, fk_r g 0), (1, fk_q g o1), (2, .int p2), (3, .int x1)]) [1, 2, 3, 0] rfl ?_
  refine j_aload_n (pc := 5) hk 0 rfl ⟨_, rfl⟩ dX8_word__5 ?_
  refine j_aload_n (pc := 6) hk 1 rfl ⟨_, rfl⟩ dX8_word__6 ?_
  refine j_callVi (pc := 7) hk [fk_q g o1] [] rfl (fun l o hq9 => C8_word o1 (ho1) st l o hq9) (rcv_8 (rfl)) yv_X8_word ml_8_155 rfl (Nat.le_of_ble_eq_true rfl) (Nat.le_of_ble_eq_true rfl) (Nat.le_of_ble_eq_true rfl) dX8_word__7 (fun x2 st3 => ?_)
  refine j_istore (lv' := ((4, .int x2) :: [(0, fk_r g 0), (1, fk_q g o1), (2, .int p2), (3, .int x1)])) (pc := 10) hk (by decide) rfl dX8_word__10 ?_
  refine j_sub hk (lv' := [(0, fk_r g 0), (1, fk_q g o1), (2, .int p2), (3, .int x1), (4, .int x2)]) [1, 2, 3, 4, 0] rfl ?_
  refine j_iload (pc := 12) hk 4 rfl dX8_word__12 ?_
  refine j_if_eq (tgt := 26) (pc := 14) hk (by decide) dX8_word__14 (fun _ => ?_) (fun _ => ?_)
  · exact j_sub hk [2, 4] rfl (T8_word__26 o1 ho1 hk p2 x2 st3)
  · refine j_iload_n (pc := 17) hk 2 rfl dX8_word__17 ?_
    refine j_if_ne (tgt := 26) (pc := 18) hk (by decide) dX8_word__18 (fun _ => ?_) (fun _ => ?_)
    · refine j_aload_n (pc := 21) hk 0 rfl ⟨_, rfl⟩ dX8_word__21 ?_
      refine j_iload_n (pc := 22) hk 3 rfl dX8_word__22 ?_
      refine p_8_132 (pc := 23) hk (rfl) dX8_word__23 (fun st4 => ?_)
      exact j_sub hk [2, 4] rfl (T8_word__26 o1 ho1 hk p2 x2 st4)
    · exact j_sub hk [2, 4] rfl (T8_word__26 o1 ho1 hk p2 x2 st3)
theorem dX8_number_0 : decode cX8_number 0 = .ok (.aload_n 0, 1) := by decide +kernel
theorem dX8_number_1 : decode cX8_number 1 = .ok (.bipush 32, 2) := by decide +kernel
theorem dX8_number_3 : decode cX8_number 3 = .ok (.invokevirtual 151, 3) := by decide +kernel
theorem dX8_number_6 : decode cX8_number 6 = .ok (.ifCond .ne 5, 3) := by decide +kernel
theorem dX8_number_9 : decode cX8_number 9 = .ok (.iconst 0, 1) := by decide +kernel
theorem dX8_number_10 : decode cX8_number 10 = .ok (.ireturn, 1) := by decide +kernel
theorem dX8_number_11 : decode cX8_number 11 = .ok (.aload_n 0, 1) := by decide +kernel
theorem dX8_number_12 : decode cX8_number 12 = .ok (.getfield 132, 3) := by decide +kernel
theorem dX8_number_15 : decode cX8_number 15 = .ok (.istore 4, 2) := by decide +kernel
theorem dX8_number_17 : decode cX8_number 17 = .ok (.iconst 0, 1) := by decide +kernel
theorem dX8_number_18 : decode cX8_number 18 = .ok (.istore 5, 2) := by decide +kernel
theorem dX8_number_20 : decode cX8_number 20 = .ok (.aload_n 0, 1) := by decide +kernel
theorem dX8_number_21 : decode cX8_number 21 = .ok (.getfield 132, 3) := by decide +kernel
theorem dX8_number_24 : decode cX8_number 24 = .ok (.iload 4, 2) := by decide +kernel
theorem dX8_number_26 : decode cX8_number 26 = .ok (.isub, 1) := by decide +kernel
theorem dX8_number_27 : decode cX8_number 27 = .ok (.iconst 2, 1) := by decide +kernel
theorem dX8_number_28 : decode cX8_number 28 = .ok (.if_icmp .ge 49, 3) := by decide +kernel
theorem dX8_number_31 : decode cX8_number 31 = .ok (.aload_n 0, 1) := by decide +kernel
theorem dX8_number_32 : decode cX8_number 32 = .ok (.invokevirtual 138, 3) := by decide +kernel
theorem dX8_number_35 : decode cX8_number 35 = .ok (.bipush 48, 2) := by decide +kernel
theorem dX8_number_37 : decode cX8_number 37 = .ok (.if_icmp .lt 40, 3) := by decide +kernel
theorem dX8_number_40 : decode cX8_number 40 = .ok (.aload_n 0, 1) := by decide +kernel
theorem dX8_number_41 : decode cX8_number 41 = .ok (.invokevirtual 138, 3) := by decide +kernel
theorem dX8_number_44 : decode cX8_number 44 = .ok (.bipush 57, 2) := by decide +kernel
theorem dX8_number_46 : decode cX8_number 46 = .ok (.if_icmp .gt 31, 3) := by decide +kernel
theorem dX8_number_49 : decode cX8_number 49 = .ok (.bipush 10, 2) := by decide +kernel
theorem dX8_number_51 : decode cX8_number 51 = .ok (.iload 5, 2) := by decide +kernel
theorem dX8_number_53 : decode cX8_number 53 = .ok (.imul, 1) := by decide +kernel
theorem dX8_number_54 : decode cX8_number 54 = .ok (.aload_n 0, 1) := by decide +kernel
theorem dX8_number_55 : decode cX8_number 55 = .ok (.invokevirtual 138, 3) := by decide +kernel
theorem dX8_number_58 : decode cX8_number 58 = .ok (.iadd, 1) := by decide +kernel
theorem dX8_number_59 : decode cX8_number 59 = .ok (.bipush 48, 2) := by decide +kernel
theorem dX8_number_61 : decode cX8_number 61 = .ok (.isub, 1) := by decide +kernel
theorem dX8_number_62 : decode cX8_number 62 = .ok (.istore 5, 2) := by decide +kernel
theorem dX8_number_64 : decode cX8_number 64 = .ok (.aload_n 0, 1) := by decide +kernel
theorem dX8_number_65 : decode cX8_number 65 = .ok (.dup, 1) := by decide +kernel
theorem dX8_number_66 : decode cX8_number 66 = .ok (.getfield 132, 3) := by decide +kernel
theorem dX8_number_69 : decode cX8_number 69 = .ok (.iconst 1, 1) := by decide +kernel
theorem dX8_number_70 : decode cX8_number 70 = .ok (.iadd, 1) := by decide +kernel
theorem dX8_number_71 : decode cX8_number 71 = .ok (.putfield 132, 3) := by decide +kernel
theorem dX8_number_74 : decode cX8_number 74 = .ok (.goto (-54), 3) := by decide +kernel
theorem dX8_number_77 : decode cX8_number 77 = .ok (.aload_n 0, 1) := by decide +kernel
theorem dX8_number_78 : decode cX8_number 78 = .ok (.getfield 132, 3) := by decide +kernel
theorem dX8_number_81 : decode cX8_number 81 = .ok (.iload 4, 2) := by decide +kernel
theorem dX8_number_83 : decode cX8_number 83 = .ok (.if_icmp .ne 5, 3) := by decide +kernel
theorem dX8_number_86 : decode cX8_number 86 = .ok (.iconst 0, 1) := by decide +kernel
theorem dX8_number_87 : decode cX8_number 87 = .ok (.ireturn, 1) := by decide +kernel
theorem dX8_number_88 : decode cX8_number 88 = .ok (.aload_n 0, 1) := by decide +kernel
theorem dX8_number_89 : decode cX8_number 89 = .ok (.getfield 35, 3) := by decide +kernel
theorem dX8_number_92 : decode cX8_number 92 = .ok (.iload_n 1, 1) := by decide +kernel
theorem dX8_number_93 : decode cX8_number 93 = .ok (.iload 5, 2) := by decide +kernel
theorem dX8_number_95 : decode cX8_number 95 = .ok (.iastore, 1) := by decide +kernel
theorem dX8_number_96 : decode cX8_number 96 = .ok (.iload 5, 2) := by decide +kernel
theorem dX8_number_98 : decode cX8_number 98 = .ok (.iload_n 2, 1) := by decide +kernel
theorem dX8_number_99 : decode cX8_number 99 = .ok (.iload_n 3, 1) := by decide +kernel
theorem dX8_number_100 : decode cX8_number 100 = .ok (.invokestatic 88, 3) := by decide +kernel
theorem dX8_number_103 : decode cX8_number 103 = .ok (.istore 6, 2) := by decide +kernel
theorem dX8_number_105 : decode cX8_number 105 = .ok (.iload 6, 2) := by decide +kernel
theorem dX8_number_107 : decode cX8_number 107 = .ok (.ifCond .ne 9, 3) := by decide +kernel
theorem dX8_number_110 : decode cX8_number 110 = .ok (.aload_n 0, 1) := by decide +kernel
theorem dX8_number_111 : decode cX8_number 111 = .ok (.iload 4, 2) := by decide +kernel
theorem dX8_number_113 : decode cX8_number 113 = .ok (.putfield 132, 3) := by decide +kernel
theorem dX8_number_116 : decode cX8_number 116 = .ok (.iload 6, 2) := by decide +kernel
theorem dX8_number_118 : decode cX8_number 118 = .ok (.ireturn, 1) := by decide +kernel
def B8_number_77 (v1 : Int32) (v2 : Int32) (v3 : Int32) (v4 : Int32) (v5 : Int32) (st : fkS) : Option (Int32 × fkS) :=
 fk_let (gI st 13 0) <| fun x13 =>
 if x13 = v4 then
 (some ((0 : Int32), st))
 else
 (fk_chk (fk_in v1 3) <| fk_let (sA st 9 v1.toNatClampNeg v5) <| fun st14 =>
 fk_bind (F8_within v5 v2 v3 st14) <| fun x15 st16 =>
 if x15 = 0 then
 (fk_let (sI st16 13 0 v4) <| fun st17 =>
 fk_chk (fk_bool x15) (some (x15, st17)))
 else
 (fk_chk (fk_bool x15) (some (x15, st16))))
set_option maxHeartbeats 1000000 in
set_option maxRecDepth 20000 in
theorem T8_number_77 {g : fkG} {k : fkK} (hk : fk_ok wM g k RX8 cX8_number 7 (some (.boolean)) 2 41) : ∀ (v1 : Int32) (v2 : Int32) (v3 : Int32) (v4 : Int32) (v5 : Int32) (st : fkS), fk_J wM g fk_eI k 77 [(0, fk_r g 0), (1, .int v1), (2, .int v2), (3, .int v3), (4, .int v4), (5, .int v5)] [] st (B8_number_77 v1 v2 v3 v4 v5 st) := by
  intro v1 v2 v3 v4 v5 st
  unfold B8_number_77
  refine j_aload_n (pc := 77) hk 0 rfl ⟨_, rfl⟩ dX8_number_77 ?_
  refine f_8_132 (pc := 78) hk (rfl) dX8_number_78 (fun x13 => ?_)
  refine j_iload (pc := 81) hk 4 rfl dX8_number_81 ?_
  refine j_icmp_ne (tgt := 88) (pc := 83) hk (by decide) dX8_number_83 (fun _ => ?_) (fun _ => ?_)
  · refine j_iconst (pc := 86) hk dX8_number_86 (v := 0) (by decide) ?_
    exact j_zret (pc := 87) hk rfl dX8_number_87
  · refine j_aload_n (pc := 88) hk 0 rfl ⟨_, rfl⟩ dX8_number_88 ?_
    refine f_8_35 (pc := 89) hk (rfl) dX8_number_89 ?_
    refine j_iload_n (pc := 92) hk 1 rfl dX8_number_92 ?_
    refine j_iload (pc := 93) hk 5 rfl dX8_number_93 ?_
    refine a_istore (pc := 95) hk (isI_8_14) dX8_number_95 (fun st14 => ?_)
    refine j_iload (pc := 96) hk 5 rfl dX8_number_96 ?_
    refine j_iload_n (pc := 98) hk 2 rfl dX8_number_98 ?_
    refine j_iload_n (pc := 99) hk 3 rfl dX8_number_99 ?_
    refine j_callSi (pc := 100) hk [.int v5, .int v2, .int v3] [] rfl (fun l o hq9 => C8_within v5 v2 v3 st14 l o hq9) yv_X8_within ml_8_88 rfl (Nat.le_of_ble_eq_true rfl) (Nat.le_of_ble_eq_true rfl) (Nat.le_of_ble_eq_true rfl) dX8_number_100 (fun x15 st16 => ?_)
    refine j_istore (lv' := ((6, .int x15) :: [(0, fk_r g 0), (1, .int v1), (2, .int v2), (3, .int v3), (4, .int v4), (5, .int v5)])) (pc := 103) hk (by decide) rfl dX8_number_103 ?_
    refine j_sub hk (lv' := [(0, fk_r g 0), (1, .int v1), (2, .int v2), (3, .int v3), (4, .int v4), (5, .int v5), (6, .int x15)]) [1, 2, 3, 4, 5, 6, 0] rfl ?_
    refine j_iload (pc := 105) hk 6 rfl dX8_number_105 ?_
    refine j_if_ne (tgt := 116) (pc := 107) hk (by decide) dX8_number_107 (fun _ => ?_) (fun _ => ?_)
    · refine j_aload_n (pc := 110) hk 0 rfl ⟨_, rfl⟩ dX8_number_110 ?_
      refine j_iload (pc := 111) hk 4 rfl dX8_number_111 ?_
      refine p_8_132 (pc := 113) hk (rfl) dX8_number_113 (fun st17 => ?_)
      refine j_iload (pc := 116) hk 6 rfl dX8_number_116 ?_
      refine j_chk (pc := 118) hk (fun hb18 => ?_)
      exact j_zret (pc := 118) hk (fk_bool_n hb18) dX8_number_118
    · refine j_iload (pc := 116) hk 6 rfl dX8_number_116 ?_
      refine j_chk (pc := 118) hk (fun hb19 => ?_)
      exact j_zret (pc := 118) hk (fk_bool_n hb19) dX8_number_118
def B8_number_20 (k20 : Int32 → Int32 → Int32 → Int32 → Int32 → fkS → Option (Int32 × fkS)) (v1 : Int32) (v2 : Int32) (v3 : Int32) (v4 : Int32) (v5 : Int32) (st : fkS) : Option (Int32 × fkS) :=
 fk_let (gI st 13 0) <| fun x4 =>
 if (2 : Int32) ≤ (x4 - v4) then
 (B8_number_77 v1 v2 v3 v4 v5 st)
 else
 (fk_bind (F8_sign st) <| fun x5 st6 =>
 if x5 < (48 : Int32) then
 (B8_number_77 v1 v2 v3 v4 v5 st6)
 else
 (fk_bind (F8_sign st6) <| fun x7 st8 =>
 if (57 : Int32) < x7 then
 (B8_number_77 v1 v2 v3 v4 v5 st8)
 else
 (fk_bind (F8_sign st8) <| fun x9 st10 =>
 fk_let (gI st10 13 0) <| fun x11 =>
 fk_let (sI st10 13 0 (x11 + (1 : Int32))) <| fun st12 =>
 k20 v1 v2 v3 v4 ((((10 : Int32) * v5) + x9) - (48 : Int32)) st12)))
set_option maxHeartbeats 1000000 in
set_option maxRecDepth 20000 in
theorem T8_number_20 {g : fkG} {k : fkK} (hk : fk_ok wM g k RX8 cX8_number 7 (some (.boolean)) 2 41) (k20 : Int32 → Int32 → Int32 → Int32 → Int32 → fkS → Option (Int32 × fkS)) (H20 : ∀ (v1 : Int32) (v2 : Int32) (v3 : Int32) (v4 : Int32) (v5 : Int32) (st : fkS), fk_J wM g fk_eI k 20 [(0, fk_r g 0), (1, .int v1), (2, .int v2), (3, .int v3), (4, .int v4), (5, .int v5)] [] st (k20 v1 v2 v3 v4 v5 st)) : ∀ (v1 : Int32) (v2 : Int32) (v3 : Int32) (v4 : Int32) (v5 : Int32) (st : fkS), fk_J wM g fk_eI k 20 [(0, fk_r g 0), (1, .int v1), (2, .int v2), (3, .int v3), (4, .int v4), (5, .int v5)] [] st (B8_number_20 k20 v1 v2 v3 v4 v5 st) := by
  intro v1 v2 v3 v4 v5 st
  unfold B8_number_20
  refine j_aload_n (pc := 20) hk 0 rfl ⟨_, rfl⟩ dX8_number_20 ?_
  refine f_8_132 (pc := 21) hk (rfl) dX8_number_21 (fun x4 => ?_)
  refine j_iload (pc := 24) hk 4 rfl dX8_number_24 ?_
  refine j_isub (pc := 26) hk dX8_number_26 ?_
  refine j_iconst (pc := 27) hk dX8_number_27 (v := 2) (by decide) ?_
  refine j_icmp_ge (tgt := 77) (pc := 28) hk (by decide) dX8_number_28 (fun _ => ?_) (fun _ => ?_)
  · exact j_sub hk [0, 1, 2, 3, 4, 5] rfl (T8_number_77 hk v1 v2 v3 v4 v5 st)
  · refine j_aload_n (pc := 31) hk 0 rfl ⟨_, rfl⟩ dX8_number_31 ?_
    refine j_callVi (pc := 32) hk [] [] rfl (fun l o hq9 => C8_sign st l o hq9) (rcv_8 (rfl)) yv_X8_sign ml_8_138 rfl (Nat.le_of_ble_eq_true rfl) (Nat.le_of_ble_eq_true rfl) (Nat.le_of_ble_eq_true rfl) dX8_number_32 (fun x5 st6 => ?_)
    refine j_bipush (pc := 35) hk dX8_number_35 (v := 48) (by decide) ?_
    refine j_icmp_lt (tgt := 77) (pc := 37) hk (by decide) dX8_number_37 (fun _ => ?_) (fun _ => ?_)
    · exact j_sub hk [0, 1, 2, 3, 4, 5] rfl (T8_number_77 hk v1 v2 v3 v4 v5 st6)
    · refine j_aload_n (pc := 40) hk 0 rfl ⟨_, rfl⟩ dX8_number_40 ?_
      refine j_callVi (pc := 41) hk [] [] rfl (fun l o hq9 => C8_sign st6 l o hq9) (rcv_8 (rfl)) yv_X8_sign ml_8_138 rfl (Nat.le_of_ble_eq_true rfl) (Nat.le_of_ble_eq_true rfl) (Nat.le_of_ble_eq_true rfl) dX8_number_41 (fun x7 st8 => ?_)
      refine j_bipush (pc := 44) hk dX8_number_44 (v := 57) (by decide) ?_
      refine j_icmp_gt (tgt := 77) (pc := 46) hk (by decide) dX8_number_46 (fun _ => ?_) (fun _ => ?_)
      · exact j_sub hk [0, 1, 2, 3, 4, 5] rfl (T8_number_77 hk v1 v2 v3 v4 v5 st8)
      · refine j_bipush (pc := 49) hk dX8_number_49 (v := 10) (by decide) ?_
        refine j_iload (pc := 51) hk 5 rfl dX8_number_51 ?_
        refine j_imul (pc := 53) hk dX8_number_53 ?_
        refine j_aload_n (pc := 54) hk 0 rfl ⟨_, rfl⟩ dX8_number_54 ?_
        refine j_callVi (pc := 55) hk [] [.int ((10 : Int32) * v5)] rfl (fun l o hq9 => C8_sign st8 l o hq9) (rcv_8 (rfl)) yv_X8_sign ml_8_138 rfl (Nat.le_of_ble_eq_true rfl) (Nat.le_of_ble_eq_true rfl) (Nat.le_of_ble_eq_true rfl) dX8_number_55 (fun x9 st10 => ?_)
        refine j_iadd (pc := 58) hk dX8_number_58 ?_
        refine j_bipush (pc := 59) hk dX8_number_59 (v := 48) (by decide) ?_
        refine j_isub (pc := 61) hk dX8_number_61 ?_
        refine j_istore (lv' := ((5, .int ((((10 : Int32) * v5) + x9) - (48 : Int32))) :: [(0, fk_r g 0), (1, .int v1), (2, .int v2), (3, .int v3), (4, .int v4)])) (pc := 62) hk (by decide) rfl dX8_number_62 ?_
        refine j_sub hk (lv' := [(0, fk_r g 0), (1, .int v1), (2, .int v2), (3, .int v3), (4, .int v4), (5, .int ((((10 : Int32) * v5) + x9) - (48 : Int32)))]) [1, 2, 3, 4, 5, 0] rfl ?_
        refine j_aload_n (pc := 64) hk 0 rfl ⟨_, rfl⟩ dX8_number_64 ?_
        refine j_dup (pc := 65) hk rfl dX8_number_65 ?_
        refine f_8_132 (pc := 66) hk (rfl) dX8_number_66 (fun x11 => ?_)
        refine j_iconst (pc := 69) hk dX8_number_69 (v := 1) (by decide) ?_
        refine j_iadd (pc := 70) hk dX8_number_70 ?_
        refine p_8_132 (pc := 71) hk (rfl) dX8_number_71 (fun st12 => ?_)
        refine j_goto (tgt := 20) (pc := 74) hk (by decide) dX8_number_74 ?_
        exact j_sub hk [0, 1, 2, 3, 4, 5] rfl (H20 v1 v2 v3 v4 ((((10 : Int32) * v5) + x9) - (48 : Int32)) st12)
set_option maxHeartbeats 1000000 in
set_option maxRecDepth 20000 in
theorem L8_number_20 {g : fkG} {k : fkK} (hk : fk_ok wM g k RX8 cX8_number 7 (some (.boolean)) 2 41) (fu : Nat) : ∀ (v1 : Int32) (v2 : Int32) (v3 : Int32) (v4 : Int32) (v5 : Int32) (st : fkS), fk_J wM g fk_eI k 20 [(0, fk_r g 0), (1, .int v1), (2, .int v2), (3, .int v3), (4, .int v4), (5, .int v5)] [] st (fk_lp5 (B8_number_20) fu v1 v2 v3 v4 v5 st) := by
  induction fu with
  | zero =>
    intro v1 v2 v3 v4 v5 st
    exact j_none hk
  | succ fu ih =>
    exact T8_number_20 hk _ ih
def F8_number (p1 : Int32) (p2 : Int32) (p3 : Int32) (st : fkS) : Option (Int32 × fkS) :=
 fk_bind (F8_is (32 : Int32) st) <| fun x1 st2 =>
 if x1 = 0 then
 (some ((0 : Int32), st2))
 else
 (fk_let (gI st2 13 0) <| fun x3 =>
 fk_lp5 (B8_number_20) fk_fuel p1 p2 p3 x3 (0 : Int32) st2)
set_option maxHeartbeats 1000000 in
set_option maxRecDepth 20000 in
theorem C8_number (p1 : Int32) (p2 : Int32) (p3 : Int32) (st : fkS) {g : fkG} (l : Launch) (o : Int32 × fkS) (hF : F8_number p1 p2 p3 st = some o) : fk_C wM yX8_number cX8_number 7 (some (.boolean)) 2 41 l g [fk_r g 0, .int p1, .int p2, .int p3] st (fk_eI o.1) o.2 := by
  refine fk_begin rfl (Nat.le_of_ble_eq_true rfl) (fun k hk => ?_) o hF
  have hk : fk_ok wM g k RX8 cX8_number 7 (some (.boolean)) 2 41 := hk
  show fk_J wM g fk_eI k 0 [(0, fk_r g 0), (1, .int p1), (2, .int p2), (3, .int p3)] [] st (F8_number p1 p2 p3 st)
  unfold F8_number
  refine j_aload_n (pc := 0) hk 0 rfl ⟨_, rfl⟩ dX8_number_0 ?_
  refine j_bipush (pc := 1) hk dX8_number_1 (v := 32) (by decide) ?_
  refine j_callVi (pc := 3) hk [.int (32 : Int32)] [] rfl (fun l o hq9 => C8_is (32 : Int32) st l o hq9) (rcv_8 (rfl)) yv_X8_is ml_8_151 rfl (Nat.le_of_ble_eq_true rfl) (Nat.le_of_ble_eq_true rfl) (Nat.le_of_ble_eq_true rfl) dX8_number_3 (fun x1 st2 => ?_)
  refine j_if_ne (tgt := 11) (pc := 6) hk (by decide) dX8_number_6 (fun _ => ?_) (fun _ => ?_)
  · refine j_iconst (pc := 9) hk dX8_number_9 (v := 0) (by decide) ?_
    exact j_zret (pc := 10) hk rfl dX8_number_10
  · refine j_aload_n (pc := 11) hk 0 rfl ⟨_, rfl⟩ dX8_number_11 ?_
    refine f_8_132 (pc := 12) hk (rfl) dX8_number_12 (fun x3 => ?_)
    refine j_istore (lv' := ((4, .int x3) :: [(0, fk_r g 0), (1, .int p1), (2, .int p2), (3, .int p3)])) (pc := 15) hk (by decide) rfl dX8_number_15 ?_
    refine j_sub hk (lv' := [(0, fk_r g 0), (1, .int p1), (2, .int p2), (3, .int p3), (4, .int x3)]) [1, 2, 3, 4, 0] rfl ?_
    refine j_iconst (pc := 17) hk dX8_number_17 (v := 0) (by decide) ?_
    refine j_istore (lv' := ((5, .int (0 : Int32)) :: [(0, fk_r g 0), (1, .int p1), (2, .int p2), (3, .int p3), (4, .int x3)])) (pc := 18) hk (by decide) rfl dX8_number_18 ?_
    refine j_sub hk (lv' := [(0, fk_r g 0), (1, .int p1), (2, .int p2), (3, .int p3), (4, .int x3), (5, .int (0 : Int32))]) [1, 2, 3, 4, 5, 0] rfl ?_
    exact j_sub hk [0, 1, 2, 3, 4, 5] rfl (L8_number_20 hk fk_fuel p1 p2 p3 x3 (0 : Int32) st2)
