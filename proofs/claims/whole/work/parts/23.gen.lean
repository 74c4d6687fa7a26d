-- ScaffoldPlannerModel perform
theorem kcRX9_253 : okV RX9 253 yX9_isText (.code yX9_isText cX9_isText 1 (some .boolean)) = true := by decide +kernel
theorem oyX9_isText : okY yX9_isText 0 := ⟨by decide +kernel, by decide +kernel, by decide +kernel⟩
theorem so2 {α β : Type} {a r : α} {b m : β} (h : some (a, b) = some (r, m)) : a = r ∧ b = m := by
  have h1 := Option.some.inj h
  exact ⟨congrArg Prod.fst h1, congrArg Prod.snd h1⟩
abbrev rmX9_perform : Room := { frames := 6, cells := 0, slots := 0, locals := 142 }
theorem dX9_perform_0 : decode cX9_perform 0 = .ok (.aload_n 0, 1) := by decide +kernel
theorem dX9_perform_1 : decode cX9_perform 1 = .ok (.iconst 0, 1) := by decide +kernel
theorem dX9_perform_2 : decode cX9_perform 2 = .ok (.putfield 50, 3) := by decide +kernel
theorem dX9_perform_5 : decode cX9_perform 5 = .ok (.aload_n 0, 1) := by decide +kernel
theorem dX9_perform_6 : decode cX9_perform 6 = .ok (.invokevirtual 253, 3) := by decide +kernel
theorem dX9_perform_9 : decode cX9_perform 9 = .ok (.istore_n 1, 1) := by decide +kernel
theorem dX9_perform_10 : decode cX9_perform 10 = .ok (.aload_n 0, 1) := by decide +kernel
theorem dX9_perform_11 : decode cX9_perform 11 = .ok (.iconst 0, 1) := by decide +kernel
theorem dX9_perform_12 : decode cX9_perform 12 = .ok (.putfield 232, 3) := by decide +kernel
theorem dX9_perform_15 : decode cX9_perform 15 = .ok (.iload_n 1, 1) := by decide +kernel
theorem dX9_perform_16 : decode cX9_perform 16 = .ok (.ifCond .ne 11, 3) := by decide +kernel
theorem dX9_perform_19 : decode cX9_perform 19 = .ok (.bipush (-100), 2) := by decide +kernel
theorem dX9_perform_21 : decode cX9_perform 21 = .ok (.aload_n 0, 1) := by decide +kernel
theorem dX9_perform_22 : decode cX9_perform 22 = .ok (.getfield 235, 3) := by decide +kernel
theorem dX9_perform_25 : decode cX9_perform 25 = .ok (.isub, 1) := by decide +kernel
theorem dX9_perform_26 : decode cX9_perform 26 = .ok (.ireturn, 1) := by decide +kernel
theorem dX9_perform_27 : decode cX9_perform 27 = .ok (.aload_n 0, 1) := by decide +kernel
theorem dX9_perform_28 : decode cX9_perform 28 = .ok (.getfield 7, 3) := by decide +kernel
theorem dX9_perform_31 : decode cX9_perform 31 = .ok (.aload_n 0, 1) := by decide +kernel
theorem dX9_perform_32 : decode cX9_perform 32 = .ok (.getfield 43, 3) := by decide +kernel
theorem dX9_perform_35 : decode cX9_perform 35 = .ok (.invokestatic 65, 3) := by decide +kernel
theorem dX9_perform_38 : decode cX9_perform 38 = .ok (.iconst 0, 1) := by decide +kernel
theorem dX9_perform_39 : decode cX9_perform 39 = .ok (.istore_n 2, 1) := by decide +kernel
theorem dX9_perform_40 : decode cX9_perform 40 = .ok (.iload_n 2, 1) := by decide +kernel
theorem dX9_perform_41 : decode cX9_perform 41 = .ok (.aload_n 0, 1) := by decide +kernel
theorem dX9_perform_42 : decode cX9_perform 42 = .ok (.getfield 241, 3) := by decide +kernel
theorem dX9_perform_45 : decode cX9_perform 45 = .ok (.if_icmp .ge 233, 3) := by decide +kernel
theorem dX9_perform_48 : decode cX9_perform 48 = .ok (.iconst 5, 1) := by decide +kernel
theorem dX9_perform_49 : decode cX9_perform 49 = .ok (.iload_n 2, 1) := by decide +kernel
theorem dX9_perform_50 : decode cX9_perform 50 = .ok (.imul, 1) := by decide +kernel
theorem dX9_perform_51 : decode cX9_perform 51 = .ok (.istore_n 3, 1) := by decide +kernel
theorem dX9_perform_52 : decode cX9_perform 52 = .ok (.aload_n 0, 1) := by decide +kernel
theorem dX9_perform_53 : decode cX9_perform 53 = .ok (.getfield 40, 3) := by decide +kernel
theorem dX9_perform_56 : decode cX9_perform 56 = .ok (.iload_n 3, 1) := by decide +kernel
theorem dX9_perform_57 : decode cX9_perform 57 = .ok (.iconst 4, 1) := by decide +kernel
theorem dX9_perform_58 : decode cX9_perform 58 = .ok (.iadd, 1) := by decide +kernel
theorem dX9_perform_59 : decode cX9_perform 59 = .ok (.iaload, 1) := by decide +kernel
theorem dX9_perform_60 : decode cX9_perform 60 = .ok (.iconst 1, 1) := by decide +kernel
theorem dX9_perform_61 : decode cX9_perform 61 = .ok (.if_icmp .ne 7, 3) := by decide +kernel
theorem dX9_perform_64 : decode cX9_perform 64 = .ok (.iconst 1, 1) := by decide +kernel
theorem dX9_perform_65 : decode cX9_perform 65 = .ok (.goto 4, 3) := by decide +kernel
theorem dX9_perform_68 : decode cX9_perform 68 = .ok (.iconst 0, 1) := by decide +kernel
theorem dX9_perform_69 : decode cX9_perform 69 = .ok (.istore 4, 2) := by decide +kernel
theorem dX9_perform_71 : decode cX9_perform 71 = .ok (.aload_n 0, 1) := by decide +kernel
theorem dX9_perform_72 : decode cX9_perform 72 = .ok (.aload_n 0, 1) := by decide +kernel
theorem dX9_perform_73 : decode cX9_perform 73 = .ok (.getfield 40, 3) := by decide +kernel
theorem dX9_perform_76 : decode cX9_perform 76 = .ok (.iload_n 3, 1) := by decide +kernel
theorem dX9_perform_77 : decode cX9_perform 77 = .ok (.iconst 1, 1) := by decide +kernel
theorem dX9_perform_78 : decode cX9_perform 78 = .ok (.iadd, 1) := by decide +kernel
theorem dX9_perform_79 : decode cX9_perform 79 = .ok (.iaload, 1) := by decide +kernel
theorem dX9_perform_80 : decode cX9_perform 80 = .ok (.invokevirtual 184, 3) := by decide +kernel
theorem dX9_perform_83 : decode cX9_perform 83 = .ok (.ifCond .eq 38, 3) := by decide +kernel
theorem dX9_perform_86 : decode cX9_perform 86 = .ok (.aload_n 0, 1) := by decide +kernel
theorem dX9_perform_87 : decode cX9_perform 87 = .ok (.getfield 40, 3) := by decide +kernel
theorem dX9_perform_90 : decode cX9_perform 90 = .ok (.iload_n 3, 1) := by decide +kernel
theorem dX9_perform_91 : decode cX9_perform 91 = .ok (.iaload, 1) := by decide +kernel
theorem dX9_perform_92 : decode cX9_perform 92 = .ok (.iconst 2, 1) := by decide +kernel
theorem dX9_perform_93 : decode cX9_perform 93 = .ok (.if_icmp .ne 24, 3) := by decide +kernel
theorem dX9_perform_96 : decode cX9_perform 96 = .ok (.iload 4, 2) := by decide +kernel
theorem dX9_perform_98 : decode cX9_perform 98 = .ok (.ifCond .ne 19, 3) := by decide +kernel
theorem dX9_perform_101 : decode cX9_perform 101 = .ok (.aload_n 0, 1) := by decide +kernel
theorem dX9_perform_102 : decode cX9_perform 102 = .ok (.getfield 40, 3) := by decide +kernel
theorem dX9_perform_105 : decode cX9_perform 105 = .ok (.iload_n 3, 1) := by decide +kernel
theorem dX9_perform_106 : decode cX9_perform 106 = .ok (.iconst 3, 1) := by decide +kernel
theorem dX9_perform_107 : decode cX9_perform 107 = .ok (.iadd, 1) := by decide +kernel
theorem dX9_perform_108 : decode cX9_perform 108 = .ok (.iaload, 1) := by decide +kernel
theorem dX9_perform_109 : decode cX9_perform 109 = .ok (.iconst 1, 1) := by decide +kernel
theorem dX9_perform_110 : decode cX9_perform 110 = .ok (.iconst 4, 1) := by decide +kernel
theorem dX9_perform_111 : decode cX9_perform 111 = .ok (.invokestatic 54, 3) := by decide +kernel
theorem dX9_perform_114 : decode cX9_perform 114 = .ok (.ifCond .eq 7, 3) := by decide +kernel
theorem dX9_perform_117 : decode cX9_perform 117 = .ok (.iconst 1, 1) := by decide +kernel
theorem dX9_perform_118 : decode cX9_perform 118 = .ok (.goto 4, 3) := by decide +kernel
theorem dX9_perform_121 : decode cX9_perform 121 = .ok (.iconst 0, 1) := by decide +kernel
theorem dX9_perform_122 : decode cX9_perform 122 = .ok (.istore 5, 2) := by decide +kernel
theorem dX9_perform_124 : decode cX9_perform 124 = .ok (.iload 5, 2) := by decide +kernel
theorem dX9_perform_126 : decode cX9_perform 126 = .ok (.ifCond .eq 42, 3) := by decide +kernel
theorem dX9_perform_129 : decode cX9_perform 129 = .ok (.aload_n 0, 1) := by decide +kernel
theorem dX9_perform_130 : decode cX9_perform 130 = .ok (.aload_n 0, 1) := by decide +kernel
theorem dX9_perform_131 : decode cX9_perform 131 = .ok (.getfield 40, 3) := by decide +kernel
theorem dX9_perform_134 : decode cX9_perform 134 = .ok (.iload_n 3, 1) := by decide +kernel
theorem dX9_perform_135 : decode cX9_perform 135 = .ok (.iaload, 1) := by decide +kernel
theorem dX9_perform_136 : decode cX9_perform 136 = .ok (.aload_n 0, 1) := by decide +kernel
theorem dX9_perform_137 : decode cX9_perform 137 = .ok (.getfield 40, 3) := by decide +kernel
theorem dX9_perform_140 : decode cX9_perform 140 = .ok (.iload_n 3, 1) := by decide +kernel
theorem dX9_perform_141 : decode cX9_perform 141 = .ok (.iconst 1, 1) := by decide +kernel
theorem dX9_perform_142 : decode cX9_perform 142 = .ok (.iadd, 1) := by decide +kernel
theorem dX9_perform_143 : decode cX9_perform 143 = .ok (.iaload, 1) := by decide +kernel
theorem dX9_perform_144 : decode cX9_perform 144 = .ok (.aload_n 0, 1) := by decide +kernel
theorem dX9_perform_145 : decode cX9_perform 145 = .ok (.getfield 40, 3) := by decide +kernel
theorem dX9_perform_148 : decode cX9_perform 148 = .ok (.iload_n 3, 1) := by decide +kernel
theorem dX9_perform_149 : decode cX9_perform 149 = .ok (.iconst 2, 1) := by decide +kernel
theorem dX9_perform_150 : decode cX9_perform 150 = .ok (.iadd, 1) := by decide +kernel
theorem dX9_perform_151 : decode cX9_perform 151 = .ok (.iaload, 1) := by decide +kernel
theorem dX9_perform_152 : decode cX9_perform 152 = .ok (.iload 4, 2) := by decide +kernel
theorem dX9_perform_154 : decode cX9_perform 154 = .ok (.aload_n 0, 1) := by decide +kernel
theorem dX9_perform_155 : decode cX9_perform 155 = .ok (.getfield 40, 3) := by decide +kernel
theorem dX9_perform_158 : decode cX9_perform 158 = .ok (.iload_n 3, 1) := by decide +kernel
theorem dX9_perform_159 : decode cX9_perform 159 = .ok (.iconst 3, 1) := by decide +kernel
theorem dX9_perform_160 : decode cX9_perform 160 = .ok (.iadd, 1) := by decide +kernel
theorem dX9_perform_161 : decode cX9_perform 161 = .ok (.iaload, 1) := by decide +kernel
theorem dX9_perform_162 : decode cX9_perform 162 = .ok (.invokevirtual 168, 3) := by decide +kernel
theorem dX9_perform_165 : decode cX9_perform 165 = .ok (.goto 4, 3) := by decide +kernel
theorem dX9_perform_168 : decode cX9_perform 168 = .ok (.iconst (-1), 1) := by decide +kernel
theorem dX9_perform_169 : decode cX9_perform 169 = .ok (.istore 6, 2) := by decide +kernel
theorem dX9_perform_171 : decode cX9_perform 171 = .ok (.iload 6, 2) := by decide +kernel
theorem dX9_perform_173 : decode cX9_perform 173 = .ok (.ifCond .eq 63, 3) := by decide +kernel
theorem dX9_perform_176 : decode cX9_perform 176 = .ok (.aload_n 0, 1) := by decide +kernel
theorem dX9_perform_177 : decode cX9_perform 177 = .ok (.getfield 43, 3) := by decide +kernel
theorem dX9_perform_180 : decode cX9_perform 180 = .ok (.aload_n 0, 1) := by decide +kernel
theorem dX9_perform_181 : decode cX9_perform 181 = .ok (.getfield 7, 3) := by decide +kernel
theorem dX9_perform_184 : decode cX9_perform 184 = .ok (.invokestatic 65, 3) := by decide +kernel
theorem dX9_perform_187 : decode cX9_perform 187 = .ok (.iload 6, 2) := by decide +kernel
theorem dX9_perform_189 : decode cX9_perform 189 = .ok (.ifCond .le 41, 3) := by decide +kernel
theorem dX9_perform_192 : decode cX9_perform 192 = .ok (.aload_n 0, 1) := by decide +kernel
theorem dX9_perform_193 : decode cX9_perform 193 = .ok (.iconst 0, 1) := by decide +kernel
theorem dX9_perform_194 : decode cX9_perform 194 = .ok (.bipush 9, 2) := by decide +kernel
theorem dX9_perform_196 : decode cX9_perform 196 = .ok (.iload_n 2, 1) := by decide +kernel
theorem dX9_perform_197 : decode cX9_perform 197 = .ok (.invokevirtual 172, 3) := by decide +kernel
theorem dX9_perform_200 : decode cX9_perform 200 = .ok (.aload_n 0, 1) := by decide +kernel
theorem dX9_perform_201 : decode cX9_perform 201 = .ok (.iconst 1, 1) := by decide +kernel
theorem dX9_perform_202 : decode cX9_perform 202 = .ok (.aload_n 0, 1) := by decide +kernel
theorem dX9_perform_203 : decode cX9_perform 203 = .ok (.getfield 40, 3) := by decide +kernel
theorem dX9_perform_206 : decode cX9_perform 206 = .ok (.iload_n 3, 1) := by decide +kernel
theorem dX9_perform_207 : decode cX9_perform 207 = .ok (.iaload, 1) := by decide +kernel
theorem dX9_perform_208 : decode cX9_perform 208 = .ok (.aload_n 0, 1) := by decide +kernel
theorem dX9_perform_209 : decode cX9_perform 209 = .ok (.getfield 40, 3) := by decide +kernel
theorem dX9_perform_212 : decode cX9_perform 212 = .ok (.iload_n 3, 1) := by decide +kernel
theorem dX9_perform_213 : decode cX9_perform 213 = .ok (.iconst 1, 1) := by decide +kernel
theorem dX9_perform_214 : decode cX9_perform 214 = .ok (.iadd, 1) := by decide +kernel
theorem dX9_perform_215 : decode cX9_perform 215 = .ok (.iaload, 1) := by decide +kernel
theorem dX9_perform_216 : decode cX9_perform 216 = .ok (.invokevirtual 172, 3) := by decide +kernel
theorem dX9_perform_219 : decode cX9_perform 219 = .ok (.aload_n 0, 1) := by decide +kernel
theorem dX9_perform_220 : decode cX9_perform 220 = .ok (.iconst 2, 1) := by decide +kernel
theorem dX9_perform_221 : decode cX9_perform 221 = .ok (.iload 6, 2) := by decide +kernel
theorem dX9_perform_223 : decode cX9_perform 223 = .ok (.aload_n 0, 1) := by decide +kernel
theorem dX9_perform_224 : decode cX9_perform 224 = .ok (.getfield 127, 3) := by decide +kernel
theorem dX9_perform_227 : decode cX9_perform 227 = .ok (.invokevirtual 172, 3) := by decide +kernel
theorem dX9_perform_230 : decode cX9_perform 230 = .ok (.aload_n 0, 1) := by decide +kernel
theorem dX9_perform_231 : decode cX9_perform 231 = .ok (.iconst 1, 1) := by decide +kernel
theorem dX9_perform_232 : decode cX9_perform 232 = .ok (.invokevirtual 181, 3) := by decide +kernel
theorem dX9_perform_235 : decode cX9_perform 235 = .ok (.ireturn, 1) := by decide +kernel
theorem dX9_perform_236 : decode cX9_perform 236 = .ok (.aload_n 0, 1) := by decide +kernel
theorem dX9_perform_237 : decode cX9_perform 237 = .ok (.aload_n 0, 1) := by decide +kernel
theorem dX9_perform_238 : decode cX9_perform 238 = .ok (.getfield 40, 3) := by decide +kernel
theorem dX9_perform_241 : decode cX9_perform 241 = .ok (.iload_n 3, 1) := by decide +kernel
theorem dX9_perform_242 : decode cX9_perform 242 = .ok (.iaload, 1) := by decide +kernel
theorem dX9_perform_243 : decode cX9_perform 243 = .ok (.aload_n 0, 1) := by decide +kernel
theorem dX9_perform_244 : decode cX9_perform 244 = .ok (.getfield 40, 3) := by decide +kernel
theorem dX9_perform_247 : decode cX9_perform 247 = .ok (.iload_n 3, 1) := by decide +kernel
theorem dX9_perform_248 : decode cX9_perform 248 = .ok (.iconst 1, 1) := by decide +kernel
theorem dX9_perform_249 : decode cX9_perform 249 = .ok (.iadd, 1) := by decide +kernel
theorem dX9_perform_250 : decode cX9_perform 250 = .ok (.iaload, 1) := by decide +kernel
theorem dX9_perform_251 : decode cX9_perform 251 = .ok (.aload_n 0, 1) := by decide +kernel
theorem dX9_perform_252 : decode cX9_perform 252 = .ok (.getfield 40, 3) := by decide +kernel
theorem dX9_perform_255 : decode cX9_perform 255 = .ok (.iload_n 3, 1) := by decide +kernel
theorem dX9_perform_256 : decode cX9_perform 256 = .ok (.iconst 2, 1) := by decide +kernel
theorem dX9_perform_257 : decode cX9_perform 257 = .ok (.iadd, 1) := by decide +kernel
theorem dX9_perform_258 : decode cX9_perform 258 = .ok (.iaload, 1) := by decide +kernel
theorem dX9_perform_259 : decode cX9_perform 259 = .ok (.iload 4, 2) := by decide +kernel
theorem dX9_perform_261 : decode cX9_perform 261 = .ok (.aload_n 0, 1) := by decide +kernel
theorem dX9_perform_262 : decode cX9_perform 262 = .ok (.getfield 40, 3) := by decide +kernel
theorem dX9_perform_265 : decode cX9_perform 265 = .ok (.iload_n 3, 1) := by decide +kernel
theorem dX9_perform_266 : decode cX9_perform 266 = .ok (.iconst 3, 1) := by decide +kernel
theorem dX9_perform_267 : decode cX9_perform 267 = .ok (.iadd, 1) := by decide +kernel
theorem dX9_perform_268 : decode cX9_perform 268 = .ok (.iaload, 1) := by decide +kernel
theorem dX9_perform_269 : decode cX9_perform 269 = .ok (.invokevirtual 158, 3) := by decide +kernel
theorem dX9_perform_272 : decode cX9_perform 272 = .ok (.iinc 2 1, 3) := by decide +kernel
theorem dX9_perform_275 : decode cX9_perform 275 = .ok (.goto (-235), 3) := by decide +kernel
theorem dX9_perform_278 : decode cX9_perform 278 = .ok (.aload_n 0, 1) := by decide +kernel
theorem dX9_perform_279 : decode cX9_perform 279 = .ok (.aload_n 0, 1) := by decide +kernel
theorem dX9_perform_280 : decode cX9_perform 280 = .ok (.getfield 43, 3) := by decide +kernel
theorem dX9_perform_283 : decode cX9_perform 283 = .ok (.invokevirtual 174, 3) := by decide +kernel
theorem dX9_perform_286 : decode cX9_perform 286 = .ok (.aload_n 0, 1) := by decide +kernel
theorem dX9_perform_287 : decode cX9_perform 287 = .ok (.getfield 241, 3) := by decide +kernel
theorem dX9_perform_290 : decode cX9_perform 290 = .ok (.ireturn, 1) := by decide +kernel
def fX9_perform_169 (N : Nat) (Z : mZ) (K40 : Nat → Int32 → mM → Option (Int32 × mM)) (v0 : Nat) (v2 : Int32) (v3 : Int32) (v4 : Int32) (x0 : Int32) (M : mM) : Option (Int32 × mM) := if x0 = 0 then ck (okO Z v0 9) (bnd1 (Z.2.2.2 v0 20) (fun c24 => ck (okI Z c24) (ck (inB v3 (Z.2.2.1 c24)) (ck (inB (v3 + (1 : Int32)) (Z.2.2.1 c24)) (ck (inB (v3 + (2 : Int32)) (Z.2.2.1 c24)) (ck (inB (v3 + (3 : Int32)) (Z.2.2.1 c24)) (bnd2 (fX9_does N Z v0 (M.1 c24 (v3).toNatClampNeg) (M.1 c24 ((v3 + (1 : Int32))).toNatClampNeg) (M.1 c24 ((v3 + (2 : Int32))).toNatClampNeg) v4 (M.1 c24 ((v3 + (3 : Int32))).toNatClampNeg) M) (fun _ M30 => K40 v0 (v2 + (1 : Int32)) M30)))))))) else ck (okO Z v0 9) (bnd1 (Z.2.2.2 v0 22) (fun c32 => bnd1 (Z.2.2.2 v0 0) (fun c33 => bnd2 (fX9_copies N Z c32 c33 M) (fun _ M34 => if x0 ≤ 0 then bnd2 (fX9_fails N Z v0 (1 : Int32) M34) (fun r36 M36 => some (r36, M36)) else bnd2 (fX9_reports N Z v0 (0 : Int32) (9 : Int32) v2 M34) (fun _ M37 => bnd1 (Z.2.2.2 v0 20) (fun c38 => ck (okI Z c38) (ck (inB v3 (Z.2.2.1 c38)) (ck (inB (v3 + (1 : Int32)) (Z.2.2.1 c38)) (bnd2 (fX9_reports N Z v0 (1 : Int32) (M37.1 c38 (v3).toNatClampNeg) (M37.1 c38 ((v3 + (1 : Int32))).toNatClampNeg) M37) (fun _ M42 => bnd2 (fX9_reports N Z v0 (2 : Int32) x0 (M42.1 v0 14) M42) (fun _ M43 => bnd2 (fX9_fails N Z v0 (1 : Int32) M43) (fun r44 M44 => some (r44, M44)))))))))))))
set_option maxHeartbeats 4000000 in
set_option maxRecDepth 100000 in
theorem tX9_perform_169 {G : mG} {p : Program} {l : Launch} {e : Env} {s : State} {m : MethodId} {args : Array Value} {below : List Frame} {meth : Method} {c : Code} (C : Cx G p l s m args meth c RX9 cX9_perform 7 (some .int) []) (hnm : meth.name = yX9_perform.name) (N : Nat) (Z : mZ) (K40 : Nat → Int32 → mM → Option (Int32 × mM)) (hK40 : ∀ (v0 : Nat) (v2 : Int32) (M : mM) (r : Int32) (M' : mM), K40 v0 v2 M = some (r, M') → JJ G p l e rmX9_perform s m args below meth c 7 (mEnd G below args s rmX9_perform (.inl (some (.int r))) Z M') 0 0 40 [(0, .ref v0), (2, .int v2)] [] Z M) : ∀ (v0 : Nat) (v2 : Int32) (v3 : Int32) (v4 : Int32) (x0 : Int32) (M : mM) (r : Int32) (M' : mM), fX9_perform_169 N Z K40 v0 v2 v3 v4 x0 M = some (r, M') → JJ G p l e rmX9_perform s m args below meth c 7 (mEnd G below args s rmX9_perform (.inl (some (.int r))) Z M') 0 0 169 [(0, .ref v0), (2, .int v2), (3, .int v3), (4, .int v4)] [.int x0] Z M := by
  intro v0 v2 v3 v4 x0 M r M' h
  unfold fX9_perform_169 at h
  refine j_istore C dX9_perform_169 (by decide) (L' := [(6, .int x0), (0, .ref v0), (2, .int v2), (3, .int v3), (4, .int v4)]) rfl ?_
  refine j_iload C dX9_perform_171 0 rfl ?_
  refine j_if_eq C dX9_perform_173 (tgt := 236) (by decide) (fun hc22 => ?_) (fun hc22 => ?_)
  · rw [if_pos hc22] at h
    refine j_aload_n C dX9_perform_236 rfl 1 rfl ?_
    refine j_aload_n C dX9_perform_237 rfl 1 rfl ?_
    obtain ⟨ho23, h⟩ := ck_spec h
    obtain ⟨c24, hr24, h⟩ := bnd1_spec h
    refine j_getR C (cn := RX9) (T := TX9) (N := 23) (ci := 9) rfl iX9 ho23 20 (by decide) rfl fwRX9_40 dX9_perform_238 hr24 ?_
    refine j_iload_n C dX9_perform_241 rfl 3 rfl ?_
    obtain ⟨ho25, h⟩ := ck_spec h
    obtain ⟨ho26, h⟩ := ck_spec h
    refine j_iald C ho25 ho26 dX9_perform_242 ?_
    refine j_aload_n C dX9_perform_243 rfl 1 rfl ?_
    refine j_getR C (cn := RX9) (T := TX9) (N := 23) (ci := 9) rfl iX9 ho23 20 (by decide) rfl fwRX9_40 dX9_perform_244 hr24 ?_
    refine j_iload_n C dX9_perform_247 rfl 3 rfl ?_
    refine j_iconst C dX9_perform_248 (v := (1 : Int32)) (by decide) ?_
    refine j_iadd C dX9_perform_249 ?_
    obtain ⟨ho27, h⟩ := ck_spec h
    refine j_iald C ho25 ho27 dX9_perform_250 ?_
    refine j_aload_n C dX9_perform_251 rfl 1 rfl ?_
    refine j_getR C (cn := RX9) (T := TX9) (N := 23) (ci := 9) rfl iX9 ho23 20 (by decide) rfl fwRX9_40 dX9_perform_252 hr24 ?_
    refine j_iload_n C dX9_perform_255 rfl 3 rfl ?_
    refine j_iconst C dX9_perform_256 (v := (2 : Int32)) (by decide) ?_
    refine j_iadd C dX9_perform_257 ?_
    obtain ⟨ho28, h⟩ := ck_spec h
    refine j_iald C ho25 ho28 dX9_perform_258 ?_
    refine j_iload C dX9_perform_259 4 rfl ?_
    refine j_aload_n C dX9_perform_261 rfl 1 rfl ?_
    refine j_getR C (cn := RX9) (T := TX9) (N := 23) (ci := 9) rfl iX9 ho23 20 (by decide) rfl fwRX9_40 dX9_perform_262 hr24 ?_
    refine j_iload_n C dX9_perform_265 rfl 3 rfl ?_
    refine j_iconst C dX9_perform_266 (v := (3 : Int32)) (by decide) ?_
    refine j_iadd C dX9_perform_267 ?_
    obtain ⟨ho29, h⟩ := ck_spec h
    refine j_iald C ho25 ho29 dX9_perform_268 ?_
    obtain ⟨_, M30, hq30, h⟩ := bnd2_spec h
    refine j_run0 (c_V C (As := [.int (M.1 c24 (v3).toNatClampNeg), .int (M.1 c24 ((v3 + (1 : Int32))).toNatClampNeg), .int (M.1 c24 ((v3 + (2 : Int32))).toNatClampNeg), .int v4, .int (M.1 c24 ((v3 + (3 : Int32))).toNatClampNeg)]) (rest := []) (ctX9_does C.2.2.2.2.2.2.2.2.1 N Z hq30) kcRX9_158 oyX9_does (ci := 9) (T := TX9) (N := 23) rfl (by decide) ho23 ⟨by decide, by decide⟩ ⟨by decide, by decide⟩ (Nat.le_of_ble_eq_true rfl) rfl dX9_perform_269) ?_
    refine j_iinc C dX9_perform_272 2 rfl (v := (v2 + (1 : Int32))) (by first | rfl | decide) (by decide) (L' := [(2, .int (v2 + (1 : Int32))), (6, .int x0), (0, .ref v0), (3, .int v3), (4, .int v4)]) rfl ?_
    refine j_goto C dX9_perform_275 (tgt := 40) (by decide) ?_
    refine j_sub (L' := [(0, .ref v0), (2, .int (v2 + (1 : Int32)))]) [2, 0] rfl ?_
    exact hK40 v0 (v2 + (1 : Int32)) M30 r M' h
  · rw [if_neg hc22] at h
    refine j_aload_n C dX9_perform_176 rfl 1 rfl ?_
    obtain ⟨ho31, h⟩ := ck_spec h
    obtain ⟨c32, hr32, h⟩ := bnd1_spec h
    refine j_getR C (cn := RX9) (T := TX9) (N := 23) (ci := 9) rfl iX9 ho31 22 (by decide) rfl fwRX9_43 dX9_perform_177 hr32 ?_
    refine j_aload_n C dX9_perform_180 rfl 1 rfl ?_
    obtain ⟨c33, hr33, h⟩ := bnd1_spec h
    refine j_getR C (cn := RX9) (T := TX9) (N := 23) (ci := 9) rfl iX9 ho31 0 (by decide) rfl fwRX9_7 dX9_perform_181 hr33 ?_
    obtain ⟨_, M34, hq34, h⟩ := bnd2_spec h
    refine j_run0 (c_S C (As := [.ref c32, .ref c33]) (rest := []) (ctX9_copies C.2.2.2.2.2.2.2.2.1 N Z hq34) kcRX9_65 oyX9_copies ⟨by decide, by decide⟩ ⟨by decide, by decide⟩ (Nat.le_of_ble_eq_true rfl) rfl dX9_perform_184) ?_
    refine j_iload C dX9_perform_187 0 rfl ?_
    refine j_if_le C dX9_perform_189 (tgt := 230) (by decide) (fun hc35 => ?_) (fun hc35 => ?_)
    · rw [if_pos hc35] at h
      refine j_aload_n C dX9_perform_230 rfl 1 rfl ?_
      refine j_iconst C dX9_perform_231 (v := (1 : Int32)) (by decide) ?_
      obtain ⟨r36, M36, hq36, h⟩ := bnd2_spec h
      refine j_run1 (c_V C (As := [.int (1 : Int32)]) (rest := []) (ctX9_fails C.2.2.2.2.2.2.2.2.1 N Z hq36) kcRX9_181 oyX9_fails (ci := 9) (T := TX9) (N := 23) rfl (by decide) ho31 ⟨by decide, by decide⟩ ⟨by decide, by decide⟩ (Nat.le_of_ble_eq_true rfl) rfl dX9_perform_232) ?_
      obtain ⟨rfl, rfl⟩ := so2 h
      exact j_iret C rfl (by decide) (by decide) dX9_perform_235
    · rw [if_neg hc35] at h
      refine j_aload_n C dX9_perform_192 rfl 1 rfl ?_
      refine j_iconst C dX9_perform_193 (v := (0 : Int32)) (by decide) ?_
      refine j_bipush C dX9_perform_194 (v := (9 : Int32)) (by decide) ?_
      refine j_iload_n C dX9_perform_196 rfl 2 rfl ?_
      obtain ⟨_, M37, hq37, h⟩ := bnd2_spec h
      refine j_run0 (c_V C (As := [.int (0 : Int32), .int (9 : Int32), .int v2]) (rest := []) (ctX9_reports C.2.2.2.2.2.2.2.2.1 N Z hq37) kcRX9_172 oyX9_reports (ci := 9) (T := TX9) (N := 23) rfl (by decide) ho31 ⟨by decide, by decide⟩ ⟨by decide, by decide⟩ (Nat.le_of_ble_eq_true rfl) rfl dX9_perform_197) ?_
      refine j_aload_n C dX9_perform_200 rfl 1 rfl ?_
      refine j_iconst C dX9_perform_201 (v := (1 : Int32)) (by decide) ?_
      refine j_aload_n C dX9_perform_202 rfl 1 rfl ?_
      obtain ⟨c38, hr38, h⟩ := bnd1_spec h
      refine j_getR C (cn := RX9) (T := TX9) (N := 23) (ci := 9) rfl iX9 ho31 20 (by decide) rfl fwRX9_40 dX9_perform_203 hr38 ?_
      refine j_iload_n C dX9_perform_206 rfl 3 rfl ?_
      obtain ⟨ho39, h⟩ := ck_spec h
      obtain ⟨ho40, h⟩ := ck_spec h
      refine j_iald C ho39 ho40 dX9_perform_207 ?_
      refine j_aload_n C dX9_perform_208 rfl 1 rfl ?_
      refine j_getR C (cn := RX9) (T := TX9) (N := 23) (ci := 9) rfl iX9 ho31 20 (by decide) rfl fwRX9_40 dX9_perform_209 hr38 ?_
      refine j_iload_n C dX9_perform_212 rfl 3 rfl ?_
      refine j_iconst C dX9_perform_213 (v := (1 : Int32)) (by decide) ?_
      refine j_iadd C dX9_perform_214 ?_
      obtain ⟨ho41, h⟩ := ck_spec h
      refine j_iald C ho39 ho41 dX9_perform_215 ?_
      obtain ⟨_, M42, hq42, h⟩ := bnd2_spec h
      refine j_run0 (c_V C (As := [.int (1 : Int32), .int (M37.1 c38 (v3).toNatClampNeg), .int (M37.1 c38 ((v3 + (1 : Int32))).toNatClampNeg)]) (rest := []) (ctX9_reports C.2.2.2.2.2.2.2.2.1 N Z hq42) kcRX9_172 oyX9_reports (ci := 9) (T := TX9) (N := 23) rfl (by decide) ho31 ⟨by decide, by decide⟩ ⟨by decide, by decide⟩ (Nat.le_of_ble_eq_true rfl) rfl dX9_perform_216) ?_
      refine j_aload_n C dX9_perform_219 rfl 1 rfl ?_
      refine j_iconst C dX9_perform_220 (v := (2 : Int32)) (by decide) ?_
      refine j_iload C dX9_perform_221 0 rfl ?_
      refine j_aload_n C dX9_perform_223 rfl 1 rfl ?_
      refine j_getI C (cn := RX9) (T := TX9) (N := 23) (ci := 9) rfl iX9 ho31 14 (by decide) rfl fwRX9_127 dX9_perform_224 ?_
      obtain ⟨_, M43, hq43, h⟩ := bnd2_spec h
      refine j_run0 (c_V C (As := [.int (2 : Int32), .int x0, .int (M42.1 v0 14)]) (rest := []) (ctX9_reports C.2.2.2.2.2.2.2.2.1 N Z hq43) kcRX9_172 oyX9_reports (ci := 9) (T := TX9) (N := 23) rfl (by decide) ho31 ⟨by decide, by decide⟩ ⟨by decide, by decide⟩ (Nat.le_of_ble_eq_true rfl) rfl dX9_perform_227) ?_
      refine j_aload_n C dX9_perform_230 rfl 1 rfl ?_
      refine j_iconst C dX9_perform_231 (v := (1 : Int32)) (by decide) ?_
      obtain ⟨r44, M44, hq44, h⟩ := bnd2_spec h
      refine j_run1 (c_V C (As := [.int (1 : Int32)]) (rest := []) (ctX9_fails C.2.2.2.2.2.2.2.2.1 N Z hq44) kcRX9_181 oyX9_fails (ci := 9) (T := TX9) (N := 23) rfl (by decide) ho31 ⟨by decide, by decide⟩ ⟨by decide, by decide⟩ (Nat.le_of_ble_eq_true rfl) rfl dX9_perform_232) ?_
      obtain ⟨rfl, rfl⟩ := so2 h
      exact j_iret C rfl (by decide) (by decide) dX9_perform_235
def fX9_perform_122 (N : Nat) (Z : mZ) (K40 : Nat → Int32 → mM → Option (Int32 × mM)) (v0 : Nat) (v2 : Int32) (v3 : Int32) (v4 : Int32) (x0 : Int32) (M : mM) : Option (Int32 × mM) := if x0 = 0 then fX9_perform_169 N Z K40 v0 v2 v3 v4 (-1 : Int32) M else ck (okO Z v0 9) (bnd1 (Z.2.2.2 v0 20) (fun c46 => ck (okI Z c46) (ck (inB v3 (Z.2.2.1 c46)) (ck (inB (v3 + (1 : Int32)) (Z.2.2.1 c46)) (ck (inB (v3 + (2 : Int32)) (Z.2.2.1 c46)) (ck (inB (v3 + (3 : Int32)) (Z.2.2.1 c46)) (bnd2 (fX9_against N Z v0 (M.1 c46 (v3).toNatClampNeg) (M.1 c46 ((v3 + (1 : Int32))).toNatClampNeg) (M.1 c46 ((v3 + (2 : Int32))).toNatClampNeg) v4 (M.1 c46 ((v3 + (3 : Int32))).toNatClampNeg) M) (fun r52 M52 => fX9_perform_169 N Z K40 v0 v2 v3 v4 r52 M52))))))))
set_option maxHeartbeats 4000000 in
set_option maxRecDepth 100000 in
theorem tX9_perform_122 {G : mG} {p : Program} {l : Launch} {e : Env} {s : State} {m : MethodId} {args : Array Value} {below : List Frame} {meth : Method} {c : Code} (C : Cx G p l s m args meth c RX9 cX9_perform 7 (some .int) []) (hnm : meth.name = yX9_perform.name) (N : Nat) (Z : mZ) (K40 : Nat → Int32 → mM → Option (Int32 × mM)) (hK40 : ∀ (v0 : Nat) (v2 : Int32) (M : mM) (r : Int32) (M' : mM), K40 v0 v2 M = some (r, M') → JJ G p l e rmX9_perform s m args below meth c 7 (mEnd G below args s rmX9_perform (.inl (some (.int r))) Z M') 0 0 40 [(0, .ref v0), (2, .int v2)] [] Z M) : ∀ (v0 : Nat) (v2 : Int32) (v3 : Int32) (v4 : Int32) (x0 : Int32) (M : mM) (r : Int32) (M' : mM), fX9_perform_122 N Z K40 v0 v2 v3 v4 x0 M = some (r, M') → JJ G p l e rmX9_perform s m args below meth c 7 (mEnd G below args s rmX9_perform (.inl (some (.int r))) Z M') 0 0 122 [(0, .ref v0), (2, .int v2), (3, .int v3), (4, .int v4)] [.int x0] Z M := by
  intro v0 v2 v3 v4 x0 M r M' h
  unfold fX9_perform_122 at h
  refine j_istore C dX9_perform_122 (by decide) (L' := [(5, .int x0), (0, .ref v0), (2, .int v2), (3, .int v3), (4, .int v4)]) rfl ?_
  refine j_iload C dX9_perform_124 0 rfl ?_
  refine j_if_eq C dX9_perform_126 (tgt := 168) (by decide) (fun hc21 => ?_) (fun hc21 => ?_)
  · rw [if_pos hc21] at h
    refine j_iconst C dX9_perform_168 (v := (-1 : Int32)) (by decide) ?_
    refine j_sub (L' := [(0, .ref v0), (2, .int v2), (3, .int v3), (4, .int v4)]) [1, 2, 3, 4] rfl ?_
    exact tX9_perform_169 C hnm N Z K40 hK40 v0 v2 v3 v4 (-1 : Int32) M _ _ h
  · rw [if_neg hc21] at h
    refine j_aload_n C dX9_perform_129 rfl 1 rfl ?_
    refine j_aload_n C dX9_perform_130 rfl 1 rfl ?_
    obtain ⟨ho45, h⟩ := ck_spec h
    obtain ⟨c46, hr46, h⟩ := bnd1_spec h
    refine j_getR C (cn := RX9) (T := TX9) (N := 23) (ci := 9) rfl iX9 ho45 20 (by decide) rfl fwRX9_40 dX9_perform_131 hr46 ?_
    refine j_iload_n C dX9_perform_134 rfl 3 rfl ?_
    obtain ⟨ho47, h⟩ := ck_spec h
    obtain ⟨ho48, h⟩ := ck_spec h
    refine j_iald C ho47 ho48 dX9_perform_135 ?_
    refine j_aload_n C dX9_perform_136 rfl 1 rfl ?_
    refine j_getR C (cn := RX9) (T := TX9) (N := 23) (ci := 9) rfl iX9 ho45 20 (by decide) rfl fwRX9_40 dX9_perform_137 hr46 ?_
    refine j_iload_n C dX9_perform_140 rfl 3 rfl ?_
    refine j_iconst C dX9_perform_141 (v := (1 : Int32)) (by decide) ?_
    refine j_iadd C dX9_perform_142 ?_
    obtain ⟨ho49, h⟩ := ck_spec h
    refine j_iald C ho47 ho49 dX9_perform_143 ?_
    refine j_aload_n C dX9_perform_144 rfl 1 rfl ?_
    refine j_getR C (cn := RX9) (T := TX9) (N := 23) (ci := 9) rfl iX9 ho45 20 (by decide) rfl fwRX9_40 dX9_perform_145 hr46 ?_
    refine j_iload_n C dX9_perform_148 rfl 3 rfl ?_
    refine j_iconst C dX9_perform_149 (v := (2 : Int32)) (by decide) ?_
    refine j_iadd C dX9_perform_150 ?_
    obtain ⟨ho50, h⟩ := ck_spec h
    refine j_iald C ho47 ho50 dX9_perform_151 ?_
    refine j_iload C dX9_perform_152 4 rfl ?_
    refine j_aload_n C dX9_perform_154 rfl 1 rfl ?_
    refine j_getR C (cn := RX9) (T := TX9) (N := 23) (ci := 9) rfl iX9 ho45 20 (by decide) rfl fwRX9_40 dX9_perform_155 hr46 ?_
    refine j_iload_n C dX9_perform_158 rfl 3 rfl ?_
    refine j_iconst C dX9_perform_159 (v := (3 : Int32)) (by decide) ?_
    refine j_iadd C dX9_perform_160 ?_
    obtain ⟨ho51, h⟩ := ck_spec h
    refine j_iald C ho47 ho51 dX9_perform_161 ?_
    obtain ⟨r52, M52, hq52, h⟩ := bnd2_spec h
    refine j_run1 (c_V C (As := [.int (M.1 c46 (v3).toNatClampNeg), .int (M.1 c46 ((v3 + (1 : Int32))).toNatClampNeg), .int (M.1 c46 ((v3 + (2 : Int32))).toNatClampNeg), .int v4, .int (M.1 c46 ((v3 + (3 : Int32))).toNatClampNeg)]) (rest := []) (ctX9_against C.2.2.2.2.2.2.2.2.1 N Z hq52) kcRX9_168 oyX9_against (ci := 9) (T := TX9) (N := 23) rfl (by decide) ho45 ⟨by decide, by decide⟩ ⟨by decide, by decide⟩ (Nat.le_of_ble_eq_true rfl) rfl dX9_perform_162) ?_
    refine j_goto C dX9_perform_165 (tgt := 169) (by decide) ?_
    refine j_sub (L' := [(0, .ref v0), (2, .int v2), (3, .int v3), (4, .int v4)]) [1, 2, 3, 4] rfl ?_
    exact tX9_perform_169 C hnm N Z K40 hK40 v0 v2 v3 v4 r52 M52 _ _ h
def fX9_perform_69 (N : Nat) (Z : mZ) (K40 : Nat → Int32 → mM → Option (Int32 × mM)) (v0 : Nat) (v2 : Int32) (v3 : Int32) (x0 : Int32) (M : mM) : Option (Int32 × mM) := ck (okO Z v0 9) (bnd1 (Z.2.2.2 v0 20) (fun c16 => ck (okI Z c16) (ck (inB (v3 + (1 : Int32)) (Z.2.2.1 c16)) (bnd2 (fX9_isPlace N Z v0 (M.1 c16 ((v3 + (1 : Int32))).toNatClampNeg) M) (fun r19 M19 => if r19 = 0 then fX9_perform_122 N Z K40 v0 v2 v3 x0 (0 : Int32) M19 else ck (inB v3 (Z.2.2.1 c16)) (if (M19.1 c16 (v3).toNatClampNeg) = (2 : Int32) then if x0 = 0 then ck (inB (v3 + (3 : Int32)) (Z.2.2.1 c16)) (bnd2 (fX9_in N Z (M19.1 c16 ((v3 + (3 : Int32))).toNatClampNeg) (1 : Int32) (4 : Int32) M19) (fun r57 M57 => if r57 = 0 then fX9_perform_122 N Z K40 v0 v2 v3 x0 (0 : Int32) M57 else fX9_perform_122 N Z K40 v0 v2 v3 x0 (1 : Int32) M57)) else fX9_perform_122 N Z K40 v0 v2 v3 x0 (1 : Int32) M19 else fX9_perform_122 N Z K40 v0 v2 v3 x0 (1 : Int32) M19))))))
set_option maxHeartbeats 4000000 in
set_option maxRecDepth 100000 in
theorem tX9_perform_69 {G : mG} {p : Program} {l : Launch} {e : Env} {s : State} {m : MethodId} {args : Array Value} {below : List Frame} {meth : Method} {c : Code} (C : Cx G p l s m args meth c RX9 cX9_perform 7 (some .int) []) (hnm : meth.name = yX9_perform.name) (N : Nat) (Z : mZ) (K40 : Nat → Int32 → mM → Option (Int32 × mM)) (hK40 : ∀ (v0 : Nat) (v2 : Int32) (M : mM) (r : Int32) (M' : mM), K40 v0 v2 M = some (r, M') → JJ G p l e rmX9_perform s m args below meth c 7 (mEnd G below args s rmX9_perform (.inl (some (.int r))) Z M') 0 0 40 [(0, .ref v0), (2, .int v2)] [] Z M) : ∀ (v0 : Nat) (v2 : Int32) (v3 : Int32) (x0 : Int32) (M : mM) (r : Int32) (M' : mM), fX9_perform_69 N Z K40 v0 v2 v3 x0 M = some (r, M') → JJ G p l e rmX9_perform s m args below meth c 7 (mEnd G below args s rmX9_perform (.inl (some (.int r))) Z M') 0 0 69 [(0, .ref v0), (2, .int v2), (3, .int v3)] [.int x0] Z M := by
  intro v0 v2 v3 x0 M r M' h
  unfold fX9_perform_69 at h
  refine j_istore C dX9_perform_69 (by decide) (L' := [(4, .int x0), (0, .ref v0), (2, .int v2), (3, .int v3)]) rfl ?_
  refine j_aload_n C dX9_perform_71 rfl 1 rfl ?_
  refine j_aload_n C dX9_perform_72 rfl 1 rfl ?_
  obtain ⟨ho15, h⟩ := ck_spec h
  obtain ⟨c16, hr16, h⟩ := bnd1_spec h
  refine j_getR C (cn := RX9) (T := TX9) (N := 23) (ci := 9) rfl iX9 ho15 20 (by decide) rfl fwRX9_40 dX9_perform_73 hr16 ?_
  refine j_iload_n C dX9_perform_76 rfl 3 rfl ?_
  refine j_iconst C dX9_perform_77 (v := (1 : Int32)) (by decide) ?_
  refine j_iadd C dX9_perform_78 ?_
  obtain ⟨ho17, h⟩ := ck_spec h
  obtain ⟨ho18, h⟩ := ck_spec h
  refine j_iald C ho17 ho18 dX9_perform_79 ?_
  obtain ⟨r19, M19, hq19, h⟩ := bnd2_spec h
  refine j_run1 (c_V C (As := [.int (M.1 c16 ((v3 + (1 : Int32))).toNatClampNeg)]) (rest := []) (ctX9_isPlace C.2.2.2.2.2.2.2.2.1 N Z hq19) kcRX9_184 oyX9_isPlace (ci := 9) (T := TX9) (N := 23) rfl (by decide) ho15 ⟨by decide, by decide⟩ ⟨by decide, by decide⟩ (Nat.le_of_ble_eq_true rfl) rfl dX9_perform_80) ?_
  refine j_if_eq C dX9_perform_83 (tgt := 121) (by decide) (fun hc20 => ?_) (fun hc20 => ?_)
  · rw [if_pos hc20] at h
    refine j_iconst C dX9_perform_121 (v := (0 : Int32)) (by decide) ?_
    refine j_sub (L' := [(0, .ref v0), (2, .int v2), (3, .int v3), (4, .int x0)]) [1, 2, 3, 0] rfl ?_
    exact tX9_perform_122 C hnm N Z K40 hK40 v0 v2 v3 x0 (0 : Int32) M19 _ _ h
  · rw [if_neg hc20] at h
    refine j_aload_n C dX9_perform_86 rfl 1 rfl ?_
    refine j_getR C (cn := RX9) (T := TX9) (N := 23) (ci := 9) rfl iX9 ho15 20 (by decide) rfl fwRX9_40 dX9_perform_87 hr16 ?_
    refine j_iload_n C dX9_perform_90 rfl 3 rfl ?_
    obtain ⟨ho53, h⟩ := ck_spec h
    refine j_iald C ho17 ho53 dX9_perform_91 ?_
    refine j_iconst C dX9_perform_92 (v := (2 : Int32)) (by decide) ?_
    refine j_icmp_ne C dX9_perform_93 (tgt := 117) (by decide) (fun hc54 => ?_) (fun hc54 => ?_)
    · rw [if_neg hc54] at h
      refine j_iconst C dX9_perform_117 (v := (1 : Int32)) (by decide) ?_
      refine j_goto C dX9_perform_118 (tgt := 122) (by decide) ?_
      refine j_sub (L' := [(0, .ref v0), (2, .int v2), (3, .int v3), (4, .int x0)]) [1, 2, 3, 0] rfl ?_
      exact tX9_perform_122 C hnm N Z K40 hK40 v0 v2 v3 x0 (1 : Int32) M19 _ _ h
    · rw [if_pos hc54] at h
      refine j_iload C dX9_perform_96 0 rfl ?_
      refine j_if_ne C dX9_perform_98 (tgt := 117) (by decide) (fun hc55 => ?_) (fun hc55 => ?_)
      · rw [if_neg hc55] at h
        refine j_iconst C dX9_perform_117 (v := (1 : Int32)) (by decide) ?_
        refine j_goto C dX9_perform_118 (tgt := 122) (by decide) ?_
        refine j_sub (L' := [(0, .ref v0), (2, .int v2), (3, .int v3), (4, .int x0)]) [1, 2, 3, 0] rfl ?_
        exact tX9_perform_122 C hnm N Z K40 hK40 v0 v2 v3 x0 (1 : Int32) M19 _ _ h
      · rw [if_pos hc55] at h
        refine j_aload_n C dX9_perform_101 rfl 1 rfl ?_
        refine j_getR C (cn := RX9) (T := TX9) (N := 23) (ci := 9) rfl iX9 ho15 20 (by decide) rfl fwRX9_40 dX9_perform_102 hr16 ?_
        refine j_iload_n C dX9_perform_105 rfl 3 rfl ?_
        refine j_iconst C dX9_perform_106 (v := (3 : Int32)) (by decide) ?_
        refine j_iadd C dX9_perform_107 ?_
        obtain ⟨ho56, h⟩ := ck_spec h
        refine j_iald C ho17 ho56 dX9_perform_108 ?_
        refine j_iconst C dX9_perform_109 (v := (1 : Int32)) (by decide) ?_
        refine j_iconst C dX9_perform_110 (v := (4 : Int32)) (by decide) ?_
        obtain ⟨r57, M57, hq57, h⟩ := bnd2_spec h
        refine j_run1 (c_S C (As := [.int (M19.1 c16 ((v3 + (3 : Int32))).toNatClampNeg), .int (1 : Int32), .int (4 : Int32)]) (rest := []) (ctX9_in C.2.2.2.2.2.2.2.2.1 N Z hq57) kcRX9_54 oyX9_in ⟨by decide, by decide⟩ ⟨by decide, by decide⟩ (Nat.le_of_ble_eq_true rfl) rfl dX9_perform_111) ?_
        refine j_if_eq C dX9_perform_114 (tgt := 121) (by decide) (fun hc58 => ?_) (fun hc58 => ?_)
        · rw [if_pos hc58] at h
          refine j_iconst C dX9_perform_121 (v := (0 : Int32)) (by decide) ?_
          refine j_sub (L' := [(0, .ref v0), (2, .int v2), (3, .int v3), (4, .int x0)]) [1, 2, 3, 0] rfl ?_
          exact tX9_perform_122 C hnm N Z K40 hK40 v0 v2 v3 x0 (0 : Int32) M57 _ _ h
        · rw [if_neg hc58] at h
          refine j_iconst C dX9_perform_117 (v := (1 : Int32)) (by decide) ?_
          refine j_goto C dX9_perform_118 (tgt := 122) (by decide) ?_
          refine j_sub (L' := [(0, .ref v0), (2, .int v2), (3, .int v3), (4, .int x0)]) [1, 2, 3, 0] rfl ?_
          exact tX9_perform_122 C hnm N Z K40 hK40 v0 v2 v3 x0 (1 : Int32) M57 _ _ h
def fX9_perform_40 (N : Nat) (Z : mZ) : Nat → Nat → Int32 → mM → Option (Int32 × mM)
  | 0, _, _, _ => none
  | fu + 1, v0, v2, M => ck (okO Z v0 9) (if (M.1 v0 21) ≤ v2 then bnd1 (Z.2.2.2 v0 22) (fun c9 => bnd2 (fX9_changes N Z v0 c9 M) (fun _ M10 => some ((M10.1 v0 21), M10))) else bnd1 (Z.2.2.2 v0 20) (fun c11 => ck (okI Z c11) (ck (inB (((5 : Int32) * v2) + (4 : Int32)) (Z.2.2.1 c11)) (if (M.1 c11 ((((5 : Int32) * v2) + (4 : Int32))).toNatClampNeg) = (1 : Int32) then fX9_perform_69 N Z (fun w0 w2 M9 => fX9_perform_40 N Z fu w0 w2 M9) v0 v2 ((5 : Int32) * v2) (1 : Int32) M else fX9_perform_69 N Z (fun w0 w2 M9 => fX9_perform_40 N Z fu w0 w2 M9) v0 v2 ((5 : Int32) * v2) (0 : Int32) M))))
set_option maxHeartbeats 4000000 in
set_option maxRecDepth 100000 in
theorem tX9_perform_40 {G : mG} {p : Program} {l : Launch} {e : Env} {s : State} {m : MethodId} {args : Array Value} {below : List Frame} {meth : Method} {c : Code} (C : Cx G p l s m args meth c RX9 cX9_perform 7 (some .int) []) (hnm : meth.name = yX9_perform.name) (N : Nat) (Z : mZ) : ∀ (fu : Nat) (v0 : Nat) (v2 : Int32) (M : mM) (r : Int32) (M' : mM), fX9_perform_40 N Z fu v0 v2 M = some (r, M') → JJ G p l e rmX9_perform s m args below meth c 7 (mEnd G below args s rmX9_perform (.inl (some (.int r))) Z M') 0 0 40 [(0, .ref v0), (2, .int v2)] [] Z M := by
  intro fu
  induction fu with
  | zero =>
    intro v0 v2 M r M' h
    cases h
  | succ fu ih =>
    intro v0 v2 M r M' h
    rw [fX9_perform_40] at h
    refine j_iload_n C dX9_perform_40 rfl 1 rfl ?_
    refine j_aload_n C dX9_perform_41 rfl 0 rfl ?_
    obtain ⟨ho7, h⟩ := ck_spec h
    refine j_getI C (cn := RX9) (T := TX9) (N := 23) (ci := 9) rfl iX9 ho7 21 (by decide) rfl fwRX9_241 dX9_perform_42 ?_
    refine j_icmp_ge C dX9_perform_45 (tgt := 278) (by decide) (fun hc8 => ?_) (fun hc8 => ?_)
    · rw [if_pos hc8] at h
      refine j_aload_n C dX9_perform_278 rfl 0 rfl ?_
      refine j_aload_n C dX9_perform_279 rfl 0 rfl ?_
      obtain ⟨c9, hr9, h⟩ := bnd1_spec h
      refine j_getR C (cn := RX9) (T := TX9) (N := 23) (ci := 9) rfl iX9 ho7 22 (by decide) rfl fwRX9_43 dX9_perform_280 hr9 ?_
      obtain ⟨_, M10, hq10, h⟩ := bnd2_spec h
      refine j_run0 (c_V C (As := [.ref c9]) (rest := []) (ctX9_changes C.2.2.2.2.2.2.2.2.1 N Z hq10) kcRX9_174 oyX9_changes (ci := 9) (T := TX9) (N := 23) rfl (by decide) ho7 ⟨by decide, by decide⟩ ⟨by decide, by decide⟩ (Nat.le_of_ble_eq_true rfl) rfl dX9_perform_283) ?_
      refine j_aload_n C dX9_perform_286 rfl 0 rfl ?_
      refine j_getI C (cn := RX9) (T := TX9) (N := 23) (ci := 9) rfl iX9 ho7 21 (by decide) rfl fwRX9_241 dX9_perform_287 ?_
      obtain ⟨rfl, rfl⟩ := so2 h
      exact j_iret C rfl (by decide) (by decide) dX9_perform_290
    · rw [if_neg hc8] at h
      refine j_iconst C dX9_perform_48 (v := (5 : Int32)) (by decide) ?_
      refine j_iload_n C dX9_perform_49 rfl 1 rfl ?_
      refine j_imul C dX9_perform_50 ?_
      refine j_istore_n C dX9_perform_51 rfl (by decide) (L' := [(3, .int ((5 : Int32) * v2)), (0, .ref v0), (2, .int v2)]) rfl ?_
      refine j_aload_n C dX9_perform_52 rfl 1 rfl ?_
      obtain ⟨c11, hr11, h⟩ := bnd1_spec h
      refine j_getR C (cn := RX9) (T := TX9) (N := 23) (ci := 9) rfl iX9 ho7 20 (by decide) rfl fwRX9_40 dX9_perform_53 hr11 ?_
      refine j_iload_n C dX9_perform_56 rfl 0 rfl ?_
      refine j_iconst C dX9_perform_57 (v := (4 : Int32)) (by decide) ?_
      refine j_iadd C dX9_perform_58 ?_
      obtain ⟨ho12, h⟩ := ck_spec h
      obtain ⟨ho13, h⟩ := ck_spec h
      refine j_iald C ho12 ho13 dX9_perform_59 ?_
      refine j_iconst C dX9_perform_60 (v := (1 : Int32)) (by decide) ?_
      refine j_icmp_ne C dX9_perform_61 (tgt := 68) (by decide) (fun hc14 => ?_) (fun hc14 => ?_)
      · rw [if_neg hc14] at h
        refine j_iconst C dX9_perform_68 (v := (0 : Int32)) (by decide) ?_
        refine j_sub (L' := [(0, .ref v0), (2, .int v2), (3, .int ((5 : Int32) * v2))]) [1, 2, 0] rfl ?_
        exact tX9_perform_69 C hnm N Z (fun w0 w2 M9 => fX9_perform_40 N Z fu w0 w2 M9) (fun w0 w2 M9 r9 M9' h9 => ih w0 w2 M9 r9 M9' h9) v0 v2 ((5 : Int32) * v2) (0 : Int32) M _ _ h
      · rw [if_pos hc14] at h
        refine j_iconst C dX9_perform_64 (v := (1 : Int32)) (by decide) ?_
        refine j_goto C dX9_perform_65 (tgt := 69) (by decide) ?_
        refine j_sub (L' := [(0, .ref v0), (2, .int v2), (3, .int ((5 : Int32) * v2))]) [1, 2, 0] rfl ?_
        exact tX9_perform_69 C hnm N Z (fun w0 w2 M9 => fX9_perform_40 N Z fu w0 w2 M9) (fun w0 w2 M9 r9 M9' h9 => ih w0 w2 M9 r9 M9' h9) v0 v2 ((5 : Int32) * v2) (1 : Int32) M _ _ h
def fX9_perform (N : Nat) (Z : mZ) (a0 : Nat) (M : mM) : Option (Int32 × mM) := ck (okO Z a0 9) (bnd2 (fX9_isText N Z a0 (sI M a0 9 (0 : Int32))) (fun r2 M2 => if r2 = 0 then some (((-100 : Int32) - ((sI M2 a0 18 (0 : Int32)).1 a0 19)), (sI M2 a0 18 (0 : Int32))) else bnd1 (Z.2.2.2 a0 0) (fun c4 => bnd1 (Z.2.2.2 a0 22) (fun c5 => bnd2 (fX9_copies N Z c4 c5 (sI M2 a0 18 (0 : Int32))) (fun _ M6 => fX9_perform_40 N Z N a0 (0 : Int32) M6)))))
set_option maxHeartbeats 4000000 in
set_option maxRecDepth 100000 in
theorem ctX9_perform {G : mG} {l : Launch} (hl : l.stackTraces = false) (N : Nat) (Z : mZ) {a0 : Nat} {M : mM} {r : Int32} {M' : mM} (h : fX9_perform N Z a0 M = some (r, M')) : CT G l yX9_perform (.code yX9_perform cX9_perform 7 (some .int)) rmX9_perform [.ref a0] Z M (.inl (some (.int r))) Z M' := by
  unfold fX9_perform at h
  refine CT.of hl (by decide) (Nat.le_of_ble_eq_true rfl) ?_
  intro p e s m args below meth c C hnm
  refine j_sub (L' := [(0, .ref a0)]) [0] rfl ?_
  refine j_aload_n C dX9_perform_0 rfl 0 rfl ?_
  refine j_iconst C dX9_perform_1 (v := (0 : Int32)) (by decide) ?_
  obtain ⟨ho1, h⟩ := ck_spec h
  refine j_putI C tyX9 tyX9_ok nmX9 (cn := RX9) (T := TX9) (N := 23) (ci := 9) rfl iX9 ho1 9 (by decide) rfl fwRX9_50 ⟨rfl, rfl⟩ dX9_perform_2 ?_
  refine j_aload_n C dX9_perform_5 rfl 0 rfl ?_
  obtain ⟨r2, M2, hq2, h⟩ := bnd2_spec h
  refine j_run1 (c_V C (As := []) (rest := []) (ctX9_isText C.2.2.2.2.2.2.2.2.1 N Z hq2) kcRX9_253 oyX9_isText (ci := 9) (T := TX9) (N := 23) rfl (by decide) ho1 ⟨by decide, by decide⟩ ⟨by decide, by decide⟩ (Nat.le_of_ble_eq_true rfl) rfl dX9_perform_6) ?_
  refine j_istore_n C dX9_perform_9 rfl (by decide) (L' := [(1, .int r2), (0, .ref a0)]) rfl ?_
  refine j_aload_n C dX9_perform_10 rfl 1 rfl ?_
  refine j_iconst C dX9_perform_11 (v := (0 : Int32)) (by decide) ?_
  refine j_putI C tyX9 tyX9_ok nmX9 (cn := RX9) (T := TX9) (N := 23) (ci := 9) rfl iX9 ho1 18 (by decide) rfl fwRX9_232 ⟨rfl, rfl⟩ dX9_perform_12 ?_
  refine j_iload_n C dX9_perform_15 rfl 0 rfl ?_
  refine j_if_ne C dX9_perform_16 (tgt := 27) (by decide) (fun hc3 => ?_) (fun hc3 => ?_)
  · rw [if_neg hc3] at h
    refine j_aload_n C dX9_perform_27 rfl 1 rfl ?_
    obtain ⟨c4, hr4, h⟩ := bnd1_spec h
    refine j_getR C (cn := RX9) (T := TX9) (N := 23) (ci := 9) rfl iX9 ho1 0 (by decide) rfl fwRX9_7 dX9_perform_28 hr4 ?_
    refine j_aload_n C dX9_perform_31 rfl 1 rfl ?_
    obtain ⟨c5, hr5, h⟩ := bnd1_spec h
    refine j_getR C (cn := RX9) (T := TX9) (N := 23) (ci := 9) rfl iX9 ho1 22 (by decide) rfl fwRX9_43 dX9_perform_32 hr5 ?_
    obtain ⟨_, M6, hq6, h⟩ := bnd2_spec h
    refine j_run0 (c_S C (As := [.ref c4, .ref c5]) (rest := []) (ctX9_copies C.2.2.2.2.2.2.2.2.1 N Z hq6) kcRX9_65 oyX9_copies ⟨by decide, by decide⟩ ⟨by decide, by decide⟩ (Nat.le_of_ble_eq_true rfl) rfl dX9_perform_35) ?_
    refine j_iconst C dX9_perform_38 (v := (0 : Int32)) (by decide) ?_
    refine j_istore_n C dX9_perform_39 rfl (by decide) (L' := [(2, .int (0 : Int32)), (1, .int r2), (0, .ref a0)]) rfl ?_
    refine j_sub (L' := [(0, .ref a0), (2, .int (0 : Int32))]) [2, 0] rfl ?_
    exact tX9_perform_40 C hnm N Z N a0 (0 : Int32) M6 _ _ h
  · rw [if_pos hc3] at h
    refine j_bipush C dX9_perform_19 (v := (-100 : Int32)) (by decide) ?_
    refine j_aload_n C dX9_perform_21 rfl 1 rfl ?_
    refine j_getI C (cn := RX9) (T := TX9) (N := 23) (ci := 9) rfl iX9 ho1 19 (by decide) rfl fwRX9_235 dX9_perform_22 ?_
    refine j_isub C dX9_perform_25 ?_
    obtain ⟨rfl, rfl⟩ := so2 h
    exact j_iret C rfl (by decide) (by decide) dX9_perform_26
-- ScaffoldPlannerLaw start
theorem kcRL_7 : okV RL 7 yX8_start (.code yX8_start cX8_start 3 (some .int)) = true := by decide +kernel
theorem oyX8_start : okY yX8_start 1 := ⟨by decide +kernel, by decide +kernel, by decide +kernel⟩
theorem hlRL_13 : Cond.classLink RL 13 "java/lang/IllegalArgumentException" ∈ gw := by decide +kernel
theorem hcast_IllegalArgumentException : Cond.castable "java/lang/IllegalArgumentException" "java/lang/IllegalArgumentException" ∈ nw := by decide +kernel
abbrev rmL_start : Room := { frames := 7, cells := 1, slots := 6, locals := 112 }
abbrev tbL_startr0 : ExceptionTableEntry := { startPc := 0, endPc := 9, handlerPc := 12, catchType := 13 }
abbrev tbL_start : List ExceptionTableEntry := [tbL_startr0]
theorem dL_start_0 : decode cL_start 0 = .ok (.aload_n 2, 1) := by decide +kernel
theorem dL_start_1 : decode cL_start 1 = .ok (.iconst 0, 1) := by decide +kernel
theorem dL_start_2 : decode cL_start 2 = .ok (.aload_n 0, 1) := by decide +kernel
theorem dL_start_3 : decode cL_start 3 = .ok (.iload_n 1, 1) := by decide +kernel
theorem dL_start_4 : decode cL_start 4 = .ok (.invokevirtual 7, 3) := by decide +kernel
theorem dL_start_7 : decode cL_start 7 = .ok (.i2l, 1) := by decide +kernel
theorem dL_start_8 : decode cL_start 8 = .ok (.lastore, 1) := by decide +kernel
theorem dL_start_9 : decode cL_start 9 = .ok (.goto 6, 3) := by decide +kernel
theorem dL_start_12 : decode cL_start 12 = .ok (.astore_n 3, 1) := by decide +kernel
theorem dL_start_13 : decode cL_start 13 = .ok (.iconst 1, 1) := by decide +kernel
theorem dL_start_14 : decode cL_start 14 = .ok (.ireturn, 1) := by decide +kernel
theorem dL_start_15 : decode cL_start 15 = .ok (.iconst 0, 1) := by decide +kernel
theorem dL_start_16 : decode cL_start 16 = .ok (.ireturn, 1) := by decide +kernel
def fL_start (N : Nat) (Z : mZ) (a0 : Nat) (a1 : Int32) (a2 : Nat) (M : mM) : Option (Int32 × mM) := ck (okO Z a0 8) (bndT (fX8_start N Z a0 a1 M) (fun r2 M2 => ck (okO Z a2 22) (ck (inB (0 : Int32) (Z.2.2.1 a2)) (some ((0 : Int32), (sL M2 a2 ((0 : Int32)).toNatClampNeg ((r2).toInt64)))))) (fun E2 M2 => if E2 = "java/lang/IllegalArgumentException" then some ((1 : Int32), M2) else none))
set_option maxHeartbeats 4000000 in
set_option maxRecDepth 100000 in
theorem ctL_start {G : mG} {l : Launch} (hl : l.stackTraces = false) (N : Nat) (Z : mZ) {a0 : Nat} {a1 : Int32} {a2 : Nat} {M : mM} {r : Int32} {M' : mM} (h : fL_start N Z a0 a1 a2 M = some (r, M')) : CT G l yL_start (.codeWith yL_start cL_start 4 (some .int) [(0, 9, 12, 13)]) rmL_start [.ref a0, .int a1, .ref a2] Z M (.inl (some (.int r))) Z M' := by
  unfold fL_start at h
  refine CT.ofH hl (by decide) (Nat.le_of_ble_eq_true rfl) (tb := tbL_start) rfl ?_
  intro p e s m args below meth c C hnm
  refine j_sub (L' := [(0, .ref a0), (1, .int a1), (2, .ref a2)]) [0, 1, 2] rfl ?_
  refine j_aload_n C dL_start_0 rfl 2 rfl ?_
  refine j_iconst C dL_start_1 (v := (0 : Int32)) (by decide) ?_
  refine j_aload_n C dL_start_2 rfl 0 rfl ?_
  refine j_iload_n C dL_start_3 rfl 1 rfl ?_
  obtain ⟨ho1, h⟩ := ck_spec h
  rcases bndT_spec h with ⟨r2, M2, hq2, h⟩ | ⟨E2, M2, hq2, h⟩
  · refine j_run1 (c_V C (As := [.int a1]) (rest := [.int (0 : Int32), .ref a2]) (ctX8_start C.2.2.2.2.2.2.2.2.1 N Z hq2) kcRL_7 oyX8_start (ci := 8) (T := TX8) (N := 11) rfl (by decide) ho1 ⟨by decide, by decide⟩ ⟨by decide, by decide⟩ (Nat.le_of_ble_eq_true rfl) rfl dL_start_4) ?_
    refine j_i2l C dL_start_7 ?_
    obtain ⟨ho3, h⟩ := ck_spec h
    obtain ⟨ho4, h⟩ := ck_spec h
    refine j_last C ho3 ho4 dL_start_8 ?_
    refine j_goto C dL_start_9 (tgt := 15) (by decide) ?_
    refine j_iconst C dL_start_15 (v := (0 : Int32)) (by decide) ?_
    obtain ⟨rfl, rfl⟩ := so2 h
    exact j_iret C rfl (by decide) (by decide) dL_start_16
  · by_cases hc5 : E2 = "java/lang/IllegalArgumentException"
    · rw [if_pos hc5] at h
      subst hc5
      refine j_caught C (c_V C (As := [.int a1]) (rest := [.int (0 : Int32), .ref a2]) (ctX8_start C.2.2.2.2.2.2.2.2.1 N Z hq2) kcRL_7 oyX8_start (ci := 8) (T := TX8) (N := 11) rfl (by decide) ho1 ⟨by decide, by decide⟩ ⟨by decide, by decide⟩ (Nat.le_of_ble_eq_true rfl) rfl dL_start_4) [] tbL_startr0 [] [] rfl (by decide +kernel) rfl (by decide) hlRL_13 hcast_IllegalArgumentException (i1 := 3) (by decide) (Or.inl ⟨3, rfl, rfl, dL_start_12⟩) ?_
      refine j_iconst C dL_start_13 (v := (1 : Int32)) (by decide) ?_
      obtain ⟨rfl, rfl⟩ := so2 h
      exact j_iret C rfl (by decide) (by decide) dL_start_14
    rw [if_neg hc5] at h
    cases h
-- ScaffoldPlannerLaw set
theorem kcRL_15 : okV RL 15 yX8_set (.code yX8_set cX8_set 4 (some .int)) = true := by decide +kernel
theorem oyX8_set : okY yX8_set 2 := ⟨by decide +kernel, by decide +kernel, by decide +kernel⟩
theorem hlRL_19 : Cond.classLink RL 19 "java/lang/IllegalStateException" ∈ gw := by decide +kernel
theorem hcast_IllegalStateException : Cond.castable "java/lang/IllegalStateException" "java/lang/IllegalStateException" ∈ nw := by decide +kernel
abbrev rmL_set : Room := { frames := 7, cells := 1, slots := 6, locals := 132 }
abbrev tbL_setr0 : ExceptionTableEntry := { startPc := 0, endPc := 10, handlerPc := 13, catchType := 13 }
abbrev tbL_setr1 : ExceptionTableEntry := { startPc := 0, endPc := 10, handlerPc := 17, catchType := 19 }
abbrev tbL_set : List ExceptionTableEntry := [tbL_setr0, tbL_setr1]
theorem dL_set_0 : decode cL_set 0 = .ok (.aload_n 3, 1) := by decide +kernel
theorem dL_set_1 : decode cL_set 1 = .ok (.iconst 0, 1) := by decide +kernel
theorem dL_set_2 : decode cL_set 2 = .ok (.aload_n 0, 1) := by decide +kernel
theorem dL_set_3 : decode cL_set 3 = .ok (.iload_n 1, 1) := by decide +kernel
theorem dL_set_4 : decode cL_set 4 = .ok (.iload_n 2, 1) := by decide +kernel
theorem dL_set_5 : decode cL_set 5 = .ok (.invokevirtual 15, 3) := by decide +kernel
theorem dL_set_8 : decode cL_set 8 = .ok (.i2l, 1) := by decide +kernel
theorem dL_set_9 : decode cL_set 9 = .ok (.lastore, 1) := by decide +kernel
theorem dL_set_10 : decode cL_set 10 = .ok (.goto 11, 3) := by decide +kernel
theorem dL_set_13 : decode cL_set 13 = .ok (.astore 4, 2) := by decide +kernel
theorem dL_set_15 : decode cL_set 15 = .ok (.iconst 1, 1) := by decide +kernel
theorem dL_set_16 : decode cL_set 16 = .ok (.ireturn, 1) := by decide +kernel
theorem dL_set_17 : decode cL_set 17 = .ok (.astore 4, 2) := by decide +kernel
theorem dL_set_19 : decode cL_set 19 = .ok (.iconst 2, 1) := by decide +kernel
theorem dL_set_20 : decode cL_set 20 = .ok (.ireturn, 1) := by decide +kernel
theorem dL_set_21 : decode cL_set 21 = .ok (.iconst 0, 1) := by decide +kernel
theorem dL_set_22 : decode cL_set 22 = .ok (.ireturn, 1) := by decide +kernel
def fL_set (N : Nat) (Z : mZ) (a0 : Nat) (a1 : Int32) (a2 : Int32) (a3 : Nat) (M : mM) : Option (Int32 × mM) := ck (okO Z a0 8) (bndT (fX8_set N Z a0 a1 a2 M) (fun r2 M2 => ck (okO Z a3 22) (ck (inB (0 : Int32) (Z.2.2.1 a3)) (some ((0 : Int32), (sL M2 a3 ((0 : Int32)).toNatClampNeg ((r2).toInt64)))))) (fun E2 M2 => if E2 = "java/lang/IllegalArgumentException" then some ((1 : Int32), M2) else if E2 = "java/lang/IllegalStateException" then some ((2 : Int32), M2) else none))
set_option maxHeartbeats 4000000 in
set_option maxRecDepth 100000 in
theorem ctL_set {G : mG} {l : Launch} (hl : l.stackTraces = false) (N : Nat) (Z : mZ) {a0 : Nat} {a1 : Int32} {a2 : Int32} {a3 : Nat} {M : mM} {r : Int32} {M' : mM} (h : fL_set N Z a0 a1 a2 a3 M = some (r, M')) : CT G l yL_set (.codeWith yL_set cL_set 5 (some .int) [(0, 10, 13, 13), (0, 10, 17, 19)]) rmL_set [.ref a0, .int a1, .int a2, .ref a3] Z M (.inl (some (.int r))) Z M' := by
  unfold fL_set at h
  refine CT.ofH hl (by decide) (Nat.le_of_ble_eq_true rfl) (tb := tbL_set) rfl ?_
  intro p e s m args below meth c C hnm
  refine j_sub (L' := [(0, .ref a0), (1, .int a1), (2, .int a2), (3, .ref a3)]) [0, 1, 2, 3] rfl ?_
  refine j_aload_n C dL_set_0 rfl 3 rfl ?_
  refine j_iconst C dL_set_1 (v := (0 : Int32)) (by decide) ?_
  refine j_aload_n C dL_set_2 rfl 0 rfl ?_
  refine j_iload_n C dL_set_3 rfl 1 rfl ?_
  refine j_iload_n C dL_set_4 rfl 2 rfl ?_
  obtain ⟨ho1, h⟩ := ck_spec h
  rcases bndT_spec h with ⟨r2, M2, hq2, h⟩ | ⟨E2, M2, hq2, h⟩
  · refine j_run1 (c_V C (As := [.int a1, .int a2]) (rest := [.int (0 : Int32), .ref a3]) (ctX8_set C.2.2.2.2.2.2.2.2.1 N Z hq2) kcRL_15 oyX8_set (ci := 8) (T := TX8) (N := 11) rfl (by decide) ho1 ⟨by decide, by decide⟩ ⟨by decide, by decide⟩ (Nat.le_of_ble_eq_true rfl) rfl dL_set_5) ?_
    refine j_i2l C dL_set_8 ?_
    obtain ⟨ho3, h⟩ := ck_spec h
    obtain ⟨ho4, h⟩ := ck_spec h
    refine j_last C ho3 ho4 dL_set_9 ?_
    refine j_goto C dL_set_10 (tgt := 21) (by decide) ?_
    refine j_iconst C dL_set_21 (v := (0 : Int32)) (by decide) ?_
    obtain ⟨rfl, rfl⟩ := so2 h
    exact j_iret C rfl (by decide) (by decide) dL_set_22
  · by_cases hc5 : E2 = "java/lang/IllegalArgumentException"
    · rw [if_pos hc5] at h
      subst hc5
      refine j_caught C (c_V C (As := [.int a1, .int a2]) (rest := [.int (0 : Int32), .ref a3]) (ctX8_set C.2.2.2.2.2.2.2.2.1 N Z hq2) kcRL_15 oyX8_set (ci := 8) (T := TX8) (N := 11) rfl (by decide) ho1 ⟨by decide, by decide⟩ ⟨by decide, by decide⟩ (Nat.le_of_ble_eq_true rfl) rfl dL_set_5) [] tbL_setr0 [tbL_setr1] [] rfl (by decide +kernel) rfl (by decide) hlRL_13 hcast_IllegalArgumentException (i1 := 4) (by decide) (Or.inr ⟨rfl, dL_set_13⟩) ?_
      refine j_iconst C dL_set_15 (v := (1 : Int32)) (by decide) ?_
      obtain ⟨rfl, rfl⟩ := so2 h
      exact j_iret C rfl (by decide) (by decide) dL_set_16
    rw [if_neg hc5] at h
    by_cases hc6 : E2 = "java/lang/IllegalStateException"
    · rw [if_pos hc6] at h
      subst hc6
      refine j_caught C (c_V C (As := [.int a1, .int a2]) (rest := [.int (0 : Int32), .ref a3]) (ctX8_set C.2.2.2.2.2.2.2.2.1 N Z hq2) kcRL_15 oyX8_set (ci := 8) (T := TX8) (N := 11) rfl (by decide) ho1 ⟨by decide, by decide⟩ ⟨by decide, by decide⟩ (Nat.le_of_ble_eq_true rfl) rfl dL_set_5) [tbL_setr0] tbL_setr1 [] ["java/lang/IllegalArgumentException"] rfl (by decide +kernel) rfl (by decide) hlRL_19 hcast_IllegalStateException (i1 := 4) (by decide) (Or.inr ⟨rfl, dL_set_17⟩) ?_
      refine j_iconst C dL_set_19 (v := (2 : Int32)) (by decide) ?_
      obtain ⟨rfl, rfl⟩ := so2 h
      exact j_iret C rfl (by decide) (by decide) dL_set_20
    rw [if_neg hc6] at h
    cases h
-- ScaffoldPlannerLaw stock
theorem kcRL_21 : okV RL 21 yX8_stock (.code yX8_stock cX8_stock 4 (some .int)) = true := by decide +kernel
theorem oyX8_stock : okY yX8_stock 2 := ⟨by decide +kernel, by decide +kernel, by decide +kernel⟩
theorem hlRL_24 : Cond.classLink RL 24 "java/lang/IndexOutOfBoundsException" ∈ gw := by decide +kernel
theorem hcast_IndexOutOfBoundsException : Cond.castable "java/lang/IndexOutOfBoundsException" "java/lang/IndexOutOfBoundsException" ∈ nw := by decide +kernel
abbrev rmL_stock : Room := { frames := 7, cells := 1, slots := 6, locals := 113 }
abbrev tbL_stockr0 : ExceptionTableEntry := { startPc := 0, endPc := 10, handlerPc := 13, catchType := 24 }
abbrev tbL_stockr1 : ExceptionTableEntry := { startPc := 0, endPc := 10, handlerPc := 17, catchType := 13 }
abbrev tbL_stock : List ExceptionTableEntry := [tbL_stockr0, tbL_stockr1]
theorem dL_stock_0 : decode cL_stock 0 = .ok (.aload_n 3, 1) := by decide +kernel
theorem dL_stock_1 : decode cL_stock 1 = .ok (.iconst 0, 1) := by decide +kernel
theorem dL_stock_2 : decode cL_stock 2 = .ok (.aload_n 0, 1) := by decide +kernel
theorem dL_stock_3 : decode cL_stock 3 = .ok (.iload_n 1, 1) := by decide +kernel
theorem dL_stock_4 : decode cL_stock 4 = .ok (.iload_n 2, 1) := by decide +kernel
theorem dL_stock_5 : decode cL_stock 5 = .ok (.invokevirtual 21, 3) := by decide +kernel
theorem dL_stock_8 : decode cL_stock 8 = .ok (.i2l, 1) := by decide +kernel
theorem dL_stock_9 : decode cL_stock 9 = .ok (.lastore, 1) := by decide +kernel
theorem dL_stock_10 : decode cL_stock 10 = .ok (.goto 11, 3) := by decide +kernel
theorem dL_stock_13 : decode cL_stock 13 = .ok (.astore 4, 2) := by decide +kernel
theorem dL_stock_15 : decode cL_stock 15 = .ok (.iconst 1, 1) := by decide +kernel
theorem dL_stock_16 : decode cL_stock 16 = .ok (.ireturn, 1) := by decide +kernel
theorem dL_stock_17 : decode cL_stock 17 = .ok (.astore 4, 2) := by decide +kernel
theorem dL_stock_19 : decode cL_stock 19 = .ok (.iconst 2, 1) := by decide +kernel
theorem dL_stock_20 : decode cL_stock 20 = .ok (.ireturn, 1) := by decide +kernel
theorem dL_stock_21 : decode cL_stock 21 = .ok (.iconst 0, 1) := by decide +kernel
theorem dL_stock_22 : decode cL_stock 22 = .ok (.ireturn, 1) := by decide +kernel
def fL_stock (N : Nat) (Z : mZ) (a0 : Nat) (a1 : Int32) (a2 : Int32) (a3 : Nat) (M : mM) : Option (Int32 × mM) := ck (okO Z a0 8) (bndT (fX8_stock N Z a0 a1 a2 M) (fun r2 M2 => ck (okO Z a3 22) (ck (inB (0 : Int32) (Z.2.2.1 a3)) (some ((0 : Int32), (sL M2 a3 ((0 : Int32)).toNatClampNeg ((r2).toInt64)))))) (fun E2 M2 => if E2 = "java/lang/IndexOutOfBoundsException" then some ((1 : Int32), M2) else if E2 = "java/lang/IllegalArgumentException" then some ((2 : Int32), M2) else none))
set_option maxHeartbeats 4000000 in
set_option maxRecDepth 100000 in
theorem ctL_stock {G : mG} {l : Launch} (hl : l.stackTraces = false) (N : Nat) (Z : mZ) {a0 : Nat} {a1 : Int32} {a2 : Int32} {a3 : Nat} {M : mM} {r : Int32} {M' : mM} (h : fL_stock N Z a0 a1 a2 a3 M = some (r, M')) : CT G l yL_stock (.codeWith yL_stock cL_stock 5 (some .int) [(0, 10, 13, 24), (0, 10, 17, 13)]) rmL_stock [.ref a0, .int a1, .int a2, .ref a3] Z M (.inl (some (.int r))) Z M' := by
  unfold fL_stock at h
  refine CT.ofH hl (by decide) (Nat.le_of_ble_eq_true rfl) (tb := tbL_stock) rfl ?_
  intro p e s m args below meth c C hnm
  refine j_sub (L' := [(0, .ref a0), (1, .int a1), (2, .int a2), (3, .ref a3)]) [0, 1, 2, 3] rfl ?_
  refine j_aload_n C dL_stock_0 rfl 3 rfl ?_
  refine j_iconst C dL_stock_1 (v := (0 : Int32)) (by decide) ?_
  refine j_aload_n C dL_stock_2 rfl 0 rfl ?_
  refine j_iload_n C dL_stock_3 rfl 1 rfl ?_
  refine j_iload_n C dL_stock_4 rfl 2 rfl ?_
  obtain ⟨ho1, h⟩ := ck_spec h
  rcases bndT_spec h with ⟨r2, M2, hq2, h⟩ | ⟨E2, M2, hq2, h⟩
  · refine j_run1 (c_V C (As := [.int a1, .int a2]) (rest := [.int (0 : Int32), .ref a3]) (ctX8_stock C.2.2.2.2.2.2.2.2.1 N Z hq2) kcRL_21 oyX8_stock (ci := 8) (T := TX8) (N := 11) rfl (by decide) ho1 ⟨by decide, by decide⟩ ⟨by decide, by decide⟩ (Nat.le_of_ble_eq_true rfl) rfl dL_stock_5) ?_
    refine j_i2l C dL_stock_8 ?_
    obtain ⟨ho3, h⟩ := ck_spec h
    obtain ⟨ho4, h⟩ := ck_spec h
    refine j_last C ho3 ho4 dL_stock_9 ?_
    refine j_goto C dL_stock_10 (tgt := 21) (by decide) ?_
    refine j_iconst C dL_stock_21 (v := (0 : Int32)) (by decide) ?_
    obtain ⟨rfl, rfl⟩ := so2 h
    exact j_iret C rfl (by decide) (by decide) dL_stock_22
  · by_cases hc5 : E2 = "java/lang/IndexOutOfBoundsException"
    · rw [if_pos hc5] at h
      subst hc5
      refine j_caught C (c_V C (As := [.int a1, .int a2]) (rest := [.int (0 : Int32), .ref a3]) (ctX8_stock C.2.2.2.2.2.2.2.2.1 N Z hq2) kcRL_21 oyX8_stock (ci := 8) (T := TX8) (N := 11) rfl (by decide) ho1 ⟨by decide, by decide⟩ ⟨by decide, by decide⟩ (Nat.le_of_ble_eq_true rfl) rfl dL_stock_5) [] tbL_stockr0 [tbL_stockr1] [] rfl (by decide +kernel) rfl (by decide) hlRL_24 hcast_IndexOutOfBoundsException (i1 := 4) (by decide) (Or.inr ⟨rfl, dL_stock_13⟩) ?_
      refine j_iconst C dL_stock_15 (v := (1 : Int32)) (by decide) ?_
      obtain ⟨rfl, rfl⟩ := so2 h
      exact j_iret C rfl (by decide) (by decide) dL_stock_16
    rw [if_neg hc5] at h
    by_cases hc6 : E2 = "java/lang/IllegalArgumentException"
    · rw [if_pos hc6] at h
      subst hc6
      refine j_caught C (c_V C (As := [.int a1, .int a2]) (rest := [.int (0 : Int32), .ref a3]) (ctX8_stock C.2.2.2.2.2.2.2.2.1 N Z hq2) kcRL_21 oyX8_stock (ci := 8) (T := TX8) (N := 11) rfl (by decide) ho1 ⟨by decide, by decide⟩ ⟨by decide, by decide⟩ (Nat.le_of_ble_eq_true rfl) rfl dL_stock_5) [tbL_stockr0] tbL_stockr1 [] ["java/lang/IndexOutOfBoundsException"] rfl (by decide +kernel) rfl (by decide) hlRL_13 hcast_IllegalArgumentException (i1 := 4) (by decide) (Or.inr ⟨rfl, dL_stock_17⟩) ?_
      refine j_iconst C dL_stock_19 (v := (2 : Int32)) (by decide) ?_
      obtain ⟨rfl, rfl⟩ := so2 h
      exact j_iret C rfl (by decide) (by decide) dL_stock_20
    rw [if_neg hc6] at h
    cases h
-- ScaffoldPlannerLaw erect
theorem kcRL_26 : okV RL 26 yX8_erect (.code yX8_erect cX8_erect 2 (some .int)) = true := by decide +kernel
theorem oyX8_erect : okY yX8_erect 1 := ⟨by decide +kernel, by decide +kernel, by decide +kernel⟩
theorem hlRL_29 : Cond.classLink RL 29 "java/lang/UnsupportedOperationException" ∈ gw := by decide +kernel
theorem hcast_UnsupportedOperationException : Cond.castable "java/lang/UnsupportedOperationException" "java/lang/UnsupportedOperationException" ∈ nw := by decide +kernel
abbrev rmL_erect : Room := { frames := 7, cells := 1, slots := 6, locals := 157 }
abbrev tbL_erectr0 : ExceptionTableEntry := { startPc := 0, endPc := 9, handlerPc := 12, catchType := 24 }
abbrev tbL_erectr1 : ExceptionTableEntry := { startPc := 0, endPc := 9, handlerPc := 15, catchType := 29 }
abbrev tbL_erect : List ExceptionTableEntry := [tbL_erectr0, tbL_erectr1]
theorem dL_erect_0 : decode cL_erect 0 = .ok (.aload_n 2, 1) := by decide +kernel
theorem dL_erect_1 : decode cL_erect 1 = .ok (.iconst 0, 1) := by decide +kernel
theorem dL_erect_2 : decode cL_erect 2 = .ok (.aload_n 0, 1) := by decide +kernel
theorem dL_erect_3 : decode cL_erect 3 = .ok (.iload_n 1, 1) := by decide +kernel
theorem dL_erect_4 : decode cL_erect 4 = .ok (.invokevirtual 26, 3) := by decide +kernel
theorem dL_erect_7 : decode cL_erect 7 = .ok (.i2l, 1) := by decide +kernel
theorem dL_erect_8 : decode cL_erect 8 = .ok (.lastore, 1) := by decide +kernel
theorem dL_erect_9 : decode cL_erect 9 = .ok (.goto 9, 3) := by decide +kernel
theorem dL_erect_12 : decode cL_erect 12 = .ok (.astore_n 3, 1) := by decide +kernel
theorem dL_erect_13 : decode cL_erect 13 = .ok (.iconst 1, 1) := by decide +kernel
theorem dL_erect_14 : decode cL_erect 14 = .ok (.ireturn, 1) := by decide +kernel
theorem dL_erect_15 : decode cL_erect 15 = .ok (.astore_n 3, 1) := by decide +kernel
theorem dL_erect_16 : decode cL_erect 16 = .ok (.iconst 2, 1) := by decide +kernel
theorem dL_erect_17 : decode cL_erect 17 = .ok (.ireturn, 1) := by decide +kernel
theorem dL_erect_18 : decode cL_erect 18 = .ok (.iconst 0, 1) := by decide +kernel
theorem dL_erect_19 : decode cL_erect 19 = .ok (.ireturn, 1) := by decide +kernel
def fL_erect (N : Nat) (Z : mZ) (a0 : Nat) (a1 : Int32) (a2 : Nat) (M : mM) : Option (Int32 × mM) := ck (okO Z a0 8) (bndT (fX8_erect N Z a0 a1 M) (fun r2 M2 => ck (okO Z a2 22) (ck (inB (0 : Int32) (Z.2.2.1 a2)) (some ((0 : Int32), (sL M2 a2 ((0 : Int32)).toNatClampNeg ((r2).toInt64)))))) (fun E2 M2 => if E2 = "java/lang/IndexOutOfBoundsException" then some ((1 : Int32), M2) else if E2 = "java/lang/UnsupportedOperationException" then some ((2 : Int32), M2) else none))
set_option maxHeartbeats 4000000 in
set_option maxRecDepth 100000 in
theorem ctL_erect {G : mG} {l : Launch} (hl : l.stackTraces = false) (N : Nat) (Z : mZ) {a0 : Nat} {a1 : Int32} {a2 : Nat} {M : mM} {r : Int32} {M' : mM} (h : fL_erect N Z a0 a1 a2 M = some (r, M')) : CT G l yL_erect (.codeWith yL_erect cL_erect 4 (some .int) [(0, 9, 12, 24), (0, 9, 15, 29)]) rmL_erect [.ref a0, .int a1, .ref a2] Z M (.inl (some (.int r))) Z M' := by
  unfold fL_erect at h
  refine CT.ofH hl (by decide) (Nat.le_of_ble_eq_true rfl) (tb := tbL_erect) rfl ?_
  intro p e s m args below meth c C hnm
  refine j_sub (L' := [(0, .ref a0), (1, .int a1), (2, .ref a2)]) [0, 1, 2] rfl ?_
  refine j_aload_n C dL_erect_0 rfl 2 rfl ?_
  refine j_iconst C dL_erect_1 (v := (0 : Int32)) (by decide) ?_
  refine j_aload_n C dL_erect_2 rfl 0 rfl ?_
  refine j_iload_n C dL_erect_3 rfl 1 rfl ?_
  obtain ⟨ho1, h⟩ := ck_spec h
  rcases bndT_spec h with ⟨r2, M2, hq2, h⟩ | ⟨E2, M2, hq2, h⟩
  · refine j_run1 (c_V C (As := [.int a1]) (rest := [.int (0 : Int32), .ref a2]) (ctX8_erect C.2.2.2.2.2.2.2.2.1 N Z hq2) kcRL_26 oyX8_erect (ci := 8) (T := TX8) (N := 11) rfl (by decide) ho1 ⟨by decide, by decide⟩ ⟨by decide, by decide⟩ (Nat.le_of_ble_eq_true rfl) rfl dL_erect_4) ?_
    refine j_i2l C dL_erect_7 ?_
    obtain ⟨ho3, h⟩ := ck_spec h
    obtain ⟨ho4, h⟩ := ck_spec h
    refine j_last C ho3 ho4 dL_erect_8 ?_
    refine j_goto C dL_erect_9 (tgt := 18) (by decide) ?_
    refine j_iconst C dL_erect_18 (v := (0 : Int32)) (by decide) ?_
    obtain ⟨rfl, rfl⟩ := so2 h
    exact j_iret C rfl (by decide) (by decide) dL_erect_19
  · by_cases hc5 : E2 = "java/lang/IndexOutOfBoundsException"
    · rw [if_pos hc5] at h
      subst hc5
      refine j_caught C (c_V C (As := [.int a1]) (rest := [.int (0 : Int32), .ref a2]) (ctX8_erect C.2.2.2.2.2.2.2.2.1 N Z hq2) kcRL_26 oyX8_erect (ci := 8) (T := TX8) (N := 11) rfl (by decide) ho1 ⟨by decide, by decide⟩ ⟨by decide, by decide⟩ (Nat.le_of_ble_eq_true rfl) rfl dL_erect_4) [] tbL_erectr0 [tbL_erectr1] [] rfl (by decide +kernel) rfl (by decide) hlRL_24 hcast_IndexOutOfBoundsException (i1 := 3) (by decide) (Or.inl ⟨3, rfl, rfl, dL_erect_12⟩) ?_
      refine j_iconst C dL_erect_13 (v := (1 : Int32)) (by decide) ?_
      obtain ⟨rfl, rfl⟩ := so2 h
      exact j_iret C rfl (by decide) (by decide) dL_erect_14
    rw [if_neg hc5] at h
    by_cases hc6 : E2 = "java/lang/UnsupportedOperationException"
    · rw [if_pos hc6] at h
      subst hc6
      refine j_caught C (c_V C (As := [.int a1]) (rest := [.int (0 : Int32), .ref a2]) (ctX8_erect C.2.2.2.2.2.2.2.2.1 N Z hq2) kcRL_26 oyX8_erect (ci := 8) (T := TX8) (N := 11) rfl (by decide) ho1 ⟨by decide, by decide⟩ ⟨by decide, by decide⟩ (Nat.le_of_ble_eq_true rfl) rfl dL_erect_4) [tbL_erectr0] tbL_erectr1 [] ["java/lang/IndexOutOfBoundsException"] rfl (by decide +kernel) rfl (by decide) hlRL_29 hcast_UnsupportedOperationException (i1 := 3) (by decide) (Or.inl ⟨3, rfl, rfl, dL_erect_15⟩) ?_
      refine j_iconst C dL_erect_16 (v := (2 : Int32)) (by decide) ?_
      obtain ⟨rfl, rfl⟩ := so2 h
      exact j_iret C rfl (by decide) (by decide) dL_erect_17
    rw [if_neg hc6] at h
    cases h
-- ScaffoldPlannerLaw lower
theorem kcRL_31 : okV RL 31 yX8_lower (.code yX8_lower cX8_lower 2 (some .int)) = true := by decide +kernel
theorem oyX8_lower : okY yX8_lower 1 := ⟨by decide +kernel, by decide +kernel, by decide +kernel⟩
abbrev rmL_lower : Room := { frames := 7, cells := 1, slots := 6, locals := 157 }
abbrev tbL_lowerr0 : ExceptionTableEntry := { startPc := 0, endPc := 9, handlerPc := 12, catchType := 24 }
abbrev tbL_lowerr1 : ExceptionTableEntry := { startPc := 0, endPc := 9, handlerPc := 15, catchType := 29 }
abbrev tbL_lower : List ExceptionTableEntry := [tbL_lowerr0, tbL_lowerr1]
theorem dL_lower_0 : decode cL_lower 0 = .ok (.aload_n 2, 1) := by decide +kernel
theorem dL_lower_1 : decode cL_lower 1 = .ok (.iconst 0, 1) := by decide +kernel
theorem dL_lower_2 : decode cL_lower 2 = .ok (.aload_n 0, 1) := by decide +kernel
theorem dL_lower_3 : decode cL_lower 3 = .ok (.iload_n 1, 1) := by decide +kernel
theorem dL_lower_4 : decode cL_lower 4 = .ok (.invokevirtual 31, 3) := by decide +kernel
theorem dL_lower_7 : decode cL_lower 7 = .ok (.i2l, 1) := by decide +kernel
theorem dL_lower_8 : decode cL_lower 8 = .ok (.lastore, 1) := by decide +kernel
theorem dL_lower_9 : decode cL_lower 9 = .ok (.goto 9, 3) := by decide +kernel
theorem dL_lower_12 : decode cL_lower 12 = .ok (.astore_n 3, 1) := by decide +kernel
theorem dL_lower_13 : decode cL_lower 13 = .ok (.iconst 1, 1) := by decide +kernel
theorem dL_lower_14 : decode cL_lower 14 = .ok (.ireturn, 1) := by decide +kernel
theorem dL_lower_15 : decode cL_lower 15 = .ok (.astore_n 3, 1) := by decide +kernel
theorem dL_lower_16 : decode cL_lower 16 = .ok (.iconst 2, 1) := by decide +kernel
theorem dL_lower_17 : decode cL_lower 17 = .ok (.ireturn, 1) := by decide +kernel
theorem dL_lower_18 : decode cL_lower 18 = .ok (.iconst 0, 1) := by decide +kernel
theorem dL_lower_19 : decode cL_lower 19 = .ok (.ireturn, 1) := by decide +kernel
def fL_lower (N : Nat) (Z : mZ) (a0 : Nat) (a1 : Int32) (a2 : Nat) (M : mM) : Option (Int32 × mM) := ck (okO Z a0 8) (bndT (fX8_lower N Z a0 a1 M) (fun r2 M2 => ck (okO Z a2 22) (ck (inB (0 : Int32) (Z.2.2.1 a2)) (some ((0 : Int32), (sL M2 a2 ((0 : Int32)).toNatClampNeg ((r2).toInt64)))))) (fun E2 M2 => if E2 = "java/lang/IndexOutOfBoundsException" then some ((1 : Int32), M2) else if E2 = "java/lang/UnsupportedOperationException" then some ((2 : Int32), M2) else none))
set_option maxHeartbeats 4000000 in
set_option maxRecDepth 100000 in
theorem ctL_lower {G : mG} {l : Launch} (hl : l.stackTraces = false) (N : Nat) (Z : mZ) {a0 : Nat} {a1 : Int32} {a2 : Nat} {M : mM} {r : Int32} {M' : mM} (h : fL_lower N Z a0 a1 a2 M = some (r, M')) : CT G l yL_lower (.codeWith yL_lower cL_lower 4 (some .int) [(0, 9, 12, 24), (0, 9, 15, 29)]) rmL_lower [.ref a0, .int a1, .ref a2] Z M (.inl (some (.int r))) Z M' := by
  unfold fL_lower at h
  refine CT.ofH hl (by decide) (Nat.le_of_ble_eq_true rfl) (tb := tbL_lower) rfl ?_
  intro p e s m args below meth c C hnm
  refine j_sub (L' := [(0, .ref a0), (1, .int a1), (2, .ref a2)]) [0, 1, 2] rfl ?_
  refine j_aload_n C dL_lower_0 rfl 2 rfl ?_
  refine j_iconst C dL_lower_1 (v := (0 : Int32)) (by decide) ?_
  refine j_aload_n C dL_lower_2 rfl 0 rfl ?_
  refine j_iload_n C dL_lower_3 rfl 1 rfl ?_
  obtain ⟨ho1, h⟩ := ck_spec h
  rcases bndT_spec h with ⟨r2, M2, hq2, h⟩ | ⟨E2, M2, hq2, h⟩
  · refine j_run1 (c_V C (As := [.int a1]) (rest := [.int (0 : Int32), .ref a2]) (ctX8_lower C.2.2.2.2.2.2.2.2.1 N Z hq2) kcRL_31 oyX8_lower (ci := 8) (T := TX8) (N := 11) rfl (by decide) ho1 ⟨by decide, by decide⟩ ⟨by decide, by decide⟩ (Nat.le_of_ble_eq_true rfl) rfl dL_lower_4) ?_
    refine j_i2l C dL_lower_7 ?_
    obtain ⟨ho3, h⟩ := ck_spec h
    obtain ⟨ho4, h⟩ := ck_spec h
    refine j_last C ho3 ho4 dL_lower_8 ?_
    refine j_goto C dL_lower_9 (tgt := 18) (by decide) ?_
    refine j_iconst C dL_lower_18 (v := (0 : Int32)) (by decide) ?_
    obtain ⟨rfl, rfl⟩ := so2 h
    exact j_iret C rfl (by decide) (by decide) dL_lower_19
  · by_cases hc5 : E2 = "java/lang/IndexOutOfBoundsException"
    · rw [if_pos hc5] at h
      subst hc5
      refine j_caught C (c_V C (As := [.int a1]) (rest := [.int (0 : Int32), .ref a2]) (ctX8_lower C.2.2.2.2.2.2.2.2.1 N Z hq2) kcRL_31 oyX8_lower (ci := 8) (T := TX8) (N := 11) rfl (by decide) ho1 ⟨by decide, by decide⟩ ⟨by decide, by decide⟩ (Nat.le_of_ble_eq_true rfl) rfl dL_lower_4) [] tbL_lowerr0 [tbL_lowerr1] [] rfl (by decide +kernel) rfl (by decide) hlRL_24 hcast_IndexOutOfBoundsException (i1 := 3) (by decide) (Or.inl ⟨3, rfl, rfl, dL_lower_12⟩) ?_
      refine j_iconst C dL_lower_13 (v := (1 : Int32)) (by decide) ?_
      obtain ⟨rfl, rfl⟩ := so2 h
      exact j_iret C rfl (by decide) (by decide) dL_lower_14
    rw [if_neg hc5] at h
    by_cases hc6 : E2 = "java/lang/UnsupportedOperationException"
    · rw [if_pos hc6] at h
      subst hc6
      refine j_caught C (c_V C (As := [.int a1]) (rest := [.int (0 : Int32), .ref a2]) (ctX8_lower C.2.2.2.2.2.2.2.2.1 N Z hq2) kcRL_31 oyX8_lower (ci := 8) (T := TX8) (N := 11) rfl (by decide) ho1 ⟨by decide, by decide⟩ ⟨by decide, by decide⟩ (Nat.le_of_ble_eq_true rfl) rfl dL_lower_4) [tbL_lowerr0] tbL_lowerr1 [] ["java/lang/IndexOutOfBoundsException"] rfl (by decide +kernel) rfl (by decide) hlRL_29 hcast_UnsupportedOperationException (i1 := 3) (by decide) (Or.inl ⟨3, rfl, rfl, dL_lower_15⟩) ?_
      refine j_iconst C dL_lower_16 (v := (2 : Int32)) (by decide) ?_
      obtain ⟨rfl, rfl⟩ := so2 h
      exact j_iret C rfl (by decide) (by decide) dL_lower_17
    rw [if_neg hc6] at h
    cases h
-- ScaffoldPlannerLaw deck
theorem kcRL_34 : okV RL 34 yX8_deck (.code yX8_deck cX8_deck 4 (some .int)) = true := by decide +kernel
theorem oyX8_deck : okY yX8_deck 3 := ⟨by decide +kernel, by decide +kernel, by decide +kernel⟩
abbrev rmL_deck : Room := { frames := 7, cells := 1, slots := 6, locals := 159 }
abbrev tbL_deckr0 : ExceptionTableEntry := { startPc := 0, endPc := 12, handlerPc := 15, catchType := 24 }
abbrev tbL_deckr1 : ExceptionTableEntry := { startPc := 0, endPc := 12, handlerPc := 19, catchType := 13 }
abbrev tbL_deckr2 : ExceptionTableEntry := { startPc := 0, endPc := 12, handlerPc := 23, catchType := 29 }
abbrev tbL_deck : List ExceptionTableEntry := [tbL_deckr0, tbL_deckr1, tbL_deckr2]
theorem dL_deck_0 : decode cL_deck 0 = .ok (.aload 4, 2) := by decide +kernel
theorem dL_deck_2 : decode cL_deck 2 = .ok (.iconst 0, 1) := by decide +kernel
theorem dL_deck_3 : decode cL_deck 3 = .ok (.aload_n 0, 1) := by decide +kernel
theorem dL_deck_4 : decode cL_deck 4 = .ok (.iload_n 1, 1) := by decide +kernel
theorem dL_deck_5 : decode cL_deck 5 = .ok (.iload_n 2, 1) := by decide +kernel
theorem dL_deck_6 : decode cL_deck 6 = .ok (.iload_n 3, 1) := by decide +kernel
theorem dL_deck_7 : decode cL_deck 7 = .ok (.invokevirtual 34, 3) := by decide +kernel
theorem dL_deck_10 : decode cL_deck 10 = .ok (.i2l, 1) := by decide +kernel
theorem dL_deck_11 : decode cL_deck 11 = .ok (.lastore, 1) := by decide +kernel
theorem dL_deck_12 : decode cL_deck 12 = .ok (.goto 15, 3) := by decide +kernel
theorem dL_deck_15 : decode cL_deck 15 = .ok (.astore 5, 2) := by decide +kernel
theorem dL_deck_17 : decode cL_deck 17 = .ok (.iconst 1, 1) := by decide +kernel
theorem dL_deck_18 : decode cL_deck 18 = .ok (.ireturn, 1) := by decide +kernel
theorem dL_deck_19 : decode cL_deck 19 = .ok (.astore 5, 2) := by decide +kernel
theorem dL_deck_21 : decode cL_deck 21 = .ok (.iconst 2, 1) := by decide +kernel
theorem dL_deck_22 : decode cL_deck 22 = .ok (.ireturn, 1) := by decide +kernel
theorem dL_deck_23 : decode cL_deck 23 = .ok (.astore 5, 2) := by decide +kernel
theorem dL_deck_25 : decode cL_deck 25 = .ok (.iconst 3, 1) := by decide +kernel
theorem dL_deck_26 : decode cL_deck 26 = .ok (.ireturn, 1) := by decide +kernel
theorem dL_deck_27 : decode cL_deck 27 = .ok (.iconst 0, 1) := by decide +kernel
theorem dL_deck_28 : decode cL_deck 28 = .ok (.ireturn, 1) := by decide +kernel
def fL_deck (N : Nat) (Z : mZ) (a0 : Nat) (a1 : Int32) (a2 : Int32) (a3 : Int32) (a4 : Nat) (M : mM) : Option (Int32 × mM) := ck (okO Z a0 8) (bndT (fX8_deck N Z a0 a1 a2 a3 M) (fun r2 M2 => ck (okO Z a4 22) (ck (inB (0 : Int32) (Z.2.2.1 a4)) (some ((0 : Int32), (sL M2 a4 ((0 : Int32)).toNatClampNeg ((r2).toInt64)))))) (fun E2 M2 => if E2 = "java/lang/IndexOutOfBoundsException" then some ((1 : Int32), M2) else if E2 = "java/lang/IllegalArgumentException" then some ((2 : Int32), M2) else if E2 = "java/lang/UnsupportedOperationException" then some ((3 : Int32), M2) else none))
set_option maxHeartbeats 4000000 in
set_option maxRecDepth 100000 in
theorem ctL_deck {G : mG} {l : Launch} (hl : l.stackTraces = false) (N : Nat) (Z : mZ) {a0 : Nat} {a1 : Int32} {a2 : Int32} {a3 : Int32} {a4 : Nat} {M : mM} {r : Int32} {M' : mM} (h : fL_deck N Z a0 a1 a2 a3 a4 M = some (r, M')) : CT G l yL_deck (.codeWith yL_deck cL_deck 6 (some .int) [(0, 12, 15, 24), (0, 12, 19, 13), (0, 12, 23, 29)]) rmL_deck [.ref a0, .int a1, .int a2, .int a3, .ref a4] Z M (.inl (some (.int r))) Z M' := by
  unfold fL_deck at h
  refine CT.ofH hl (by decide) (Nat.le_of_ble_eq_true rfl) (tb := tbL_deck) rfl ?_
  intro p e s m args below meth c C hnm
  refine j_sub (L' := [(0, .ref a0), (1, .int a1), (2, .int a2), (3, .int a3), (4, .ref a4)]) [0, 1, 2, 3, 4] rfl ?_
  refine j_aload C dL_deck_0 4 rfl ?_
  refine j_iconst C dL_deck_2 (v := (0 : Int32)) (by decide) ?_
  refine j_aload_n C dL_deck_3 rfl 0 rfl ?_
  refine j_iload_n C dL_deck_4 rfl 1 rfl ?_
  refine j_iload_n C dL_deck_5 rfl 2 rfl ?_
  refine j_iload_n C dL_deck_6 rfl 3 rfl ?_
  obtain ⟨ho1, h⟩ := ck_spec h
  rcases bndT_spec h with ⟨r2, M2, hq2, h⟩ | ⟨E2, M2, hq2, h⟩
  · refine j_run1 (c_V C (As := [.int a1, .int a2, .int a3]) (rest := [.int (0 : Int32), .ref a4]) (ctX8_deck C.2.2.2.2.2.2.2.2.1 N Z hq2) kcRL_34 oyX8_deck (ci := 8) (T := TX8) (N := 11) rfl (by decide) ho1 ⟨by decide, by decide⟩ ⟨by decide, by decide⟩ (Nat.le_of_ble_eq_true rfl) rfl dL_deck_7) ?_
    refine j_i2l C dL_deck_10 ?_
    obtain ⟨ho3, h⟩ := ck_spec h
    obtain ⟨ho4, h⟩ := ck_spec h
    refine j_last C ho3 ho4 dL_deck_11 ?_
    refine j_goto C dL_deck_12 (tgt := 27) (by decide) ?_
    refine j_iconst C dL_deck_27 (v := (0 : Int32)) (by decide) ?_
    obtain ⟨rfl, rfl⟩ := so2 h
    exact j_iret C rfl (by decide) (by decide) dL_deck_28
  · by_cases hc5 : E2 = "java/lang/IndexOutOfBoundsException"
    · rw [if_pos hc5] at h
      subst hc5
      refine j_caught C (c_V C (As := [.int a1, .int a2, .int a3]) (rest := [.int (0 : Int32), .ref a4]) (ctX8_deck C.2.2.2.2.2.2.2.2.1 N Z hq2) kcRL_34 oyX8_deck (ci := 8) (T := TX8) (N := 11) rfl (by decide) ho1 ⟨by decide, by decide⟩ ⟨by decide, by decide⟩ (Nat.le_of_ble_eq_true rfl) rfl dL_deck_7) [] tbL_deckr0 [tbL_deckr1, tbL_deckr2] [] rfl (by decide +kernel) rfl (by decide) hlRL_24 hcast_IndexOutOfBoundsException (i1 := 5) (by decide) (Or.inr ⟨rfl, dL_deck_15⟩) ?_
      refine j_iconst C dL_deck_17 (v := (1 : Int32)) (by decide) ?_
      obtain ⟨rfl, rfl⟩ := so2 h
      exact j_iret C rfl (by decide) (by decide) dL_deck_18
    rw [if_neg hc5] at h
    by_cases hc6 : E2 = "java/lang/IllegalArgumentException"
    · rw [if_pos hc6] at h
      subst hc6
      refine j_caught C (c_V C (As := [.int a1, .int a2, .int a3]) (rest := [.int (0 : Int32), .ref a4]) (ctX8_deck C.2.2.2.2.2.2.2.2.1 N Z hq2) kcRL_34 oyX8_deck (ci := 8) (T := TX8) (N := 11) rfl (by decide) ho1 ⟨by decide, by decide⟩ ⟨by decide, by decide⟩ (Nat.le_of_ble_eq_true rfl) rfl dL_deck_7) [tbL_deckr0] tbL_deckr1 [tbL_deckr2] ["java/lang/IndexOutOfBoundsException"] rfl (by decide +kernel) rfl (by decide) hlRL_13 hcast_IllegalArgumentException (i1 := 5) (by decide) (Or.inr ⟨rfl, dL_deck_19⟩) ?_
      refine j_iconst C dL_deck_21 (v := (2 : Int32)) (by decide) ?_
      obtain ⟨rfl, rfl⟩ := so2 h
      exact j_iret C rfl (by decide) (by decide) dL_deck_22
    rw [if_neg hc6] at h
    by_cases hc7 : E2 = "java/lang/UnsupportedOperationException"
    · rw [if_pos hc7] at h
      subst hc7
      refine j_caught C (c_V C (As := [.int a1, .int a2, .int a3]) (rest := [.int (0 : Int32), .ref a4]) (ctX8_deck C.2.2.2.2.2.2.2.2.1 N Z hq2) kcRL_34 oyX8_deck (ci := 8) (T := TX8) (N := 11) rfl (by decide) ho1 ⟨by decide, by decide⟩ ⟨by decide, by decide⟩ (Nat.le_of_ble_eq_true rfl) rfl dL_deck_7) [tbL_deckr0, tbL_deckr1] tbL_deckr2 [] ["java/lang/IndexOutOfBoundsException", "java/lang/IllegalArgumentException"] rfl (by decide +kernel) rfl (by decide) hlRL_29 hcast_UnsupportedOperationException (i1 := 5) (by decide) (Or.inr ⟨rfl, dL_deck_23⟩) ?_
      refine j_iconst C dL_deck_25 (v := (3 : Int32)) (by decide) ?_
      obtain ⟨rfl, rfl⟩ := so2 h
      exact j_iret C rfl (by decide) (by decide) dL_deck_26
    rw [if_neg hc7] at h
    cases h
-- ScaffoldPlannerLaw put
theorem kcRL_38 : okV RL 38 yX8_put (.code yX8_put cX8_put 4 (some .int)) = true := by decide +kernel
theorem oyX8_put : okY yX8_put 3 := ⟨by decide +kernel, by decide +kernel, by decide +kernel⟩
abbrev rmL_put : Room := { frames := 7, cells := 1, slots := 6, locals := 159 }
abbrev tbL_putr0 : ExceptionTableEntry := { startPc := 0, endPc := 12, handlerPc := 15, catchType := 13 }
abbrev tbL_putr1 : ExceptionTableEntry := { startPc := 0, endPc := 12, handlerPc := 19, catchType := 24 }
abbrev tbL_putr2 : ExceptionTableEntry := { startPc := 0, endPc := 12, handlerPc := 23, catchType := 29 }
abbrev tbL_put : List ExceptionTableEntry := [tbL_putr0, tbL_putr1, tbL_putr2]
theorem dL_put_0 : decode cL_put 0 = .ok (.aload 4, 2) := by decide +kernel
theorem dL_put_2 : decode cL_put 2 = .ok (.iconst 0, 1) := by decide +kernel
theorem dL_put_3 : decode cL_put 3 = .ok (.aload_n 0, 1) := by decide +kernel
theorem dL_put_4 : decode cL_put 4 = .ok (.iload_n 1, 1) := by decide +kernel
theorem dL_put_5 : decode cL_put 5 = .ok (.iload_n 2, 1) := by decide +kernel
theorem dL_put_6 : decode cL_put 6 = .ok (.iload_n 3, 1) := by decide +kernel
theorem dL_put_7 : decode cL_put 7 = .ok (.invokevirtual 38, 3) := by decide +kernel
theorem dL_put_10 : decode cL_put 10 = .ok (.i2l, 1) := by decide +kernel
theorem dL_put_11 : decode cL_put 11 = .ok (.lastore, 1) := by decide +kernel
theorem dL_put_12 : decode cL_put 12 = .ok (.goto 15, 3) := by decide +kernel
theorem dL_put_15 : decode cL_put 15 = .ok (.astore 5, 2) := by decide +kernel
theorem dL_put_17 : decode cL_put 17 = .ok (.iconst 1, 1) := by decide +kernel
theorem dL_put_18 : decode cL_put 18 = .ok (.ireturn, 1) := by decide +kernel
theorem dL_put_19 : decode cL_put 19 = .ok (.astore 5, 2) := by decide +kernel
theorem dL_put_21 : decode cL_put 21 = .ok (.iconst 2, 1) := by decide +kernel
theorem dL_put_22 : decode cL_put 22 = .ok (.ireturn, 1) := by decide +kernel
theorem dL_put_23 : decode cL_put 23 = .ok (.astore 5, 2) := by decide +kernel
theorem dL_put_25 : decode cL_put 25 = .ok (.iconst 3, 1) := by decide +kernel
theorem dL_put_26 : decode cL_put 26 = .ok (.ireturn, 1) := by decide +kernel
theorem dL_put_27 : decode cL_put 27 = .ok (.iconst 0, 1) := by decide +kernel
theorem dL_put_28 : decode cL_put 28 = .ok (.ireturn, 1) := by decide +kernel
def fL_put (N : Nat) (Z : mZ) (a0 : Nat) (a1 : Int32) (a2 : Int32) (a3 : Int32) (a4 : Nat) (M : mM) : Option (Int32 × mM) := ck (okO Z a0 8) (bndT (fX8_put N Z a0 a1 a2 a3 M) (fun r2 M2 => ck (okO Z a4 22) (ck (inB (0 : Int32) (Z.2.2.1 a4)) (some ((0 : Int32), (sL M2 a4 ((0 : Int32)).toNatClampNeg ((r2).toInt64)))))) (fun E2 M2 => if E2 = "java/lang/IllegalArgumentException" then some ((1 : Int32), M2) else if E2 = "java/lang/IndexOutOfBoundsException" then some ((2 : Int32), M2) else if E2 = "java/lang/UnsupportedOperationException" then some ((3 : Int32), M2) else none))
set_option maxHeartbeats 4000000 in
set_option maxRecDepth 100000 in
theorem ctL_put {G : mG} {l : Launch} (hl : l.stackTraces = false) (N : Nat) (Z : mZ) {a0 : Nat} {a1 : Int32} {a2 : Int32} {a3 : Int32} {a4 : Nat} {M : mM} {r : Int32} {M' : mM} (h : fL_put N Z a0 a1 a2 a3 a4 M = some (r, M')) : CT G l yL_put (.codeWith yL_put cL_put 6 (some .int) [(0, 12, 15, 13), (0, 12, 19, 24), (0, 12, 23, 29)]) rmL_put [.ref a0, .int a1, .int a2, .int a3, .ref a4] Z M (.inl (some (.int r))) Z M' := by
  unfold fL_put at h
  refine CT.ofH hl (by decide) (Nat.le_of_ble_eq_true rfl) (tb := tbL_put) rfl ?_
  intro p e s m args below meth c C hnm
  refine j_sub (L' := [(0, .ref a0), (1, .int a1), (2, .int a2), (3, .int a3), (4, .ref a4)]) [0, 1, 2, 3, 4] rfl ?_
  refine j_aload C dL_put_0 4 rfl ?_
  refine j_iconst C dL_put_2 (v := (0 : Int32)) (by decide) ?_
  refine j_aload_n C dL_put_3 rfl 0 rfl ?_
  refine j_iload_n C dL_put_4 rfl 1 rfl ?_
  refine j_iload_n C dL_put_5 rfl 2 rfl ?_
  refine j_iload_n C dL_put_6 rfl 3 rfl ?_
  obtain ⟨ho1, h⟩ := ck_spec h
  rcases bndT_spec h with ⟨r2, M2, hq2, h⟩ | ⟨E2, M2, hq2, h⟩
  · refine j_run1 (c_V C (As := [.int a1, .int a2, .int a3]) (rest := [.int (0 : Int32), .ref a4]) (ctX8_put C.2.2.2.2.2.2.2.2.1 N Z hq2) kcRL_38 oyX8_put (ci := 8) (T := TX8) (N := 11) rfl (by decide) ho1 ⟨by decide, by decide⟩ ⟨by decide, by decide⟩ (Nat.le_of_ble_eq_true rfl) rfl dL_put_7) ?_
    refine j_i2l C dL_put_10 ?_
    obtain ⟨ho3, h⟩ := ck_spec h
    obtain ⟨ho4, h⟩ := ck_spec h
    refine j_last C ho3 ho4 dL_put_11 ?_
    refine j_goto C dL_put_12 (tgt := 27) (by decide) ?_
    refine j_iconst C dL_put_27 (v := (0 : Int32)) (by decide) ?_
    obtain ⟨rfl, rfl⟩ := so2 h
    exact j_iret C rfl (by decide) (by decide) dL_put_28
  · by_cases hc5 : E2 = "java/lang/IllegalArgumentException"
    · rw [if_pos hc5] at h
      subst hc5
      refine j_caught C (c_V C (As := [.int a1, .int a2, .int a3]) (rest := [.int (0 : Int32), .ref a4]) (ctX8_put C.2.2.2.2.2.2.2.2.1 N Z hq2) kcRL_38 oyX8_put (ci := 8) (T := TX8) (N := 11) rfl (by decide) ho1 ⟨by decide, by decide⟩ ⟨by decide, by decide⟩ (Nat.le_of_ble_eq_true rfl) rfl dL_put_7) [] tbL_putr0 [tbL_putr1, tbL_putr2] [] rfl (by decide +kernel) rfl (by decide) hlRL_13 hcast_IllegalArgumentException (i1 := 5) (by decide) (Or.inr ⟨rfl, dL_put_15⟩) ?_
      refine j_iconst C dL_put_17 (v := (1 : Int32)) (by decide) ?_
      obtain ⟨rfl, rfl⟩ := so2 h
      exact j_iret C rfl (by decide) (by decide) dL_put_18
    rw [if_neg hc5] at h
    by_cases hc6 : E2 = "java/lang/IndexOutOfBoundsException"
    · rw [if_pos hc6] at h
      subst hc6
      refine j_caught C (c_V C (As := [.int a1, .int a2, .int a3]) (rest := [.int (0 : Int32), .ref a4]) (ctX8_put C.2.2.2.2.2.2.2.2.1 N Z hq2) kcRL_38 oyX8_put (ci := 8) (T := TX8) (N := 11) rfl (by decide) ho1 ⟨by decide, by decide⟩ ⟨by decide, by decide⟩ (Nat.le_of_ble_eq_true rfl) rfl dL_put_7) [tbL_putr0] tbL_putr1 [tbL_putr2] ["java/lang/IllegalArgumentException"] rfl (by decide +kernel) rfl (by decide) hlRL_24 hcast_IndexOutOfBoundsException (i1 := 5) (by decide) (Or.inr ⟨rfl, dL_put_19⟩) ?_
      refine j_iconst C dL_put_21 (v := (2 : Int32)) (by decide) ?_
      obtain ⟨rfl, rfl⟩ := so2 h
      exact j_iret C rfl (by decide) (by decide) dL_put_22
    rw [if_neg hc6] at h
    by_cases hc7 : E2 = "java/lang/UnsupportedOperationException"
    · rw [if_pos hc7] at h
      subst hc7
      refine j_caught C (c_V C (As := [.int a1, .int a2, .int a3]) (rest := [.int (0 : Int32), .ref a4]) (ctX8_put C.2.2.2.2.2.2.2.2.1 N Z hq2) kcRL_38 oyX8_put (ci := 8) (T := TX8) (N := 11) rfl (by decide) ho1 ⟨by decide, by decide⟩ ⟨by decide, by decide⟩ (Nat.le_of_ble_eq_true rfl) rfl dL_put_7) [tbL_putr0, tbL_putr1] tbL_putr2 [] ["java/lang/IllegalArgumentException", "java/lang/IndexOutOfBoundsException"] rfl (by decide +kernel) rfl (by decide) hlRL_29 hcast_UnsupportedOperationException (i1 := 5) (by decide) (Or.inr ⟨rfl, dL_put_23⟩) ?_
      refine j_iconst C dL_put_25 (v := (3 : Int32)) (by decide) ?_
      obtain ⟨rfl, rfl⟩ := so2 h
      exact j_iret C rfl (by decide) (by decide) dL_put_26
    rw [if_neg hc7] at h
    cases h
-- ScaffoldPlannerLaw take
theorem kcRL_41 : okV RL 41 yX8_take (.code yX8_take cX8_take 4 (some .int)) = true := by decide +kernel
theorem oyX8_take : okY yX8_take 3 := ⟨by decide +kernel, by decide +kernel, by decide +kernel⟩
abbrev rmL_take : Room := { frames := 7, cells := 1, slots := 6, locals := 159 }
abbrev tbL_taker0 : ExceptionTableEntry := { startPc := 0, endPc := 12, handlerPc := 15, catchType := 13 }
abbrev tbL_taker1 : ExceptionTableEntry := { startPc := 0, endPc := 12, handlerPc := 19, catchType := 24 }
abbrev tbL_taker2 : ExceptionTableEntry := { startPc := 0, endPc := 12, handlerPc := 23, catchType := 29 }
abbrev tbL_take : List ExceptionTableEntry := [tbL_taker0, tbL_taker1, tbL_taker2]
theorem dL_take_0 : decode cL_take 0 = .ok (.aload 4, 2) := by decide +kernel
theorem dL_take_2 : decode cL_take 2 = .ok (.iconst 0, 1) := by decide +kernel
theorem dL_take_3 : decode cL_take 3 = .ok (.aload_n 0, 1) := by decide +kernel
theorem dL_take_4 : decode cL_take 4 = .ok (.iload_n 1, 1) := by decide +kernel
theorem dL_take_5 : decode cL_take 5 = .ok (.iload_n 2, 1) := by decide +kernel
theorem dL_take_6 : decode cL_take 6 = .ok (.iload_n 3, 1) := by decide +kernel
theorem dL_take_7 : decode cL_take 7 = .ok (.invokevirtual 41, 3) := by decide +kernel
theorem dL_take_10 : decode cL_take 10 = .ok (.i2l, 1) := by decide +kernel
theorem dL_take_11 : decode cL_take 11 = .ok (.lastore, 1) := by decide +kernel
theorem dL_take_12 : decode cL_take 12 = .ok (.goto 15, 3) := by decide +kernel
theorem dL_take_15 : decode cL_take 15 = .ok (.astore 5, 2) := by decide +kernel
theorem dL_take_17 : decode cL_take 17 = .ok (.iconst 1, 1) := by decide +kernel
theorem dL_take_18 : decode cL_take 18 = .ok (.ireturn, 1) := by decide +kernel
theorem dL_take_19 : decode cL_take 19 = .ok (.astore 5, 2) := by decide +kernel
theorem dL_take_21 : decode cL_take 21 = .ok (.iconst 2, 1) := by decide +kernel
theorem dL_take_22 : decode cL_take 22 = .ok (.ireturn, 1) := by decide +kernel
theorem dL_take_23 : decode cL_take 23 = .ok (.astore 5, 2) := by decide +kernel
theorem dL_take_25 : decode cL_take 25 = .ok (.iconst 3, 1) := by decide +kernel
theorem dL_take_26 : decode cL_take 26 = .ok (.ireturn, 1) := by decide +kernel
theorem dL_take_27 : decode cL_take 27 = .ok (.iconst 0, 1) := by decide +kernel
theorem dL_take_28 : decode cL_take 28 = .ok (.ireturn, 1) := by decide +kernel
def fL_take (N : Nat) (Z : mZ) (a0 : Nat) (a1 : Int32) (a2 : Int32) (a3 : Int32) (a4 : Nat) (M : mM) : Option (Int32 × mM) := ck (okO Z a0 8) (bndT (fX8_take N Z a0 a1 a2 a3 M) (fun r2 M2 => ck (okO Z a4 22) (ck (inB (0 : Int32) (Z.2.2.1 a4)) (some ((0 : Int32), (sL M2 a4 ((0 : Int32)).toNatClampNeg ((r2).toInt64)))))) (fun E2 M2 => if E2 = "java/lang/IllegalArgumentException" then some ((1 : Int32), M2) else if E2 = "java/lang/IndexOutOfBoundsException" then some ((2 : Int32), M2) else if E2 = "java/lang/UnsupportedOperationException" then some ((3 : Int32), M2) else none))
set_option maxHeartbeats 4000000 in
set_option maxRecDepth 100000 in
theorem ctL_take {G : mG} {l : Launch} (hl : l.stackTraces = false) (N : Nat) (Z : mZ) {a0 : Nat} {a1 : Int32} {a2 : Int32} {a3 : Int32} {a4 : Nat} {M : mM} {r : Int32} {M' : mM} (h : fL_take N Z a0 a1 a2 a3 a4 M = some (r, M')) : CT G l yL_take (.codeWith yL_take cL_take 6 (some .int) [(0, 12, 15, 13), (0, 12, 19, 24), (0, 12, 23, 29)]) rmL_take [.ref a0, .int a1, .int a2, .int a3, .ref a4] Z M (.inl (some (.int r))) Z M' := by
  unfold fL_take at h
  refine CT.ofH hl (by decide) (Nat.le_of_ble_eq_true rfl) (tb := tbL_take) rfl ?_
  intro p e s m args below meth c C hnm
  refine j_sub (L' := [(0, .ref a0), (1, .int a1), (2, .int a2), (3, .int a3), (4, .ref a4)]) [0, 1, 2, 3, 4] rfl ?_
  refine j_aload C dL_take_0 4 rfl ?_
  refine j_iconst C dL_take_2 (v := (0 : Int32)) (by decide) ?_
  refine j_aload_n C dL_take_3 rfl 0 rfl ?_
  refine j_iload_n C dL_take_4 rfl 1 rfl ?_
  refine j_iload_n C dL_take_5 rfl 2 rfl ?_
  refine j_iload_n C dL_take_6 rfl 3 rfl ?_
  obtain ⟨ho1, h⟩ := ck_spec h
  rcases bndT_spec h with ⟨r2, M2, hq2, h⟩ | ⟨E2, M2, hq2, h⟩
  · refine j_run1 (c_V C (As := [.int a1, .int a2, .int a3]) (rest := [.int (0 : Int32), .ref a4]) (ctX8_take C.2.2.2.2.2.2.2.2.1 N Z hq2) kcRL_41 oyX8_take (ci := 8) (T := TX8) (N := 11) rfl (by decide) ho1 ⟨by decide, by decide⟩ ⟨by decide, by decide⟩ (Nat.le_of_ble_eq_true rfl) rfl dL_take_7) ?_
    refine j_i2l C dL_take_10 ?_
    obtain ⟨ho3, h⟩ := ck_spec h
    obtain ⟨ho4, h⟩ := ck_spec h
    refine j_last C ho3 ho4 dL_take_11 ?_
    refine j_goto C dL_take_12 (tgt := 27) (by decide) ?_
    refine j_iconst C dL_take_27 (v := (0 : Int32)) (by decide) ?_
    obtain ⟨rfl, rfl⟩ := so2 h
    exact j_iret C rfl (by decide) (by decide) dL_take_28
  · by_cases hc5 : E2 = "java/lang/IllegalArgumentException"
    · rw [if_pos hc5] at h
      subst hc5
      refine j_caught C (c_V C (As := [.int a1, .int a2, .int a3]) (rest := [.int (0 : Int32), .ref a4]) (ctX8_take C.2.2.2.2.2.2.2.2.1 N Z hq2) kcRL_41 oyX8_take (ci := 8) (T := TX8) (N := 11) rfl (by decide) ho1 ⟨by decide, by decide⟩ ⟨by decide, by decide⟩ (Nat.le_of_ble_eq_true rfl) rfl dL_take_7) [] tbL_taker0 [tbL_taker1, tbL_taker2] [] rfl (by decide +kernel) rfl (by decide) hlRL_13 hcast_IllegalArgumentException (i1 := 5) (by decide) (Or.inr ⟨rfl, dL_take_15⟩) ?_
      refine j_iconst C dL_take_17 (v := (1 : Int32)) (by decide) ?_
      obtain ⟨rfl, rfl⟩ := so2 h
      exact j_iret C rfl (by decide) (by decide) dL_take_18
    rw [if_neg hc5] at h
    by_cases hc6 : E2 = "java/lang/IndexOutOfBoundsException"
    · rw [if_pos hc6] at h
      subst hc6
      refine j_caught C (c_V C (As := [.int a1, .int a2, .int a3]) (rest := [.int (0 : Int32), .ref a4]) (ctX8_take C.2.2.2.2.2.2.2.2.1 N Z hq2) kcRL_41 oyX8_take (ci := 8) (T := TX8) (N := 11) rfl (by decide) ho1 ⟨by decide, by decide⟩ ⟨by decide, by decide⟩ (Nat.le_of_ble_eq_true rfl) rfl dL_take_7) [tbL_taker0] tbL_taker1 [tbL_taker2] ["java/lang/IllegalArgumentException"] rfl (by decide +kernel) rfl (by decide) hlRL_24 hcast_IndexOutOfBoundsException (i1 := 5) (by decide) (Or.inr ⟨rfl, dL_take_19⟩) ?_
      refine j_iconst C dL_take_21 (v := (2 : Int32)) (by decide) ?_
      obtain ⟨rfl, rfl⟩ := so2 h
      exact j_iret C rfl (by decide) (by decide) dL_take_22
    rw [if_neg hc6] at h
    by_cases hc7 : E2 = "java/lang/UnsupportedOperationException"
    · rw [if_pos hc7] at h
      subst hc7
      refine j_caught C (c_V C (As := [.int a1, .int a2, .int a3]) (rest := [.int (0 : Int32), .ref a4]) (ctX8_take C.2.2.2.2.2.2.2.2.1 N Z hq2) kcRL_41 oyX8_take (ci := 8) (T := TX8) (N := 11) rfl (by decide) ho1 ⟨by decide, by decide⟩ ⟨by decide, by decide⟩ (Nat.le_of_ble_eq_true rfl) rfl dL_take_7) [tbL_taker0, tbL_taker1] tbL_taker2 [] ["java/lang/IllegalArgumentException", "java/lang/IndexOutOfBoundsException"] rfl (by decide +kernel) rfl (by decide) hlRL_29 hcast_UnsupportedOperationException (i1 := 5) (by decide) (Or.inr ⟨rfl, dL_take_23⟩) ?_
      refine j_iconst C dL_take_25 (v := (3 : Int32)) (by decide) ?_
      obtain ⟨rfl, rfl⟩ := so2 h
      exact j_iret C rfl (by decide) (by decide) dL_take_26
    rw [if_neg hc7] at h
    cases h
-- ScaffoldPlannerLaw refusal
theorem kcRL_44 : okV RL 44 yX8_refusal (.code yX8_refusal cX8_refusal 5 (some .int)) = true := by decide +kernel
theorem oyX8_refusal : okY yX8_refusal 4 := ⟨by decide +kernel, by decide +kernel, by decide +kernel⟩
abbrev rmL_refusal : Room := { frames := 7, cells := 1, slots := 6, locals := 140 }
abbrev tbL_refusalr0 : ExceptionTableEntry := { startPc := 0, endPc := 14, handlerPc := 17, catchType := 13 }
abbrev tbL_refusalr1 : ExceptionTableEntry := { startPc := 0, endPc := 14, handlerPc := 21, catchType := 24 }
abbrev tbL_refusal : List ExceptionTableEntry := [tbL_refusalr0, tbL_refusalr1]
theorem dL_refusal_0 : decode cL_refusal 0 = .ok (.aload 5, 2) := by decide +kernel
theorem dL_refusal_2 : decode cL_refusal 2 = .ok (.iconst 0, 1) := by decide +kernel
theorem dL_refusal_3 : decode cL_refusal 3 = .ok (.aload_n 0, 1) := by decide +kernel
theorem dL_refusal_4 : decode cL_refusal 4 = .ok (.iload_n 1, 1) := by decide +kernel
theorem dL_refusal_5 : decode cL_refusal 5 = .ok (.iload_n 2, 1) := by decide +kernel
theorem dL_refusal_6 : decode cL_refusal 6 = .ok (.iload_n 3, 1) := by decide +kernel
theorem dL_refusal_7 : decode cL_refusal 7 = .ok (.iload 4, 2) := by decide +kernel
theorem dL_refusal_9 : decode cL_refusal 9 = .ok (.invokevirtual 44, 3) := by decide +kernel
theorem dL_refusal_12 : decode cL_refusal 12 = .ok (.i2l, 1) := by decide +kernel
theorem dL_refusal_13 : decode cL_refusal 13 = .ok (.lastore, 1) := by decide +kernel
theorem dL_refusal_14 : decode cL_refusal 14 = .ok (.goto 11, 3) := by decide +kernel
theorem dL_refusal_17 : decode cL_refusal 17 = .ok (.astore 6, 2) := by decide +kernel
theorem dL_refusal_19 : decode cL_refusal 19 = .ok (.iconst 1, 1) := by decide +kernel
theorem dL_refusal_20 : decode cL_refusal 20 = .ok (.ireturn, 1) := by decide +kernel
theorem dL_refusal_21 : decode cL_refusal 21 = .ok (.astore 6, 2) := by decide +kernel
theorem dL_refusal_23 : decode cL_refusal 23 = .ok (.iconst 2, 1) := by decide +kernel
theorem dL_refusal_24 : decode cL_refusal 24 = .ok (.ireturn, 1) := by decide +kernel
theorem dL_refusal_25 : decode cL_refusal 25 = .ok (.iconst 0, 1) := by decide +kernel
theorem dL_refusal_26 : decode cL_refusal 26 = .ok (.ireturn, 1) := by decide +kernel
def fL_refusal (N : Nat) (Z : mZ) (a0 : Nat) (a1 : Int32) (a2 : Int32) (a3 : Int32) (a4 : Int32) (a5 : Nat) (M : mM) : Option (Int32 × mM) := ck (okO Z a0 8) (bndT (fX8_refusal N Z a0 a1 a2 a3 a4 M) (fun r2 M2 => ck (okO Z a5 22) (ck (inB (0 : Int32) (Z.2.2.1 a5)) (some ((0 : Int32), (sL M2 a5 ((0 : Int32)).toNatClampNeg ((r2).toInt64)))))) (fun E2 M2 => if E2 = "java/lang/IllegalArgumentException" then some ((1 : Int32), M2) else if E2 = "java/lang/IndexOutOfBoundsException" then some ((2 : Int32), M2) else none))
set_option maxHeartbeats 4000000 in
set_option maxRecDepth 100000 in
theorem ctL_refusal {G : mG} {l : Launch} (hl : l.stackTraces = false) (N : Nat) (Z : mZ) {a0 : Nat} {a1 : Int32} {a2 : Int32} {a3 : Int32} {a4 : Int32} {a5 : Nat} {M : mM} {r : Int32} {M' : mM} (h : fL_refusal N Z a0 a1 a2 a3 a4 a5 M = some (r, M')) : CT G l yL_refusal (.codeWith yL_refusal cL_refusal 7 (some .int) [(0, 14, 17, 13), (0, 14, 21, 24)]) rmL_refusal [.ref a0, .int a1, .int a2, .int a3, .int a4, .ref a5] Z M (.inl (some (.int r))) Z M' := by
  unfold fL_refusal at h
  refine CT.ofH hl (by decide) (Nat.le_of_ble_eq_true rfl) (tb := tbL_refusal) rfl ?_
  intro p e s m args below meth c C hnm
  refine j_sub (L' := [(0, .ref a0), (1, .int a1), (2, .int a2), (3, .int a3), (4, .int a4), (5, .ref a5)]) [0, 1, 2, 3, 4, 5] rfl ?_
  refine j_aload C dL_refusal_0 5 rfl ?_
  refine j_iconst C dL_refusal_2 (v := (0 : Int32)) (by decide) ?_
  refine j_aload_n C dL_refusal_3 rfl 0 rfl ?_
  refine j_iload_n C dL_refusal_4 rfl 1 rfl ?_
  refine j_iload_n C dL_refusal_5 rfl 2 rfl ?_
  refine j_iload_n C dL_refusal_6 rfl 3 rfl ?_
  refine j_iload C dL_refusal_7 4 rfl ?_
  obtain ⟨ho1, h⟩ := ck_spec h
  rcases bndT_spec h with ⟨r2, M2, hq2, h⟩ | ⟨E2, M2, hq2, h⟩
  · refine j_run1 (c_V C (As := [.int a1, .int a2, .int a3, .int a4]) (rest := [.int (0 : Int32), .ref a5]) (ctX8_refusal C.2.2.2.2.2.2.2.2.1 N Z hq2) kcRL_44 oyX8_refusal (ci := 8) (T := TX8) (N := 11) rfl (by decide) ho1 ⟨by decide, by decide⟩ ⟨by decide, by decide⟩ (Nat.le_of_ble_eq_true rfl) rfl dL_refusal_9) ?_
    refine j_i2l C dL_refusal_12 ?_
    obtain ⟨ho3, h⟩ := ck_spec h
    obtain ⟨ho4, h⟩ := ck_spec h
    refine j_last C ho3 ho4 dL_refusal_13 ?_
    refine j_goto C dL_refusal_14 (tgt := 25) (by decide) ?_
    refine j_iconst C dL_refusal_25 (v := (0 : Int32)) (by decide) ?_
    obtain ⟨rfl, rfl⟩ := so2 h
    exact j_iret C rfl (by decide) (by decide) dL_refusal_26
  · by_cases hc5 : E2 = "java/lang/IllegalArgumentException"
    · rw [if_pos hc5] at h
      subst hc5
      refine j_caught C (c_V C (As := [.int a1, .int a2, .int a3, .int a4]) (rest := [.int (0 : Int32), .ref a5]) (ctX8_refusal C.2.2.2.2.2.2.2.2.1 N Z hq2) kcRL_44 oyX8_refusal (ci := 8) (T := TX8) (N := 11) rfl (by decide) ho1 ⟨by decide, by decide⟩ ⟨by decide, by decide⟩ (Nat.le_of_ble_eq_true rfl) rfl dL_refusal_9) [] tbL_refusalr0 [tbL_refusalr1] [] rfl (by decide +kernel) rfl (by decide) hlRL_13 hcast_IllegalArgumentException (i1 := 6) (by decide) (Or.inr ⟨rfl, dL_refusal_17⟩) ?_
      refine j_iconst C dL_refusal_19 (v := (1 : Int32)) (by decide) ?_
      obtain ⟨rfl, rfl⟩ := so2 h
      exact j_iret C rfl (by decide) (by decide) dL_refusal_20
    rw [if_neg hc5] at h
    by_cases hc6 : E2 = "java/lang/IndexOutOfBoundsException"
    · rw [if_pos hc6] at h
      subst hc6
      refine j_caught C (c_V C (As := [.int a1, .int a2, .int a3, .int a4]) (rest := [.int (0 : Int32), .ref a5]) (ctX8_refusal C.2.2.2.2.2.2.2.2.1 N Z hq2) kcRL_44 oyX8_refusal (ci := 8) (T := TX8) (N := 11) rfl (by decide) ho1 ⟨by decide, by decide⟩ ⟨by decide, by decide⟩ (Nat.le_of_ble_eq_true rfl) rfl dL_refusal_9) [tbL_refusalr0] tbL_refusalr1 [] ["java/lang/IllegalArgumentException"] rfl (by decide +kernel) rfl (by decide) hlRL_24 hcast_IndexOutOfBoundsException (i1 := 6) (by decide) (Or.inr ⟨rfl, dL_refusal_21⟩) ?_
      refine j_iconst C dL_refusal_23 (v := (2 : Int32)) (by decide) ?_
      obtain ⟨rfl, rfl⟩ := so2 h
      exact j_iret C rfl (by decide) (by decide) dL_refusal_24
    rw [if_neg hc6] at h
    cases h
-- ScaffoldPlannerLaw report
theorem kcRL_48 : okV RL 48 yX8_report (.code yX8_report cX8_report 3 (some .int)) = true := by decide +kernel
theorem oyX8_report : okY yX8_report 2 := ⟨by decide +kernel, by decide +kernel, by decide +kernel⟩
theorem hlRL_52 : Cond.classLink RL 52 "java/util/NoSuchElementException" ∈ gw := by decide +kernel
theorem hcast_NoSuchElementException : Cond.castable "java/util/NoSuchElementException" "java/util/NoSuchElementException" ∈ nw := by decide +kernel
abbrev rmL_report : Room := { frames := 7, cells := 1, slots := 6, locals := 112 }
abbrev tbL_reportr0 : ExceptionTableEntry := { startPc := 0, endPc := 10, handlerPc := 13, catchType := 52 }
abbrev tbL_report : List ExceptionTableEntry := [tbL_reportr0]
theorem dL_report_0 : decode cL_report 0 = .ok (.aload_n 3, 1) := by decide +kernel
theorem dL_report_1 : decode cL_report 1 = .ok (.iconst 0, 1) := by decide +kernel
theorem dL_report_2 : decode cL_report 2 = .ok (.aload_n 0, 1) := by decide +kernel
theorem dL_report_3 : decode cL_report 3 = .ok (.iload_n 1, 1) := by decide +kernel
theorem dL_report_4 : decode cL_report 4 = .ok (.iload_n 2, 1) := by decide +kernel
theorem dL_report_5 : decode cL_report 5 = .ok (.invokevirtual 48, 3) := by decide +kernel
theorem dL_report_8 : decode cL_report 8 = .ok (.i2l, 1) := by decide +kernel
theorem dL_report_9 : decode cL_report 9 = .ok (.lastore, 1) := by decide +kernel
theorem dL_report_10 : decode cL_report 10 = .ok (.goto 7, 3) := by decide +kernel
theorem dL_report_13 : decode cL_report 13 = .ok (.astore 4, 2) := by decide +kernel
theorem dL_report_15 : decode cL_report 15 = .ok (.iconst 1, 1) := by decide +kernel
theorem dL_report_16 : decode cL_report 16 = .ok (.ireturn, 1) := by decide +kernel
theorem dL_report_17 : decode cL_report 17 = .ok (.iconst 0, 1) := by decide +kernel
theorem dL_report_18 : decode cL_report 18 = .ok (.ireturn, 1) := by decide +kernel
def fL_report (N : Nat) (Z : mZ) (a0 : Nat) (a1 : Int32) (a2 : Int32) (a3 : Nat) (M : mM) : Option (Int32 × mM) := ck (okO Z a0 8) (bndT (fX8_report N Z a0 a1 a2 M) (fun r2 M2 => ck (okO Z a3 22) (ck (inB (0 : Int32) (Z.2.2.1 a3)) (some ((0 : Int32), (sL M2 a3 ((0 : Int32)).toNatClampNeg ((r2).toInt64)))))) (fun E2 M2 => if E2 = "java/util/NoSuchElementException" then some ((1 : Int32), M2) else none))
set_option maxHeartbeats 4000000 in
set_option maxRecDepth 100000 in
theorem ctL_report {G : mG} {l : Launch} (hl : l.stackTraces = false) (N : Nat) (Z : mZ) {a0 : Nat} {a1 : Int32} {a2 : Int32} {a3 : Nat} {M : mM} {r : Int32} {M' : mM} (h : fL_report N Z a0 a1 a2 a3 M = some (r, M')) : CT G l yL_report (.codeWith yL_report cL_report 5 (some .int) [(0, 10, 13, 52)]) rmL_report [.ref a0, .int a1, .int a2, .ref a3] Z M (.inl (some (.int r))) Z M' := by
  unfold fL_report at h
  refine CT.ofH hl (by decide) (Nat.le_of_ble_eq_true rfl) (tb := tbL_report) rfl ?_
  intro p e s m args below meth c C hnm
  refine j_sub (L' := [(0, .ref a0), (1, .int a1), (2, .int a2), (3, .ref a3)]) [0, 1, 2, 3] rfl ?_
  refine j_aload_n C dL_report_0 rfl 3 rfl ?_
  refine j_iconst C dL_report_1 (v := (0 : Int32)) (by decide) ?_
  refine j_aload_n C dL_report_2 rfl 0 rfl ?_
  refine j_iload_n C dL_report_3 rfl 1 rfl ?_
  refine j_iload_n C dL_report_4 rfl 2 rfl ?_
  obtain ⟨ho1, h⟩ := ck_spec h
  rcases bndT_spec h with ⟨r2, M2, hq2, h⟩ | ⟨E2, M2, hq2, h⟩
  · refine j_run1 (c_V C (As := [.int a1, .int a2]) (rest := [.int (0 : Int32), .ref a3]) (ctX8_report C.2.2.2.2.2.2.2.2.1 N Z hq2) kcRL_48 oyX8_report (ci := 8) (T := TX8) (N := 11) rfl (by decide) ho1 ⟨by decide, by decide⟩ ⟨by decide, by decide⟩ (Nat.le_of_ble_eq_true rfl) rfl dL_report_5) ?_
    refine j_i2l C dL_report_8 ?_
    obtain ⟨ho3, h⟩ := ck_spec h
    obtain ⟨ho4, h⟩ := ck_spec h
    refine j_last C ho3 ho4 dL_report_9 ?_
    refine j_goto C dL_report_10 (tgt := 17) (by decide) ?_
    refine j_iconst C dL_report_17 (v := (0 : Int32)) (by decide) ?_
    obtain ⟨rfl, rfl⟩ := so2 h
    exact j_iret C rfl (by decide) (by decide) dL_report_18
  · by_cases hc5 : E2 = "java/util/NoSuchElementException"
    · rw [if_pos hc5] at h
      subst hc5
      refine j_caught C (c_V C (As := [.int a1, .int a2]) (rest := [.int (0 : Int32), .ref a3]) (ctX8_report C.2.2.2.2.2.2.2.2.1 N Z hq2) kcRL_48 oyX8_report (ci := 8) (T := TX8) (N := 11) rfl (by decide) ho1 ⟨by decide, by decide⟩ ⟨by decide, by decide⟩ (Nat.le_of_ble_eq_true rfl) rfl dL_report_5) [] tbL_reportr0 [] [] rfl (by decide +kernel) rfl (by decide) hlRL_52 hcast_NoSuchElementException (i1 := 4) (by decide) (Or.inr ⟨rfl, dL_report_13⟩) ?_
      refine j_iconst C dL_report_15 (v := (1 : Int32)) (by decide) ?_
      obtain ⟨rfl, rfl⟩ := so2 h
      exact j_iret C rfl (by decide) (by decide) dL_report_16
    rw [if_neg hc5] at h
    cases h
-- ScaffoldPlannerLaw bay
theorem kcRL_54 : okV RL 54 yX8_bay (.code yX8_bay cX8_bay 3 (some .int)) = true := by decide +kernel
theorem oyX8_bay : okY yX8_bay 2 := ⟨by decide +kernel, by decide +kernel, by decide +kernel⟩
abbrev rmL_bay : Room := { frames := 7, cells := 1, slots := 6, locals := 112 }
abbrev tbL_bayr0 : ExceptionTableEntry := { startPc := 0, endPc := 10, handlerPc := 13, catchType := 24 }
abbrev tbL_bayr1 : ExceptionTableEntry := { startPc := 0, endPc := 10, handlerPc := 17, catchType := 13 }
abbrev tbL_bay : List ExceptionTableEntry := [tbL_bayr0, tbL_bayr1]
theorem dL_bay_0 : decode cL_bay 0 = .ok (.aload_n 3, 1) := by decide +kernel
theorem dL_bay_1 : decode cL_bay 1 = .ok (.iconst 0, 1) := by decide +kernel
theorem dL_bay_2 : decode cL_bay 2 = .ok (.aload_n 0, 1) := by decide +kernel
theorem dL_bay_3 : decode cL_bay 3 = .ok (.iload_n 1, 1) := by decide +kernel
theorem dL_bay_4 : decode cL_bay 4 = .ok (.iload_n 2, 1) := by decide +kernel
theorem dL_bay_5 : decode cL_bay 5 = .ok (.invokevirtual 54, 3) := by decide +kernel
theorem dL_bay_8 : decode cL_bay 8 = .ok (.i2l, 1) := by decide +kernel
theorem dL_bay_9 : decode cL_bay 9 = .ok (.lastore, 1) := by decide +kernel
theorem dL_bay_10 : decode cL_bay 10 = .ok (.goto 11, 3) := by decide +kernel
theorem dL_bay_13 : decode cL_bay 13 = .ok (.astore 4, 2) := by decide +kernel
theorem dL_bay_15 : decode cL_bay 15 = .ok (.iconst 1, 1) := by decide +kernel
theorem dL_bay_16 : decode cL_bay 16 = .ok (.ireturn, 1) := by decide +kernel
theorem dL_bay_17 : decode cL_bay 17 = .ok (.astore 4, 2) := by decide +kernel
theorem dL_bay_19 : decode cL_bay 19 = .ok (.iconst 2, 1) := by decide +kernel
theorem dL_bay_20 : decode cL_bay 20 = .ok (.ireturn, 1) := by decide +kernel
theorem dL_bay_21 : decode cL_bay 21 = .ok (.iconst 0, 1) := by decide +kernel
theorem dL_bay_22 : decode cL_bay 22 = .ok (.ireturn, 1) := by decide +kernel
def fL_bay (N : Nat) (Z : mZ) (a0 : Nat) (a1 : Int32) (a2 : Int32) (a3 : Nat) (M : mM) : Option (Int32 × mM) := ck (okO Z a0 8) (bndT (fX8_bay N Z a0 a1 a2 M) (fun r2 M2 => ck (okO Z a3 22) (ck (inB (0 : Int32) (Z.2.2.1 a3)) (some ((0 : Int32), (sL M2 a3 ((0 : Int32)).toNatClampNeg ((r2).toInt64)))))) (fun E2 M2 => if E2 = "java/lang/IndexOutOfBoundsException" then some ((1 : Int32), M2) else if E2 = "java/lang/IllegalArgumentException" then some ((2 : Int32), M2) else none))
set_option maxHeartbeats 4000000 in
set_option maxRecDepth 100000 in
theorem ctL_bay {G : mG} {l : Launch} (hl : l.stackTraces = false) (N : Nat) (Z : mZ) {a0 : Nat} {a1 : Int32} {a2 : Int32} {a3 : Nat} {M : mM} {r : Int32} {M' : mM} (h : fL_bay N Z a0 a1 a2 a3 M = some (r, M')) : CT G l yL_bay (.codeWith yL_bay cL_bay 5 (some .int) [(0, 10, 13, 24), (0, 10, 17, 13)]) rmL_bay [.ref a0, .int a1, .int a2, .ref a3] Z M (.inl (some (.int r))) Z M' := by
  unfold fL_bay at h
  refine CT.ofH hl (by decide) (Nat.le_of_ble_eq_true rfl) (tb := tbL_bay) rfl ?_
  intro p e s m args below meth c C hnm
  refine j_sub (L' := [(0, .ref a0), (1, .int a1), (2, .int a2), (3, .ref a3)]) [0, 1, 2, 3] rfl ?_
  refine j_aload_n C dL_bay_0 rfl 3 rfl ?_
  refine j_iconst C dL_bay_1 (v := (0 : Int32)) (by decide) ?_
  refine j_aload_n C dL_bay_2 rfl 0 rfl ?_
  refine j_iload_n C dL_bay_3 rfl 1 rfl ?_
  refine j_iload_n C dL_bay_4 rfl 2 rfl ?_
  obtain ⟨ho1, h⟩ := ck_spec h
  rcases bndT_spec h with ⟨r2, M2, hq2, h⟩ | ⟨E2, M2, hq2, h⟩
  · refine j_run1 (c_V C (As := [.int a1, .int a2]) (rest := [.int (0 : Int32), .ref a3]) (ctX8_bay C.2.2.2.2.2.2.2.2.1 N Z hq2) kcRL_54 oyX8_bay (ci := 8) (T := TX8) (N := 11) rfl (by decide) ho1 ⟨by decide, by decide⟩ ⟨by decide, by decide⟩ (Nat.le_of_ble_eq_true rfl) rfl dL_bay_5) ?_
    refine j_i2l C dL_bay_8 ?_
    obtain ⟨ho3, h⟩ := ck_spec h
    obtain ⟨ho4, h⟩ := ck_spec h
    refine j_last C ho3 ho4 dL_bay_9 ?_
    refine j_goto C dL_bay_10 (tgt := 21) (by decide) ?_
    refine j_iconst C dL_bay_21 (v := (0 : Int32)) (by decide) ?_
    obtain ⟨rfl, rfl⟩ := so2 h
    exact j_iret C rfl (by decide) (by decide) dL_bay_22
  · by_cases hc5 : E2 = "java/lang/IndexOutOfBoundsException"
    · rw [if_pos hc5] at h
      subst hc5
      refine j_caught C (c_V C (As := [.int a1, .int a2]) (rest := [.int (0 : Int32), .ref a3]) (ctX8_bay C.2.2.2.2.2.2.2.2.1 N Z hq2) kcRL_54 oyX8_bay (ci := 8) (T := TX8) (N := 11) rfl (by decide) ho1 ⟨by decide, by decide⟩ ⟨by decide, by decide⟩ (Nat.le_of_ble_eq_true rfl) rfl dL_bay_5) [] tbL_bayr0 [tbL_bayr1] [] rfl (by decide +kernel) rfl (by decide) hlRL_24 hcast_IndexOutOfBoundsException (i1 := 4) (by decide) (Or.inr ⟨rfl, dL_bay_13⟩) ?_
      refine j_iconst C dL_bay_15 (v := (1 : Int32)) (by decide) ?_
      obtain ⟨rfl, rfl⟩ := so2 h
      exact j_iret C rfl (by decide) (by decide) dL_bay_16
    rw [if_neg hc5] at h
    by_cases hc6 : E2 = "java/lang/IllegalArgumentException"
    · rw [if_pos hc6] at h
      subst hc6
      refine j_caught C (c_V C (As := [.int a1, .int a2]) (rest := [.int (0 : Int32), .ref a3]) (ctX8_bay C.2.2.2.2.2.2.2.2.1 N Z hq2) kcRL_54 oyX8_bay (ci := 8) (T := TX8) (N := 11) rfl (by decide) ho1 ⟨by decide, by decide⟩ ⟨by decide, by decide⟩ (Nat.le_of_ble_eq_true rfl) rfl dL_bay_5) [tbL_bayr0] tbL_bayr1 [] ["java/lang/IndexOutOfBoundsException"] rfl (by decide +kernel) rfl (by decide) hlRL_13 hcast_IllegalArgumentException (i1 := 4) (by decide) (Or.inr ⟨rfl, dL_bay_17⟩) ?_
      refine j_iconst C dL_bay_19 (v := (2 : Int32)) (by decide) ?_
      obtain ⟨rfl, rfl⟩ := so2 h
      exact j_iret C rfl (by decide) (by decide) dL_bay_20
    rw [if_neg hc6] at h
    cases h
-- ScaffoldPlannerLaw post
theorem kcRL_57 : okV RL 57 yX8_post (.code yX8_post cX8_post 3 (some .int)) = true := by decide +kernel
theorem oyX8_post : okY yX8_post 2 := ⟨by decide +kernel, by decide +kernel, by decide +kernel⟩
abbrev rmL_post : Room := { frames := 7, cells := 1, slots := 6, locals := 112 }
abbrev tbL_postr0 : ExceptionTableEntry := { startPc := 0, endPc := 10, handlerPc := 13, catchType := 24 }
abbrev tbL_postr1 : ExceptionTableEntry := { startPc := 0, endPc := 10, handlerPc := 17, catchType := 13 }
abbrev tbL_post : List ExceptionTableEntry := [tbL_postr0, tbL_postr1]
theorem dL_post_0 : decode cL_post 0 = .ok (.aload_n 3, 1) := by decide +kernel
theorem dL_post_1 : decode cL_post 1 = .ok (.iconst 0, 1) := by decide +kernel
theorem dL_post_2 : decode cL_post 2 = .ok (.aload_n 0, 1) := by decide +kernel
theorem dL_post_3 : decode cL_post 3 = .ok (.iload_n 1, 1) := by decide +kernel
theorem dL_post_4 : decode cL_post 4 = .ok (.iload_n 2, 1) := by decide +kernel
theorem dL_post_5 : decode cL_post 5 = .ok (.invokevirtual 57, 3) := by decide +kernel
theorem dL_post_8 : decode cL_post 8 = .ok (.i2l, 1) := by decide +kernel
theorem dL_post_9 : decode cL_post 9 = .ok (.lastore, 1) := by decide +kernel
theorem dL_post_10 : decode cL_post 10 = .ok (.goto 11, 3) := by decide +kernel
theorem dL_post_13 : decode cL_post 13 = .ok (.astore 4, 2) := by decide +kernel
theorem dL_post_15 : decode cL_post 15 = .ok (.iconst 1, 1) := by decide +kernel
theorem dL_post_16 : decode cL_post 16 = .ok (.ireturn, 1) := by decide +kernel
theorem dL_post_17 : decode cL_post 17 = .ok (.astore 4, 2) := by decide +kernel
theorem dL_post_19 : decode cL_post 19 = .ok (.iconst 2, 1) := by decide +kernel
theorem dL_post_20 : decode cL_post 20 = .ok (.ireturn, 1) := by decide +kernel
theorem dL_post_21 : decode cL_post 21 = .ok (.iconst 0, 1) := by decide +kernel
theorem dL_post_22 : decode cL_post 22 = .ok (.ireturn, 1) := by decide +kernel
def fL_post (N : Nat) (Z : mZ) (a0 : Nat) (a1 : Int32) (a2 : Int32) (a3 : Nat) (M : mM) : Option (Int32 × mM) := ck (okO Z a0 8) (bndT (fX8_post N Z a0 a1 a2 M) (fun r2 M2 => ck (okO Z a3 22) (ck (inB (0 : Int32) (Z.2.2.1 a3)) (some ((0 : Int32), (sL M2 a3 ((0 : Int32)).toNatClampNeg ((r2).toInt64)))))) (fun E2 M2 => if E2 = "java/lang/IndexOutOfBoundsException" then some ((1 : Int32), M2) else if E2 = "java/lang/IllegalArgumentException" then some ((2 : Int32), M2) else none))
set_option maxHeartbeats 4000000 in
set_option maxRecDepth 100000 in
theorem ctL_post {G : mG} {l : Launch} (hl : l.stackTraces = false) (N : Nat) (Z : mZ) {a0 : Nat} {a1 : Int32} {a2 : Int32} {a3 : Nat} {M : mM} {r : Int32} {M' : mM} (h : fL_post N Z a0 a1 a2 a3 M = some (r, M')) : CT G l yL_post (.codeWith yL_post cL_post 5 (some .int) [(0, 10, 13, 24), (0, 10, 17, 13)]) rmL_post [.ref a0, .int a1, .int a2, .ref a3] Z M (.inl (some (.int r))) Z M' := by
  unfold fL_post at h
  refine CT.ofH hl (by decide) (Nat.le_of_ble_eq_true rfl) (tb := tbL_post) rfl ?_
  intro p e s m args below meth c C hnm
  refine j_sub (L' := [(0, .ref a0), (1, .int a1), (2, .int a2), (3, .ref a3)]) [0, 1, 2, 3] rfl ?_
  refine j_aload_n C dL_post_0 rfl 3 rfl ?_
  refine j_iconst C dL_post_1 (v := (0 : Int32)) (by decide) ?_
  refine j_aload_n C dL_post_2 rfl 0 rfl ?_
  refine j_iload_n C dL_post_3 rfl 1 rfl ?_
  refine j_iload_n C dL_post_4 rfl 2 rfl ?_
  obtain ⟨ho1, h⟩ := ck_spec h
  rcases bndT_spec h with ⟨r2, M2, hq2, h⟩ | ⟨E2, M2, hq2, h⟩
  · refine j_run1 (c_V C (As := [.int a1, .int a2]) (rest := [.int (0 : Int32), .ref a3]) (ctX8_post C.2.2.2.2.2.2.2.2.1 N Z hq2) kcRL_57 oyX8_post (ci := 8) (T := TX8) (N := 11) rfl (by decide) ho1 ⟨by decide, by decide⟩ ⟨by decide, by decide⟩ (Nat.le_of_ble_eq_true rfl) rfl dL_post_5) ?_
    refine j_i2l C dL_post_8 ?_
    obtain ⟨ho3, h⟩ := ck_spec h
    obtain ⟨ho4, h⟩ := ck_spec h
    refine j_last C ho3 ho4 dL_post_9 ?_
    refine j_goto C dL_post_10 (tgt := 21) (by decide) ?_
    refine j_iconst C dL_post_21 (v := (0 : Int32)) (by decide) ?_
    obtain ⟨rfl, rfl⟩ := so2 h
    exact j_iret C rfl (by decide) (by decide) dL_post_22
  · by_cases hc5 : E2 = "java/lang/IndexOutOfBoundsException"
    · rw [if_pos hc5] at h
      subst hc5
      refine j_caught C (c_V C (As := [.int a1, .int a2]) (rest := [.int (0 : Int32), .ref a3]) (ctX8_post C.2.2.2.2.2.2.2.2.1 N Z hq2) kcRL_57 oyX8_post (ci := 8) (T := TX8) (N := 11) rfl (by decide) ho1 ⟨by decide, by decide⟩ ⟨by decide, by decide⟩ (Nat.le_of_ble_eq_true rfl) rfl dL_post_5) [] tbL_postr0 [tbL_postr1] [] rfl (by decide +kernel) rfl (by decide) hlRL_24 hcast_IndexOutOfBoundsException (i1 := 4) (by decide) (Or.inr ⟨rfl, dL_post_13⟩) ?_
      refine j_iconst C dL_post_15 (v := (1 : Int32)) (by decide) ?_
      obtain ⟨rfl, rfl⟩ := so2 h
      exact j_iret C rfl (by decide) (by decide) dL_post_16
    rw [if_neg hc5] at h
    by_cases hc6 : E2 = "java/lang/IllegalArgumentException"
    · rw [if_pos hc6] at h
      subst hc6
      refine j_caught C (c_V C (As := [.int a1, .int a2]) (rest := [.int (0 : Int32), .ref a3]) (ctX8_post C.2.2.2.2.2.2.2.2.1 N Z hq2) kcRL_57 oyX8_post (ci := 8) (T := TX8) (N := 11) rfl (by decide) ho1 ⟨by decide, by decide⟩ ⟨by decide, by decide⟩ (Nat.le_of_ble_eq_true rfl) rfl dL_post_5) [tbL_postr0] tbL_postr1 [] ["java/lang/IndexOutOfBoundsException"] rfl (by decide +kernel) rfl (by decide) hlRL_13 hcast_IllegalArgumentException (i1 := 4) (by decide) (Or.inr ⟨rfl, dL_post_17⟩) ?_
      refine j_iconst C dL_post_19 (v := (2 : Int32)) (by decide) ?_
      obtain ⟨rfl, rfl⟩ := so2 h
      exact j_iret C rfl (by decide) (by decide) dL_post_20
    rw [if_neg hc6] at h
    cases h
-- ScaffoldPlannerLaw load
theorem kcRL_60 : okV RL 60 yX8_load (.code yX8_load cX8_load 3 (some .int)) = true := by decide +kernel
theorem oyX8_load : okY yX8_load 2 := ⟨by decide +kernel, by decide +kernel, by decide +kernel⟩
abbrev rmL_load : Room := { frames := 7, cells := 1, slots := 6, locals := 112 }
abbrev tbL_loadr0 : ExceptionTableEntry := { startPc := 0, endPc := 10, handlerPc := 13, catchType := 24 }
abbrev tbL_loadr1 : ExceptionTableEntry := { startPc := 0, endPc := 10, handlerPc := 17, catchType := 52 }
abbrev tbL_load : List ExceptionTableEntry := [tbL_loadr0, tbL_loadr1]
theorem dL_load_0 : decode cL_load 0 = .ok (.aload_n 3, 1) := by decide +kernel
theorem dL_load_1 : decode cL_load 1 = .ok (.iconst 0, 1) := by decide +kernel
theorem dL_load_2 : decode cL_load 2 = .ok (.aload_n 0, 1) := by decide +kernel
theorem dL_load_3 : decode cL_load 3 = .ok (.iload_n 1, 1) := by decide +kernel
theorem dL_load_4 : decode cL_load 4 = .ok (.iload_n 2, 1) := by decide +kernel
theorem dL_load_5 : decode cL_load 5 = .ok (.invokevirtual 60, 3) := by decide +kernel
theorem dL_load_8 : decode cL_load 8 = .ok (.i2l, 1) := by decide +kernel
theorem dL_load_9 : decode cL_load 9 = .ok (.lastore, 1) := by decide +kernel
theorem dL_load_10 : decode cL_load 10 = .ok (.goto 11, 3) := by decide +kernel
theorem dL_load_13 : decode cL_load 13 = .ok (.astore 4, 2) := by decide +kernel
theorem dL_load_15 : decode cL_load 15 = .ok (.iconst 1, 1) := by decide +kernel
theorem dL_load_16 : decode cL_load 16 = .ok (.ireturn, 1) := by decide +kernel
theorem dL_load_17 : decode cL_load 17 = .ok (.astore 4, 2) := by decide +kernel
theorem dL_load_19 : decode cL_load 19 = .ok (.iconst 2, 1) := by decide +kernel
theorem dL_load_20 : decode cL_load 20 = .ok (.ireturn, 1) := by decide +kernel
theorem dL_load_21 : decode cL_load 21 = .ok (.iconst 0, 1) := by decide +kernel
theorem dL_load_22 : decode cL_load 22 = .ok (.ireturn, 1) := by decide +kernel
def fL_load (N : Nat) (Z : mZ) (a0 : Nat) (a1 : Int32) (a2 : Int32) (a3 : Nat) (M : mM) : Option (Int32 × mM) := ck (okO Z a0 8) (bndT (fX8_load N Z a0 a1 a2 M) (fun r2 M2 => ck (okO Z a3 22) (ck (inB (0 : Int32) (Z.2.2.1 a3)) (some ((0 : Int32), (sL M2 a3 ((0 : Int32)).toNatClampNeg ((r2).toInt64)))))) (fun E2 M2 => if E2 = "java/lang/IndexOutOfBoundsException" then some ((1 : Int32), M2) else if E2 = "java/util/NoSuchElementException" then some ((2 : Int32), M2) else none))
set_option maxHeartbeats 4000000 in
set_option maxRecDepth 100000 in
theorem ctL_load {G : mG} {l : Launch} (hl : l.stackTraces = false) (N : Nat) (Z : mZ) {a0 : Nat} {a1 : Int32} {a2 : Int32} {a3 : Nat} {M : mM} {r : Int32} {M' : mM} (h : fL_load N Z a0 a1 a2 a3 M = some (r, M')) : CT G l yL_load (.codeWith yL_load cL_load 5 (some .int) [(0, 10, 13, 24), (0, 10, 17, 52)]) rmL_load [.ref a0, .int a1, .int a2, .ref a3] Z M (.inl (some (.int r))) Z M' := by
  unfold fL_load at h
  refine CT.ofH hl (by decide) (Nat.le_of_ble_eq_true rfl) (tb := tbL_load) rfl ?_
  intro p e s m args below meth c C hnm
  refine j_sub (L' := [(0, .ref a0), (1, .int a1), (2, .int a2), (3, .ref a3)]) [0, 1, 2, 3] rfl ?_
  refine j_aload_n C dL_load_0 rfl 3 rfl ?_
  refine j_iconst C dL_load_1 (v := (0 : Int32)) (by decide) ?_
  refine j_aload_n C dL_load_2 rfl 0 rfl ?_
  refine j_iload_n C dL_load_3 rfl 1 rfl ?_
  refine j_iload_n C dL_load_4 rfl 2 rfl ?_
  obtain ⟨ho1, h⟩ := ck_spec h
  rcases bndT_spec h with ⟨r2, M2, hq2, h⟩ | ⟨E2, M2, hq2, h⟩
  · refine j_run1 (c_V C (As := [.int a1, .int a2]) (rest := [.int (0 : Int32), .ref a3]) (ctX8_load C.2.2.2.2.2.2.2.2.1 N Z hq2) kcRL_60 oyX8_load (ci := 8) (T := TX8) (N := 11) rfl (by decide) ho1 ⟨by decide, by decide⟩ ⟨by decide, by decide⟩ (Nat.le_of_ble_eq_true rfl) rfl dL_load_5) ?_
    refine j_i2l C dL_load_8 ?_
    obtain ⟨ho3, h⟩ := ck_spec h
    obtain ⟨ho4, h⟩ := ck_spec h
    refine j_last C ho3 ho4 dL_load_9 ?_
    refine j_goto C dL_load_10 (tgt := 21) (by decide) ?_
    refine j_iconst C dL_load_21 (v := (0 : Int32)) (by decide) ?_
    obtain ⟨rfl, rfl⟩ := so2 h
    exact j_iret C rfl (by decide) (by decide) dL_load_22
  · by_cases hc5 : E2 = "java/lang/IndexOutOfBoundsException"
    · rw [if_pos hc5] at h
      subst hc5
      refine j_caught C (c_V C (As := [.int a1, .int a2]) (rest := [.int (0 : Int32), .ref a3]) (ctX8_load C.2.2.2.2.2.2.2.2.1 N Z hq2) kcRL_60 oyX8_load (ci := 8) (T := TX8) (N := 11) rfl (by decide) ho1 ⟨by decide, by decide⟩ ⟨by decide, by decide⟩ (Nat.le_of_ble_eq_true rfl) rfl dL_load_5) [] tbL_loadr0 [tbL_loadr1] [] rfl (by decide +kernel) rfl (by decide) hlRL_24 hcast_IndexOutOfBoundsException (i1 := 4) (by decide) (Or.inr ⟨rfl, dL_load_13⟩) ?_
      refine j_iconst C dL_load_15 (v := (1 : Int32)) (by decide) ?_
      obtain ⟨rfl, rfl⟩ := so2 h
      exact j_iret C rfl (by decide) (by decide) dL_load_16
    rw [if_neg hc5] at h
    by_cases hc6 : E2 = "java/util/NoSuchElementException"
    · rw [if_pos hc6] at h
      subst hc6
      refine j_caught C (c_V C (As := [.int a1, .int a2]) (rest := [.int (0 : Int32), .ref a3]) (ctX8_load C.2.2.2.2.2.2.2.2.1 N Z hq2) kcRL_60 oyX8_load (ci := 8) (T := TX8) (N := 11) rfl (by decide) ho1 ⟨by decide, by decide⟩ ⟨by decide, by decide⟩ (Nat.le_of_ble_eq_true rfl) rfl dL_load_5) [tbL_loadr0] tbL_loadr1 [] ["java/lang/IndexOutOfBoundsException"] rfl (by decide +kernel) rfl (by decide) hlRL_52 hcast_NoSuchElementException (i1 := 4) (by decide) (Or.inr ⟨rfl, dL_load_17⟩) ?_
      refine j_iconst C dL_load_19 (v := (2 : Int32)) (by decide) ?_
      obtain ⟨rfl, rfl⟩ := so2 h
      exact j_iret C rfl (by decide) (by decide) dL_load_20
    rw [if_neg hc6] at h
    cases h
-- ScaffoldPlannerLaw steps
theorem kcRL_63 : okV RL 63 yX8_steps (.code yX8_steps cX8_steps 3 (some .int)) = true := by decide +kernel
theorem oyX8_steps : okY yX8_steps 2 := ⟨by decide +kernel, by decide +kernel, by decide +kernel⟩
abbrev rmL_steps : Room := { frames := 7, cells := 1, slots := 6, locals := 112 }
abbrev tbL_stepsr0 : ExceptionTableEntry := { startPc := 0, endPc := 10, handlerPc := 13, catchType := 24 }
abbrev tbL_stepsr1 : ExceptionTableEntry := { startPc := 0, endPc := 10, handlerPc := 17, catchType := 52 }
abbrev tbL_steps : List ExceptionTableEntry := [tbL_stepsr0, tbL_stepsr1]
theorem dL_steps_0 : decode cL_steps 0 = .ok (.aload_n 3, 1) := by decide +kernel
theorem dL_steps_1 : decode cL_steps 1 = .ok (.iconst 0, 1) := by decide +kernel
theorem dL_steps_2 : decode cL_steps 2 = .ok (.aload_n 0, 1) := by decide +kernel
theorem dL_steps_3 : decode cL_steps 3 = .ok (.iload_n 1, 1) := by decide +kernel
theorem dL_steps_4 : decode cL_steps 4 = .ok (.iload_n 2, 1) := by decide +kernel
theorem dL_steps_5 : decode cL_steps 5 = .ok (.invokevirtual 63, 3) := by decide +kernel
theorem dL_steps_8 : decode cL_steps 8 = .ok (.i2l, 1) := by decide +kernel
theorem dL_steps_9 : decode cL_steps 9 = .ok (.lastore, 1) := by decide +kernel
theorem dL_steps_10 : decode cL_steps 10 = .ok (.goto 11, 3) := by decide +kernel
theorem dL_steps_13 : decode cL_steps 13 = .ok (.astore 4, 2) := by decide +kernel
theorem dL_steps_15 : decode cL_steps 15 = .ok (.iconst 1, 1) := by decide +kernel
theorem dL_steps_16 : decode cL_steps 16 = .ok (.ireturn, 1) := by decide +kernel
theorem dL_steps_17 : decode cL_steps 17 = .ok (.astore 4, 2) := by decide +kernel
theorem dL_steps_19 : decode cL_steps 19 = .ok (.iconst 2, 1) := by decide +kernel
theorem dL_steps_20 : decode cL_steps 20 = .ok (.ireturn, 1) := by decide +kernel
theorem dL_steps_21 : decode cL_steps 21 = .ok (.iconst 0, 1) := by decide +kernel
theorem dL_steps_22 : decode cL_steps 22 = .ok (.ireturn, 1) := by decide +kernel
def fL_steps (N : Nat) (Z : mZ) (a0 : Nat) (a1 : Int32) (a2 : Int32) (a3 : Nat) (M : mM) : Option (Int32 × mM) := ck (okO Z a0 8) (bndT (fX8_steps N Z a0 a1 a2 M) (fun r2 M2 => ck (okO Z a3 22) (ck (inB (0 : Int32) (Z.2.2.1 a3)) (some ((0 : Int32), (sL M2 a3 ((0 : Int32)).toNatClampNeg ((r2).toInt64)))))) (fun E2 M2 => if E2 = "java/lang/IndexOutOfBoundsException" then some ((1 : Int32), M2) else if E2 = "java/util/NoSuchElementException" then some ((2 : Int32), M2) else none))
set_option maxHeartbeats 4000000 in
set_option maxRecDepth 100000 in
theorem ctL_steps {G : mG} {l : Launch} (hl : l.stackTraces = false) (N : Nat) (Z : mZ) {a0 : Nat} {a1 : Int32} {a2 : Int32} {a3 : Nat} {M : mM} {r : Int32} {M' : mM} (h : fL_steps N Z a0 a1 a2 a3 M = some (r, M')) : CT G l yL_steps (.codeWith yL_steps cL_steps 5 (some .int) [(0, 10, 13, 24), (0, 10, 17, 52)]) rmL_steps [.ref a0, .int a1, .int a2, .ref a3] Z M (.inl (some (.int r))) Z M' := by
  unfold fL_steps at h
  refine CT.ofH hl (by decide) (Nat.le_of_ble_eq_true rfl) (tb := tbL_steps) rfl ?_
  intro p e s m args below meth c C hnm
  refine j_sub (L' := [(0, .ref a0), (1, .int a1), (2, .int a2), (3, .ref a3)]) [0, 1, 2, 3] rfl ?_
  refine j_aload_n C dL_steps_0 rfl 3 rfl ?_
  refine j_iconst C dL_steps_1 (v := (0 : Int32)) (by decide) ?_
  refine j_aload_n C dL_steps_2 rfl 0 rfl ?_
  refine j_iload_n C dL_steps_3 rfl 1 rfl ?_
  refine j_iload_n C dL_steps_4 rfl 2 rfl ?_
  obtain ⟨ho1, h⟩ := ck_spec h
  rcases bndT_spec h with ⟨r2, M2, hq2, h⟩ | ⟨E2, M2, hq2, h⟩
  · refine j_run1 (c_V C (As := [.int a1, .int a2]) (rest := [.int (0 : Int32), .ref a3]) (ctX8_steps C.2.2.2.2.2.2.2.2.1 N Z hq2) kcRL_63 oyX8_steps (ci := 8) (T := TX8) (N := 11) rfl (by decide) ho1 ⟨by decide, by decide⟩ ⟨by decide, by decide⟩ (Nat.le_of_ble_eq_true rfl) rfl dL_steps_5) ?_
    refine j_i2l C dL_steps_8 ?_
    obtain ⟨ho3, h⟩ := ck_spec h
    obtain ⟨ho4, h⟩ := ck_spec h
    refine j_last C ho3 ho4 dL_steps_9 ?_
    refine j_goto C dL_steps_10 (tgt := 21) (by decide) ?_
    refine j_iconst C dL_steps_21 (v := (0 : Int32)) (by decide) ?_
    obtain ⟨rfl, rfl⟩ := so2 h
    exact j_iret C rfl (by decide) (by decide) dL_steps_22
  · by_cases hc5 : E2 = "java/lang/IndexOutOfBoundsException"
    · rw [if_pos hc5] at h
      subst hc5
      refine j_caught C (c_V C (As := [.int a1, .int a2]) (rest := [.int (0 : Int32), .ref a3]) (ctX8_steps C.2.2.2.2.2.2.2.2.1 N Z hq2) kcRL_63 oyX8_steps (ci := 8) (T := TX8) (N := 11) rfl (by decide) ho1 ⟨by decide, by decide⟩ ⟨by decide, by decide⟩ (Nat.le_of_ble_eq_true rfl) rfl dL_steps_5) [] tbL_stepsr0 [tbL_stepsr1] [] rfl (by decide +kernel) rfl (by decide) hlRL_24 hcast_IndexOutOfBoundsException (i1 := 4) (by decide) (Or.inr ⟨rfl, dL_steps_13⟩) ?_
      refine j_iconst C dL_steps_15 (v := (1 : Int32)) (by decide) ?_
      obtain ⟨rfl, rfl⟩ := so2 h
      exact j_iret C rfl (by decide) (by decide) dL_steps_16
    rw [if_neg hc5] at h
    by_cases hc6 : E2 = "java/util/NoSuchElementException"
    · rw [if_pos hc6] at h
      subst hc6
      refine j_caught C (c_V C (As := [.int a1, .int a2]) (rest := [.int (0 : Int32), .ref a3]) (ctX8_steps C.2.2.2.2.2.2.2.2.1 N Z hq2) kcRL_63 oyX8_steps (ci := 8) (T := TX8) (N := 11) rfl (by decide) ho1 ⟨by decide, by decide⟩ ⟨by decide, by decide⟩ (Nat.le_of_ble_eq_true rfl) rfl dL_steps_5) [tbL_stepsr0] tbL_stepsr1 [] ["java/lang/IndexOutOfBoundsException"] rfl (by decide +kernel) rfl (by decide) hlRL_52 hcast_NoSuchElementException (i1 := 4) (by decide) (Or.inr ⟨rfl, dL_steps_17⟩) ?_
      refine j_iconst C dL_steps_19 (v := (2 : Int32)) (by decide) ?_
      obtain ⟨rfl, rfl⟩ := so2 h
      exact j_iret C rfl (by decide) (by decide) dL_steps_20
    rw [if_neg hc6] at h
    cases h
-- ScaffoldPlannerLaw fewestTies
theorem kcRL_66 : okV RL 66 yX8_fewestTies (.code yX8_fewestTies cX8_fewestTies 2 (some .int)) = true := by decide +kernel
theorem oyX8_fewestTies : okY yX8_fewestTies 1 := ⟨by decide +kernel, by decide +kernel, by decide +kernel⟩
abbrev rmL_fewestTies : Room := { frames := 7, cells := 1, slots := 6, locals := 111 }
abbrev tbL_fewestTiesr0 : ExceptionTableEntry := { startPc := 0, endPc := 9, handlerPc := 12, catchType := 13 }
abbrev tbL_fewestTies : List ExceptionTableEntry := [tbL_fewestTiesr0]
theorem dL_fewestTies_0 : decode cL_fewestTies 0 = .ok (.aload_n 2, 1) := by decide +kernel
theorem dL_fewestTies_1 : decode cL_fewestTies 1 = .ok (.iconst 0, 1) := by decide +kernel
theorem dL_fewestTies_2 : decode cL_fewestTies 2 = .ok (.aload_n 0, 1) := by decide +kernel
theorem dL_fewestTies_3 : decode cL_fewestTies 3 = .ok (.iload_n 1, 1) := by decide +kernel
theorem dL_fewestTies_4 : decode cL_fewestTies 4 = .ok (.invokevirtual 66, 3) := by decide +kernel
theorem dL_fewestTies_7 : decode cL_fewestTies 7 = .ok (.i2l, 1) := by decide +kernel
theorem dL_fewestTies_8 : decode cL_fewestTies 8 = .ok (.lastore, 1) := by decide +kernel
theorem dL_fewestTies_9 : decode cL_fewestTies 9 = .ok (.goto 6, 3) := by decide +kernel
theorem dL_fewestTies_12 : decode cL_fewestTies 12 = .ok (.astore_n 3, 1) := by decide +kernel
theorem dL_fewestTies_13 : decode cL_fewestTies 13 = .ok (.iconst 1, 1) := by decide +kernel
theorem dL_fewestTies_14 : decode cL_fewestTies 14 = .ok (.ireturn, 1) := by decide +kernel
theorem dL_fewestTies_15 : decode cL_fewestTies 15 = .ok (.iconst 0, 1) := by decide +kernel
theorem dL_fewestTies_16 : decode cL_fewestTies 16 = .ok (.ireturn, 1) := by decide +kernel
def fL_fewestTies (N : Nat) (Z : mZ) (a0 : Nat) (a1 : Int32) (a2 : Nat) (M : mM) : Option (Int32 × mM) := ck (okO Z a0 8) (bndT (fX8_fewestTies N Z a0 a1 M) (fun r2 M2 => ck (okO Z a2 22) (ck (inB (0 : Int32) (Z.2.2.1 a2)) (some ((0 : Int32), (sL M2 a2 ((0 : Int32)).toNatClampNeg ((r2).toInt64)))))) (fun E2 M2 => if E2 = "java/lang/IllegalArgumentException" then some ((1 : Int32), M2) else none))
set_option maxHeartbeats 4000000 in
set_option maxRecDepth 100000 in
theorem ctL_fewestTies {G : mG} {l : Launch} (hl : l.stackTraces = false) (N : Nat) (Z : mZ) {a0 : Nat} {a1 : Int32} {a2 : Nat} {M : mM} {r : Int32} {M' : mM} (h : fL_fewestTies N Z a0 a1 a2 M = some (r, M')) : CT G l yL_fewestTies (.codeWith yL_fewestTies cL_fewestTies 4 (some .int) [(0, 9, 12, 13)]) rmL_fewestTies [.ref a0, .int a1, .ref a2] Z M (.inl (some (.int r))) Z M' := by
  unfold fL_fewestTies at h
  refine CT.ofH hl (by decide) (Nat.le_of_ble_eq_true rfl) (tb := tbL_fewestTies) rfl ?_
  intro p e s m args below meth c C hnm
  refine j_sub (L' := [(0, .ref a0), (1, .int a1), (2, .ref a2)]) [0, 1, 2] rfl ?_
  refine j_aload_n C dL_fewestTies_0 rfl 2 rfl ?_
  refine j_iconst C dL_fewestTies_1 (v := (0 : Int32)) (by decide) ?_
  refine j_aload_n C dL_fewestTies_2 rfl 0 rfl ?_
  refine j_iload_n C dL_fewestTies_3 rfl 1 rfl ?_
  obtain ⟨ho1, h⟩ := ck_spec h
  rcases bndT_spec h with ⟨r2, M2, hq2, h⟩ | ⟨E2, M2, hq2, h⟩
  · refine j_run1 (c_V C (As := [.int a1]) (rest := [.int (0 : Int32), .ref a2]) (ctX8_fewestTies C.2.2.2.2.2.2.2.2.1 N Z hq2) kcRL_66 oyX8_fewestTies (ci := 8) (T := TX8) (N := 11) rfl (by decide) ho1 ⟨by decide, by decide⟩ ⟨by decide, by decide⟩ (Nat.le_of_ble_eq_true rfl) rfl dL_fewestTies_4) ?_
    refine j_i2l C dL_fewestTies_7 ?_
    obtain ⟨ho3, h⟩ := ck_spec h
    obtain ⟨ho4, h⟩ := ck_spec h
    refine j_last C ho3 ho4 dL_fewestTies_8 ?_
    refine j_goto C dL_fewestTies_9 (tgt := 15) (by decide) ?_
    refine j_iconst C dL_fewestTies_15 (v := (0 : Int32)) (by decide) ?_
    obtain ⟨rfl, rfl⟩ := so2 h
    exact j_iret C rfl (by decide) (by decide) dL_fewestTies_16
  · by_cases hc5 : E2 = "java/lang/IllegalArgumentException"
    · rw [if_pos hc5] at h
      subst hc5
      refine j_caught C (c_V C (As := [.int a1]) (rest := [.int (0 : Int32), .ref a2]) (ctX8_fewestTies C.2.2.2.2.2.2.2.2.1 N Z hq2) kcRL_66 oyX8_fewestTies (ci := 8) (T := TX8) (N := 11) rfl (by decide) ho1 ⟨by decide, by decide⟩ ⟨by decide, by decide⟩ (Nat.le_of_ble_eq_true rfl) rfl dL_fewestTies_4) [] tbL_fewestTiesr0 [] [] rfl (by decide +kernel) rfl (by decide) hlRL_13 hcast_IllegalArgumentException (i1 := 3) (by decide) (Or.inl ⟨3, rfl, rfl, dL_fewestTies_12⟩) ?_
      refine j_iconst C dL_fewestTies_13 (v := (1 : Int32)) (by decide) ?_
      obtain ⟨rfl, rfl⟩ := so2 h
      exact j_iret C rfl (by decide) (by decide) dL_fewestTies_14
    rw [if_neg hc5] at h
    cases h
-- ScaffoldPlannerLaw tieLevels
theorem kcRL_69 : okV RL 69 yX8_tieLevels (.code yX8_tieLevels cX8_tieLevels 2 (some .int)) = true := by decide +kernel
theorem oyX8_tieLevels : okY yX8_tieLevels 1 := ⟨by decide +kernel, by decide +kernel, by decide +kernel⟩
abbrev rmL_tieLevels : Room := { frames := 7, cells := 1, slots := 6, locals := 111 }
abbrev tbL_tieLevelsr0 : ExceptionTableEntry := { startPc := 0, endPc := 9, handlerPc := 12, catchType := 13 }
abbrev tbL_tieLevels : List ExceptionTableEntry := [tbL_tieLevelsr0]
theorem dL_tieLevels_0 : decode cL_tieLevels 0 = .ok (.aload_n 2, 1) := by decide +kernel
theorem dL_tieLevels_1 : decode cL_tieLevels 1 = .ok (.iconst 0, 1) := by decide +kernel
theorem dL_tieLevels_2 : decode cL_tieLevels 2 = .ok (.aload_n 0, 1) := by decide +kernel
theorem dL_tieLevels_3 : decode cL_tieLevels 3 = .ok (.iload_n 1, 1) := by decide +kernel
theorem dL_tieLevels_4 : decode cL_tieLevels 4 = .ok (.invokevirtual 69, 3) := by decide +kernel
theorem dL_tieLevels_7 : decode cL_tieLevels 7 = .ok (.i2l, 1) := by decide +kernel
theorem dL_tieLevels_8 : decode cL_tieLevels 8 = .ok (.lastore, 1) := by decide +kernel
theorem dL_tieLevels_9 : decode cL_tieLevels 9 = .ok (.goto 6, 3) := by decide +kernel
theorem dL_tieLevels_12 : decode cL_tieLevels 12 = .ok (.astore_n 3, 1) := by decide +kernel
theorem dL_tieLevels_13 : decode cL_tieLevels 13 = .ok (.iconst 1, 1) := by decide +kernel
theorem dL_tieLevels_14 : decode cL_tieLevels 14 = .ok (.ireturn, 1) := by decide +kernel
theorem dL_tieLevels_15 : decode cL_tieLevels 15 = .ok (.iconst 0, 1) := by decide +kernel
theorem dL_tieLevels_16 : decode cL_tieLevels 16 = .ok (.ireturn, 1) := by decide +kernel
def fL_tieLevels (N : Nat) (Z : mZ) (a0 : Nat) (a1 : Int32) (a2 : Nat) (M : mM) : Option (Int32 × mM) := ck (okO Z a0 8) (bndT (fX8_tieLevels N Z a0 a1 M) (fun r2 M2 => ck (okO Z a2 22) (ck (inB (0 : Int32) (Z.2.2.1 a2)) (some ((0 : Int32), (sL M2 a2 ((0 : Int32)).toNatClampNeg ((r2).toInt64)))))) (fun E2 M2 => if E2 = "java/lang/IllegalArgumentException" then some ((1 : Int32), M2) else none))
set_option maxHeartbeats 4000000 in
set_option maxRecDepth 100000 in
theorem ctL_tieLevels {G : mG} {l : Launch} (hl : l.stackTraces = false) (N : Nat) (Z : mZ) {a0 : Nat} {a1 : Int32} {a2 : Nat} {M : mM} {r : Int32} {M' : mM} (h : fL_tieLevels N Z a0 a1 a2 M = some (r, M')) : CT G l yL_tieLevels (.codeWith yL_tieLevels cL_tieLevels 4 (some .int) [(0, 9, 12, 13)]) rmL_tieLevels [.ref a0, .int a1, .ref a2] Z M (.inl (some (.int r))) Z M' := by
  unfold fL_tieLevels at h
  refine CT.ofH hl (by decide) (Nat.le_of_ble_eq_true rfl) (tb := tbL_tieLevels) rfl ?_
  intro p e s m args below meth c C hnm
  refine j_sub (L' := [(0, .ref a0), (1, .int a1), (2, .ref a2)]) [0, 1, 2] rfl ?_
  refine j_aload_n C dL_tieLevels_0 rfl 2 rfl ?_
  refine j_iconst C dL_tieLevels_1 (v := (0 : Int32)) (by decide) ?_
  refine j_aload_n C dL_tieLevels_2 rfl 0 rfl ?_
  refine j_iload_n C dL_tieLevels_3 rfl 1 rfl ?_
  obtain ⟨ho1, h⟩ := ck_spec h
  rcases bndT_spec h with ⟨r2, M2, hq2, h⟩ | ⟨E2, M2, hq2, h⟩
  · refine j_run1 (c_V C (As := [.int a1]) (rest := [.int (0 : Int32), .ref a2]) (ctX8_tieLevels C.2.2.2.2.2.2.2.2.1 N Z hq2) kcRL_69 oyX8_tieLevels (ci := 8) (T := TX8) (N := 11) rfl (by decide) ho1 ⟨by decide, by decide⟩ ⟨by decide, by decide⟩ (Nat.le_of_ble_eq_true rfl) rfl dL_tieLevels_4) ?_
    refine j_i2l C dL_tieLevels_7 ?_
    obtain ⟨ho3, h⟩ := ck_spec h
    obtain ⟨ho4, h⟩ := ck_spec h
    refine j_last C ho3 ho4 dL_tieLevels_8 ?_
    refine j_goto C dL_tieLevels_9 (tgt := 15) (by decide) ?_
    refine j_iconst C dL_tieLevels_15 (v := (0 : Int32)) (by decide) ?_
    obtain ⟨rfl, rfl⟩ := so2 h
    exact j_iret C rfl (by decide) (by decide) dL_tieLevels_16
  · by_cases hc5 : E2 = "java/lang/IllegalArgumentException"
    · rw [if_pos hc5] at h
      subst hc5
      refine j_caught C (c_V C (As := [.int a1]) (rest := [.int (0 : Int32), .ref a2]) (ctX8_tieLevels C.2.2.2.2.2.2.2.2.1 N Z hq2) kcRL_69 oyX8_tieLevels (ci := 8) (T := TX8) (N := 11) rfl (by decide) ho1 ⟨by decide, by decide⟩ ⟨by decide, by decide⟩ (Nat.le_of_ble_eq_true rfl) rfl dL_tieLevels_4) [] tbL_tieLevelsr0 [] [] rfl (by decide +kernel) rfl (by decide) hlRL_13 hcast_IllegalArgumentException (i1 := 3) (by decide) (Or.inl ⟨3, rfl, rfl, dL_tieLevels_12⟩) ?_
      refine j_iconst C dL_tieLevels_13 (v := (1 : Int32)) (by decide) ?_
      obtain ⟨rfl, rfl⟩ := so2 h
      exact j_iret C rfl (by decide) (by decide) dL_tieLevels_14
    rw [if_neg hc5] at h
    cases h
-- ScaffoldPlannerLaw missing
theorem kcRL_72 : okV RL 72 yX8_missing (.code yX8_missing cX8_missing 4 (some .int)) = true := by decide +kernel
theorem oyX8_missing : okY yX8_missing 2 := ⟨by decide +kernel, by decide +kernel, by decide +kernel⟩
abbrev rmL_missing : Room := { frames := 7, cells := 1, slots := 6, locals := 113 }
abbrev tbL_missingr0 : ExceptionTableEntry := { startPc := 0, endPc := 10, handlerPc := 13, catchType := 13 }
abbrev tbL_missing : List ExceptionTableEntry := [tbL_missingr0]
theorem dL_missing_0 : decode cL_missing 0 = .ok (.aload_n 3, 1) := by decide +kernel
theorem dL_missing_1 : decode cL_missing 1 = .ok (.iconst 0, 1) := by decide +kernel
theorem dL_missing_2 : decode cL_missing 2 = .ok (.aload_n 0, 1) := by decide +kernel
theorem dL_missing_3 : decode cL_missing 3 = .ok (.iload_n 1, 1) := by decide +kernel
theorem dL_missing_4 : decode cL_missing 4 = .ok (.iload_n 2, 1) := by decide +kernel
theorem dL_missing_5 : decode cL_missing 5 = .ok (.invokevirtual 72, 3) := by decide +kernel
theorem dL_missing_8 : decode cL_missing 8 = .ok (.i2l, 1) := by decide +kernel
theorem dL_missing_9 : decode cL_missing 9 = .ok (.lastore, 1) := by decide +kernel
theorem dL_missing_10 : decode cL_missing 10 = .ok (.goto 7, 3) := by decide +kernel
theorem dL_missing_13 : decode cL_missing 13 = .ok (.astore 4, 2) := by decide +kernel
theorem dL_missing_15 : decode cL_missing 15 = .ok (.iconst 1, 1) := by decide +kernel
theorem dL_missing_16 : decode cL_missing 16 = .ok (.ireturn, 1) := by decide +kernel
theorem dL_missing_17 : decode cL_missing 17 = .ok (.iconst 0, 1) := by decide +kernel
theorem dL_missing_18 : decode cL_missing 18 = .ok (.ireturn, 1) := by decide +kernel
def fL_missing (N : Nat) (Z : mZ) (a0 : Nat) (a1 : Int32) (a2 : Int32) (a3 : Nat) (M : mM) : Option (Int32 × mM) := ck (okO Z a0 8) (bndT (fX8_missing N Z a0 a1 a2 M) (fun r2 M2 => ck (okO Z a3 22) (ck (inB (0 : Int32) (Z.2.2.1 a3)) (some ((0 : Int32), (sL M2 a3 ((0 : Int32)).toNatClampNeg ((r2).toInt64)))))) (fun E2 M2 => if E2 = "java/lang/IllegalArgumentException" then some ((1 : Int32), M2) else none))
set_option maxHeartbeats 4000000 in
set_option maxRecDepth 100000 in
theorem ctL_missing {G : mG} {l : Launch} (hl : l.stackTraces = false) (N : Nat) (Z : mZ) {a0 : Nat} {a1 : Int32} {a2 : Int32} {a3 : Nat} {M : mM} {r : Int32} {M' : mM} (h : fL_missing N Z a0 a1 a2 a3 M = some (r, M')) : CT G l yL_missing (.codeWith yL_missing cL_missing 5 (some .int) [(0, 10, 13, 13)]) rmL_missing [.ref a0, .int a1, .int a2, .ref a3] Z M (.inl (some (.int r))) Z M' := by
  unfold fL_missing at h
  refine CT.ofH hl (by decide) (Nat.le_of_ble_eq_true rfl) (tb := tbL_missing) rfl ?_
  intro p e s m args below meth c C hnm
  refine j_sub (L' := [(0, .ref a0), (1, .int a1), (2, .int a2), (3, .ref a3)]) [0, 1, 2, 3] rfl ?_
  refine j_aload_n C dL_missing_0 rfl 3 rfl ?_
  refine j_iconst C dL_missing_1 (v := (0 : Int32)) (by decide) ?_
  refine j_aload_n C dL_missing_2 rfl 0 rfl ?_
  refine j_iload_n C dL_missing_3 rfl 1 rfl ?_
  refine j_iload_n C dL_missing_4 rfl 2 rfl ?_
  obtain ⟨ho1, h⟩ := ck_spec h
  rcases bndT_spec h with ⟨r2, M2, hq2, h⟩ | ⟨E2, M2, hq2, h⟩
  · refine j_run1 (c_V C (As := [.int a1, .int a2]) (rest := [.int (0 : Int32), .ref a3]) (ctX8_missing C.2.2.2.2.2.2.2.2.1 N Z hq2) kcRL_72 oyX8_missing (ci := 8) (T := TX8) (N := 11) rfl (by decide) ho1 ⟨by decide, by decide⟩ ⟨by decide, by decide⟩ (Nat.le_of_ble_eq_true rfl) rfl dL_missing_5) ?_
    refine j_i2l C dL_missing_8 ?_
    obtain ⟨ho3, h⟩ := ck_spec h
    obtain ⟨ho4, h⟩ := ck_spec h
    refine j_last C ho3 ho4 dL_missing_9 ?_
    refine j_goto C dL_missing_10 (tgt := 17) (by decide) ?_
    refine j_iconst C dL_missing_17 (v := (0 : Int32)) (by decide) ?_
    obtain ⟨rfl, rfl⟩ := so2 h
    exact j_iret C rfl (by decide) (by decide) dL_missing_18
  · by_cases hc5 : E2 = "java/lang/IllegalArgumentException"
    · rw [if_pos hc5] at h
      subst hc5
      refine j_caught C (c_V C (As := [.int a1, .int a2]) (rest := [.int (0 : Int32), .ref a3]) (ctX8_missing C.2.2.2.2.2.2.2.2.1 N Z hq2) kcRL_72 oyX8_missing (ci := 8) (T := TX8) (N := 11) rfl (by decide) ho1 ⟨by decide, by decide⟩ ⟨by decide, by decide⟩ (Nat.le_of_ble_eq_true rfl) rfl dL_missing_5) [] tbL_missingr0 [] [] rfl (by decide +kernel) rfl (by decide) hlRL_13 hcast_IllegalArgumentException (i1 := 4) (by decide) (Or.inr ⟨rfl, dL_missing_13⟩) ?_
      refine j_iconst C dL_missing_15 (v := (1 : Int32)) (by decide) ?_
      obtain ⟨rfl, rfl⟩ := so2 h
      exact j_iret C rfl (by decide) (by decide) dL_missing_16
    rw [if_neg hc5] at h
    cases h
-- ScaffoldPlannerLaw dismantling
theorem kcRL_75 : okV RL 75 yX8_dismantling (.code yX8_dismantling cX8_dismantling 1 (some .int)) = true := by decide +kernel
theorem oyX8_dismantling : okY yX8_dismantling 0 := ⟨by decide +kernel, by decide +kernel, by decide +kernel⟩
abbrev rmL_dismantling : Room := { frames := 8, cells := 1, slots := 6, locals := 185 }
abbrev tbL_dismantlingr0 : ExceptionTableEntry := { startPc := 0, endPc := 8, handlerPc := 11, catchType := 52 }
abbrev tbL_dismantling : List ExceptionTableEntry := [tbL_dismantlingr0]
theorem dL_dismantling_0 : decode cL_dismantling 0 = .ok (.aload_n 1, 1) := by decide +kernel
theorem dL_dismantling_1 : decode cL_dismantling 1 = .ok (.iconst 0, 1) := by decide +kernel
theorem dL_dismantling_2 : decode cL_dismantling 2 = .ok (.aload_n 0, 1) := by decide +kernel
theorem dL_dismantling_3 : decode cL_dismantling 3 = .ok (.invokevirtual 75, 3) := by decide +kernel
theorem dL_dismantling_6 : decode cL_dismantling 6 = .ok (.i2l, 1) := by decide +kernel
theorem dL_dismantling_7 : decode cL_dismantling 7 = .ok (.lastore, 1) := by decide +kernel
theorem dL_dismantling_8 : decode cL_dismantling 8 = .ok (.goto 6, 3) := by decide +kernel
theorem dL_dismantling_11 : decode cL_dismantling 11 = .ok (.astore_n 2, 1) := by decide +kernel
theorem dL_dismantling_12 : decode cL_dismantling 12 = .ok (.iconst 1, 1) := by decide +kernel
theorem dL_dismantling_13 : decode cL_dismantling 13 = .ok (.ireturn, 1) := by decide +kernel
theorem dL_dismantling_14 : decode cL_dismantling 14 = .ok (.iconst 0, 1) := by decide +kernel
theorem dL_dismantling_15 : decode cL_dismantling 15 = .ok (.ireturn, 1) := by decide +kernel
def fL_dismantling (N : Nat) (Z : mZ) (a0 : Nat) (a1 : Nat) (M : mM) : Option (Int32 × mM) := ck (okO Z a0 8) (bndT (fX8_dismantling N Z a0 M) (fun r2 M2 => ck (okO Z a1 22) (ck (inB (0 : Int32) (Z.2.2.1 a1)) (some ((0 : Int32), (sL M2 a1 ((0 : Int32)).toNatClampNeg ((r2).toInt64)))))) (fun E2 M2 => if E2 = "java/util/NoSuchElementException" then some ((1 : Int32), M2) else none))
set_option maxHeartbeats 4000000 in
set_option maxRecDepth 100000 in
theorem ctL_dismantling {G : mG} {l : Launch} (hl : l.stackTraces = false) (N : Nat) (Z : mZ) {a0 : Nat} {a1 : Nat} {M : mM} {r : Int32} {M' : mM} (h : fL_dismantling N Z a0 a1 M = some (r, M')) : CT G l yL_dismantling (.codeWith yL_dismantling cL_dismantling 3 (some .int) [(0, 8, 11, 52)]) rmL_dismantling [.ref a0, .ref a1] Z M (.inl (some (.int r))) Z M' := by
  unfold fL_dismantling at h
  refine CT.ofH hl (by decide) (Nat.le_of_ble_eq_true rfl) (tb := tbL_dismantling) rfl ?_
  intro p e s m args below meth c C hnm
  refine j_sub (L' := [(0, .ref a0), (1, .ref a1)]) [0, 1] rfl ?_
  refine j_aload_n C dL_dismantling_0 rfl 1 rfl ?_
  refine j_iconst C dL_dismantling_1 (v := (0 : Int32)) (by decide) ?_
  refine j_aload_n C dL_dismantling_2 rfl 0 rfl ?_
  obtain ⟨ho1, h⟩ := ck_spec h
  rcases bndT_spec h with ⟨r2, M2, hq2, h⟩ | ⟨E2, M2, hq2, h⟩
  · refine j_run1 (c_V C (As := []) (rest := [.int (0 : Int32), .ref a1]) (ctX8_dismantling C.2.2.2.2.2.2.2.2.1 N Z hq2) kcRL_75 oyX8_dismantling (ci := 8) (T := TX8) (N := 11) rfl (by decide) ho1 ⟨by decide, by decide⟩ ⟨by decide, by decide⟩ (Nat.le_of_ble_eq_true rfl) rfl dL_dismantling_3) ?_
    refine j_i2l C dL_dismantling_6 ?_
    obtain ⟨ho3, h⟩ := ck_spec h
    obtain ⟨ho4, h⟩ := ck_spec h
    refine j_last C ho3 ho4 dL_dismantling_7 ?_
    refine j_goto C dL_dismantling_8 (tgt := 14) (by decide) ?_
    refine j_iconst C dL_dismantling_14 (v := (0 : Int32)) (by decide) ?_
    obtain ⟨rfl, rfl⟩ := so2 h
    exact j_iret C rfl (by decide) (by decide) dL_dismantling_15
  · by_cases hc5 : E2 = "java/util/NoSuchElementException"
    · rw [if_pos hc5] at h
      subst hc5
      refine j_caught C (c_V C (As := []) (rest := [.int (0 : Int32), .ref a1]) (ctX8_dismantling C.2.2.2.2.2.2.2.2.1 N Z hq2) kcRL_75 oyX8_dismantling (ci := 8) (T := TX8) (N := 11) rfl (by decide) ho1 ⟨by decide, by decide⟩ ⟨by decide, by decide⟩ (Nat.le_of_ble_eq_true rfl) rfl dL_dismantling_3) [] tbL_dismantlingr0 [] [] rfl (by decide +kernel) rfl (by decide) hlRL_52 hcast_NoSuchElementException (i1 := 2) (by decide) (Or.inl ⟨2, rfl, rfl, dL_dismantling_11⟩) ?_
      refine j_iconst C dL_dismantling_12 (v := (1 : Int32)) (by decide) ?_
      obtain ⟨rfl, rfl⟩ := so2 h
      exact j_iret C rfl (by decide) (by decide) dL_dismantling_13
    rw [if_neg hc5] at h
    cases h
