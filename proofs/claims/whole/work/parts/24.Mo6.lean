theorem d_Mo_encode_0 : decode b_Mo_encode 0 = .ok (.iconst 0, 1) := by decide +kernel
theorem d_Mo_encode_1 : decode b_Mo_encode 1 = .ok (.istore 4, 2) := by decide +kernel
theorem d_Mo_encode_3 : decode b_Mo_encode 3 = .ok (.iconst 0, 1) := by decide +kernel
theorem d_Mo_encode_4 : decode b_Mo_encode 4 = .ok (.istore 5, 2) := by decide +kernel
theorem d_Mo_encode_6 : decode b_Mo_encode 6 = .ok (.iload 5, 2) := by decide +kernel
theorem d_Mo_encode_8 : decode b_Mo_encode 8 = .ok (.iload_n 2, 1) := by decide +kernel
theorem d_Mo_encode_9 : decode b_Mo_encode 9 = .ok (.if_icmp .ge 40, 3) := by decide +kernel
theorem d_Mo_encode_12 : decode b_Mo_encode 12 = .ok (.iload 4, 2) := by decide +kernel
theorem d_Mo_encode_14 : decode b_Mo_encode 14 = .ok (.aload_n 0, 1) := by decide +kernel
theorem d_Mo_encode_15 : decode b_Mo_encode 15 = .ok (.getfield 22, 3) := by decide +kernel
theorem d_Mo_encode_18 : decode b_Mo_encode 18 = .ok (.iload_n 1, 1) := by decide +kernel
theorem d_Mo_encode_19 : decode b_Mo_encode 19 = .ok (.iaload, 1) := by decide +kernel
theorem d_Mo_encode_20 : decode b_Mo_encode 20 = .ok (.if_icmp .ge 29, 3) := by decide +kernel
theorem d_Mo_encode_23 : decode b_Mo_encode 23 = .ok (.iload 4, 2) := by decide +kernel
theorem d_Mo_encode_25 : decode b_Mo_encode 25 = .ok (.aload_n 0, 1) := by decide +kernel
theorem d_Mo_encode_26 : decode b_Mo_encode 26 = .ok (.iload_n 1, 1) := by decide +kernel
theorem d_Mo_encode_27 : decode b_Mo_encode 27 = .ok (.iload 4, 2) := by decide +kernel
theorem d_Mo_encode_29 : decode b_Mo_encode 29 = .ok (.invokevirtual 117, 3) := by decide +kernel
theorem d_Mo_encode_32 : decode b_Mo_encode 32 = .ok (.ifCond .eq 7, 3) := by decide +kernel
theorem d_Mo_encode_35 : decode b_Mo_encode 35 = .ok (.iconst 2, 1) := by decide +kernel
theorem d_Mo_encode_36 : decode b_Mo_encode 36 = .ok (.goto 4, 3) := by decide +kernel
theorem d_Mo_encode_39 : decode b_Mo_encode 39 = .ok (.iconst 1, 1) := by decide +kernel
theorem d_Mo_encode_40 : decode b_Mo_encode 40 = .ok (.iadd, 1) := by decide +kernel
theorem d_Mo_encode_41 : decode b_Mo_encode 41 = .ok (.istore 4, 2) := by decide +kernel
theorem d_Mo_encode_43 : decode b_Mo_encode 43 = .ok (.iinc 5 1, 3) := by decide +kernel
theorem d_Mo_encode_46 : decode b_Mo_encode 46 = .ok (.goto (-40), 3) := by decide +kernel
theorem d_Mo_encode_49 : decode b_Mo_encode 49 = .ok (.iconst 0, 1) := by decide +kernel
theorem d_Mo_encode_50 : decode b_Mo_encode 50 = .ok (.istore 5, 2) := by decide +kernel
theorem d_Mo_encode_52 : decode b_Mo_encode 52 = .ok (.iload 5, 2) := by decide +kernel
theorem d_Mo_encode_54 : decode b_Mo_encode 54 = .ok (.iload 4, 2) := by decide +kernel
theorem d_Mo_encode_56 : decode b_Mo_encode 56 = .ok (.if_icmp .ge 224, 3) := by decide +kernel
theorem d_Mo_encode_59 : decode b_Mo_encode 59 = .ok (.aload_n 0, 1) := by decide +kernel
theorem d_Mo_encode_60 : decode b_Mo_encode 60 = .ok (.getfield 25, 3) := by decide +kernel
theorem d_Mo_encode_63 : decode b_Mo_encode 63 = .ok (.bipush 8, 2) := by decide +kernel
theorem d_Mo_encode_65 : decode b_Mo_encode 65 = .ok (.iload_n 1, 1) := by decide +kernel
theorem d_Mo_encode_66 : decode b_Mo_encode 66 = .ok (.imul, 1) := by decide +kernel
theorem d_Mo_encode_67 : decode b_Mo_encode 67 = .ok (.iload 5, 2) := by decide +kernel
theorem d_Mo_encode_69 : decode b_Mo_encode 69 = .ok (.iadd, 1) := by decide +kernel
theorem d_Mo_encode_70 : decode b_Mo_encode 70 = .ok (.iaload, 1) := by decide +kernel
theorem d_Mo_encode_71 : decode b_Mo_encode 71 = .ok (.istore 6, 2) := by decide +kernel
theorem d_Mo_encode_73 : decode b_Mo_encode 73 = .ok (.iload 6, 2) := by decide +kernel
theorem d_Mo_encode_75 : decode b_Mo_encode 75 = .ok (.bipush 37, 2) := by decide +kernel
theorem d_Mo_encode_77 : decode b_Mo_encode 77 = .ok (.if_icmp .ne 56, 3) := by decide +kernel
theorem d_Mo_encode_80 : decode b_Mo_encode 80 = .ok (.iload 5, 2) := by decide +kernel
theorem d_Mo_encode_82 : decode b_Mo_encode 82 = .ok (.iconst 2, 1) := by decide +kernel
theorem d_Mo_encode_83 : decode b_Mo_encode 83 = .ok (.iadd, 1) := by decide +kernel
theorem d_Mo_encode_84 : decode b_Mo_encode 84 = .ok (.iload 4, 2) := by decide +kernel
theorem d_Mo_encode_86 : decode b_Mo_encode 86 = .ok (.if_icmp .ge 47, 3) := by decide +kernel
theorem d_Mo_encode_89 : decode b_Mo_encode 89 = .ok (.aload_n 0, 1) := by decide +kernel
theorem d_Mo_encode_90 : decode b_Mo_encode 90 = .ok (.getfield 25, 3) := by decide +kernel
theorem d_Mo_encode_93 : decode b_Mo_encode 93 = .ok (.bipush 8, 2) := by decide +kernel
theorem d_Mo_encode_95 : decode b_Mo_encode 95 = .ok (.iload_n 1, 1) := by decide +kernel
theorem d_Mo_encode_96 : decode b_Mo_encode 96 = .ok (.imul, 1) := by decide +kernel
theorem d_Mo_encode_97 : decode b_Mo_encode 97 = .ok (.iload 5, 2) := by decide +kernel
theorem d_Mo_encode_99 : decode b_Mo_encode 99 = .ok (.iadd, 1) := by decide +kernel
theorem d_Mo_encode_100 : decode b_Mo_encode 100 = .ok (.iconst 1, 1) := by decide +kernel
theorem d_Mo_encode_101 : decode b_Mo_encode 101 = .ok (.iadd, 1) := by decide +kernel
theorem d_Mo_encode_102 : decode b_Mo_encode 102 = .ok (.iaload, 1) := by decide +kernel
theorem d_Mo_encode_103 : decode b_Mo_encode 103 = .ok (.invokestatic 155, 3) := by decide +kernel
theorem d_Mo_encode_106 : decode b_Mo_encode 106 = .ok (.ifCond .eq 27, 3) := by decide +kernel
theorem d_Mo_encode_109 : decode b_Mo_encode 109 = .ok (.aload_n 0, 1) := by decide +kernel
theorem d_Mo_encode_110 : decode b_Mo_encode 110 = .ok (.getfield 25, 3) := by decide +kernel
theorem d_Mo_encode_113 : decode b_Mo_encode 113 = .ok (.bipush 8, 2) := by decide +kernel
theorem d_Mo_encode_115 : decode b_Mo_encode 115 = .ok (.iload_n 1, 1) := by decide +kernel
theorem d_Mo_encode_116 : decode b_Mo_encode 116 = .ok (.imul, 1) := by decide +kernel
theorem d_Mo_encode_117 : decode b_Mo_encode 117 = .ok (.iload 5, 2) := by decide +kernel
theorem d_Mo_encode_119 : decode b_Mo_encode 119 = .ok (.iadd, 1) := by decide +kernel
theorem d_Mo_encode_120 : decode b_Mo_encode 120 = .ok (.iconst 2, 1) := by decide +kernel
theorem d_Mo_encode_121 : decode b_Mo_encode 121 = .ok (.iadd, 1) := by decide +kernel
theorem d_Mo_encode_122 : decode b_Mo_encode 122 = .ok (.iaload, 1) := by decide +kernel
theorem d_Mo_encode_123 : decode b_Mo_encode 123 = .ok (.invokestatic 155, 3) := by decide +kernel
theorem d_Mo_encode_126 : decode b_Mo_encode 126 = .ok (.ifCond .eq 7, 3) := by decide +kernel
theorem d_Mo_encode_129 : decode b_Mo_encode 129 = .ok (.iconst 1, 1) := by decide +kernel
theorem d_Mo_encode_130 : decode b_Mo_encode 130 = .ok (.goto 4, 3) := by decide +kernel
theorem d_Mo_encode_133 : decode b_Mo_encode 133 = .ok (.iconst 0, 1) := by decide +kernel
theorem d_Mo_encode_134 : decode b_Mo_encode 134 = .ok (.istore 7, 2) := by decide +kernel
theorem d_Mo_encode_136 : decode b_Mo_encode 136 = .ok (.aload_n 0, 1) := by decide +kernel
theorem d_Mo_encode_137 : decode b_Mo_encode 137 = .ok (.iload_n 1, 1) := by decide +kernel
theorem d_Mo_encode_138 : decode b_Mo_encode 138 = .ok (.iload 5, 2) := by decide +kernel
theorem d_Mo_encode_140 : decode b_Mo_encode 140 = .ok (.invokevirtual 117, 3) := by decide +kernel
theorem d_Mo_encode_143 : decode b_Mo_encode 143 = .ok (.ifCond .eq 53, 3) := by decide +kernel
theorem d_Mo_encode_146 : decode b_Mo_encode 146 = .ok (.aload_n 0, 1) := by decide +kernel
theorem d_Mo_encode_147 : decode b_Mo_encode 147 = .ok (.ldc 153, 2) := by decide +kernel
theorem d_Mo_encode_149 : decode b_Mo_encode 149 = .ok (.sipush 1024, 3) := by decide +kernel
theorem d_Mo_encode_152 : decode b_Mo_encode 152 = .ok (.iload 6, 2) := by decide +kernel
theorem d_Mo_encode_154 : decode b_Mo_encode 154 = .ok (.ldc 107, 2) := by decide +kernel
theorem d_Mo_encode_156 : decode b_Mo_encode 156 = .ok (.isub, 1) := by decide +kernel
theorem d_Mo_encode_157 : decode b_Mo_encode 157 = .ok (.imul, 1) := by decide +kernel
theorem d_Mo_encode_158 : decode b_Mo_encode 158 = .ok (.iadd, 1) := by decide +kernel
theorem d_Mo_encode_159 : decode b_Mo_encode 159 = .ok (.aload_n 0, 1) := by decide +kernel
theorem d_Mo_encode_160 : decode b_Mo_encode 160 = .ok (.getfield 25, 3) := by decide +kernel
theorem d_Mo_encode_163 : decode b_Mo_encode 163 = .ok (.bipush 8, 2) := by decide +kernel
theorem d_Mo_encode_165 : decode b_Mo_encode 165 = .ok (.iload_n 1, 1) := by decide +kernel
theorem d_Mo_encode_166 : decode b_Mo_encode 166 = .ok (.imul, 1) := by decide +kernel
theorem d_Mo_encode_167 : decode b_Mo_encode 167 = .ok (.iload 5, 2) := by decide +kernel
theorem d_Mo_encode_169 : decode b_Mo_encode 169 = .ok (.iadd, 1) := by decide +kernel
theorem d_Mo_encode_170 : decode b_Mo_encode 170 = .ok (.iconst 1, 1) := by decide +kernel
theorem d_Mo_encode_171 : decode b_Mo_encode 171 = .ok (.iadd, 1) := by decide +kernel
theorem d_Mo_encode_172 : decode b_Mo_encode 172 = .ok (.iaload, 1) := by decide +kernel
theorem d_Mo_encode_173 : decode b_Mo_encode 173 = .ok (.iadd, 1) := by decide +kernel
theorem d_Mo_encode_174 : decode b_Mo_encode 174 = .ok (.ldc 109, 2) := by decide +kernel
theorem d_Mo_encode_176 : decode b_Mo_encode 176 = .ok (.isub, 1) := by decide +kernel
theorem d_Mo_encode_177 : decode b_Mo_encode 177 = .ok (.iload_n 3, 1) := by decide +kernel
theorem d_Mo_encode_178 : decode b_Mo_encode 178 = .ok (.iconst 3, 1) := by decide +kernel
theorem d_Mo_encode_179 : decode b_Mo_encode 179 = .ok (.if_icmp .ne 7, 3) := by decide +kernel
theorem d_Mo_encode_182 : decode b_Mo_encode 182 = .ok (.iconst 1, 1) := by decide +kernel
theorem d_Mo_encode_183 : decode b_Mo_encode 183 = .ok (.goto 4, 3) := by decide +kernel
theorem d_Mo_encode_186 : decode b_Mo_encode 186 = .ok (.iconst 0, 1) := by decide +kernel
theorem d_Mo_encode_187 : decode b_Mo_encode 187 = .ok (.invokevirtual 158, 3) := by decide +kernel
theorem d_Mo_encode_190 : decode b_Mo_encode 190 = .ok (.iinc 5 1, 3) := by decide +kernel
theorem d_Mo_encode_193 : decode b_Mo_encode 193 = .ok (.goto 81, 3) := by decide +kernel
theorem d_Mo_encode_196 : decode b_Mo_encode 196 = .ok (.iload_n 3, 1) := by decide +kernel
theorem d_Mo_encode_197 : decode b_Mo_encode 197 = .ok (.iconst 3, 1) := by decide +kernel
theorem d_Mo_encode_198 : decode b_Mo_encode 198 = .ok (.if_icmp .ne 13, 3) := by decide +kernel
theorem d_Mo_encode_201 : decode b_Mo_encode 201 = .ok (.aload_n 0, 1) := by decide +kernel
theorem d_Mo_encode_202 : decode b_Mo_encode 202 = .ok (.iload 6, 2) := by decide +kernel
theorem d_Mo_encode_204 : decode b_Mo_encode 204 = .ok (.iconst 1, 1) := by decide +kernel
theorem d_Mo_encode_205 : decode b_Mo_encode 205 = .ok (.invokevirtual 158, 3) := by decide +kernel
theorem d_Mo_encode_208 : decode b_Mo_encode 208 = .ok (.goto 66, 3) := by decide +kernel
theorem d_Mo_encode_211 : decode b_Mo_encode 211 = .ok (.iload 6, 2) := by decide +kernel
theorem d_Mo_encode_213 : decode b_Mo_encode 213 = .ok (.invokestatic 79, 3) := by decide +kernel
theorem d_Mo_encode_216 : decode b_Mo_encode 216 = .ok (.ifCond .ne 21, 3) := by decide +kernel
theorem d_Mo_encode_219 : decode b_Mo_encode 219 = .ok (.iload_n 3, 1) := by decide +kernel
theorem d_Mo_encode_220 : decode b_Mo_encode 220 = .ok (.iconst 1, 1) := by decide +kernel
theorem d_Mo_encode_221 : decode b_Mo_encode 221 = .ok (.if_icmp .ne 25, 3) := by decide +kernel
theorem d_Mo_encode_224 : decode b_Mo_encode 224 = .ok (.iload 6, 2) := by decide +kernel
theorem d_Mo_encode_226 : decode b_Mo_encode 226 = .ok (.invokestatic 161, 3) := by decide +kernel
theorem d_Mo_encode_229 : decode b_Mo_encode 229 = .ok (.ifCond .ne 8, 3) := by decide +kernel
theorem d_Mo_encode_232 : decode b_Mo_encode 232 = .ok (.iload 7, 2) := by decide +kernel
theorem d_Mo_encode_234 : decode b_Mo_encode 234 = .ok (.ifCond .eq 12, 3) := by decide +kernel
theorem d_Mo_encode_237 : decode b_Mo_encode 237 = .ok (.aload_n 0, 1) := by decide +kernel
theorem d_Mo_encode_238 : decode b_Mo_encode 238 = .ok (.iload 6, 2) := by decide +kernel
theorem d_Mo_encode_240 : decode b_Mo_encode 240 = .ok (.invokevirtual 142, 3) := by decide +kernel
theorem d_Mo_encode_243 : decode b_Mo_encode 243 = .ok (.goto 31, 3) := by decide +kernel
theorem d_Mo_encode_246 : decode b_Mo_encode 246 = .ok (.iload_n 3, 1) := by decide +kernel
theorem d_Mo_encode_247 : decode b_Mo_encode 247 = .ok (.iconst 2, 1) := by decide +kernel
theorem d_Mo_encode_248 : decode b_Mo_encode 248 = .ok (.if_icmp .ne 19, 3) := by decide +kernel
theorem d_Mo_encode_251 : decode b_Mo_encode 251 = .ok (.iload 6, 2) := by decide +kernel
theorem d_Mo_encode_253 : decode b_Mo_encode 253 = .ok (.bipush 32, 2) := by decide +kernel
theorem d_Mo_encode_255 : decode b_Mo_encode 255 = .ok (.if_icmp .ne 12, 3) := by decide +kernel
theorem d_Mo_encode_258 : decode b_Mo_encode 258 = .ok (.aload_n 0, 1) := by decide +kernel
theorem d_Mo_encode_259 : decode b_Mo_encode 259 = .ok (.bipush 43, 2) := by decide +kernel
theorem d_Mo_encode_261 : decode b_Mo_encode 261 = .ok (.invokevirtual 142, 3) := by decide +kernel
theorem d_Mo_encode_264 : decode b_Mo_encode 264 = .ok (.goto 10, 3) := by decide +kernel
theorem d_Mo_encode_267 : decode b_Mo_encode 267 = .ok (.aload_n 0, 1) := by decide +kernel
theorem d_Mo_encode_268 : decode b_Mo_encode 268 = .ok (.iload 6, 2) := by decide +kernel
theorem d_Mo_encode_270 : decode b_Mo_encode 270 = .ok (.iconst 0, 1) := by decide +kernel
theorem d_Mo_encode_271 : decode b_Mo_encode 271 = .ok (.invokevirtual 158, 3) := by decide +kernel
theorem d_Mo_encode_274 : decode b_Mo_encode 274 = .ok (.iinc 5 1, 3) := by decide +kernel
theorem d_Mo_encode_277 : decode b_Mo_encode 277 = .ok (.goto (-225), 3) := by decide +kernel
theorem d_Mo_encode_280 : decode b_Mo_encode 280 = .ok (.return_, 1) := by decide +kernel
def f_Mo_encode_274 (K52 : Int32 → Int32 → Int32 → Int32 → zSt → Option zSt) (a1 : Int32) (a3 : Int32) (a4 : Int32) (a5 : Int32) (S : zSt) : Option zSt := (K52 a1 a3 a4 (a5 + 1) S)
def f_Mo_encode_237 (K52 : Int32 → Int32 → Int32 → Int32 → zSt → Option zSt) (a1 : Int32) (a3 : Int32) (a4 : Int32) (a5 : Int32) (a6 : Int32) (S : zSt) : Option zSt := ((f_Mo_put a6 S).bind fun u3 => (f_Mo_encode_274 K52 a1 a3 a4 a5 u3))
def f_Mo_encode_267 (K52 : Int32 → Int32 → Int32 → Int32 → zSt → Option zSt) (a1 : Int32) (a3 : Int32) (a4 : Int32) (a5 : Int32) (a6 : Int32) (S : zSt) : Option zSt := ((f_Mo_utf a6 0 S).bind fun u4 => (f_Mo_encode_274 K52 a1 a3 a4 a5 u4))
def f_Mo_encode_246 (K52 : Int32 → Int32 → Int32 → Int32 → zSt → Option zSt) (a1 : Int32) (a3 : Int32) (a4 : Int32) (a5 : Int32) (a6 : Int32) (S : zSt) : Option zSt := (if a3 = 2 then (if a6 = 32 then ((f_Mo_put 43 S).bind fun u5 => (f_Mo_encode_274 K52 a1 a3 a4 a5 u5)) else (f_Mo_encode_267 K52 a1 a3 a4 a5 a6 S)) else (f_Mo_encode_267 K52 a1 a3 a4 a5 a6 S))
def f_Mo_encode_187 (K52 : Int32 → Int32 → Int32 → Int32 → zSt → Option zSt) (a1 : Int32) (a3 : Int32) (a4 : Int32) (a5 : Int32) (t0 : Int32) (t1 : Int32) (S : zSt) : Option zSt := ((f_Mo_utf t1 t0 S).bind fun u8 => (f_Mo_encode_274 K52 a1 a3 a4 (a5 + 1) u8))
def f_Mo_encode_134 (K52 : Int32 → Int32 → Int32 → Int32 → zSt → Option zSt) (a1 : Int32) (a3 : Int32) (a4 : Int32) (a5 : Int32) (a6 : Int32) (t0 : Int32) (S : zSt) : Option zSt := ((f_Mo_pair a1 a5 S).bind fun u1 => (if u1 = 0 then (if a3 = 3 then ((f_Mo_utf a6 1 S).bind fun u7 => (f_Mo_encode_274 K52 a1 a3 a4 a5 u7)) else ((f_Mo_plain a6 S).bind fun u2 => (if u2 = 0 then (if a3 = 1 then ((f_Mo_loose a6 S).bind fun u6 => (if u6 = 0 then (if t0 = 0 then (f_Mo_encode_246 K52 a1 a3 a4 a5 a6 S) else (f_Mo_encode_237 K52 a1 a3 a4 a5 a6 S)) else (f_Mo_encode_237 K52 a1 a3 a4 a5 a6 S))) else (f_Mo_encode_246 K52 a1 a3 a4 a5 a6 S)) else (f_Mo_encode_237 K52 a1 a3 a4 a5 a6 S)))) else gdi (((8 * a1) + a5) + 1) 144 ((if a3 = 3 then (f_Mo_encode_187 K52 a1 a3 a4 a5 1 (((65536 + (1024 * (a6 - 55296))) + (S 72 (((8 * a1) + a5) + 1).toNatClampNeg)) - 56320) S) else (f_Mo_encode_187 K52 a1 a3 a4 a5 0 (((65536 + (1024 * (a6 - 55296))) + (S 72 (((8 * a1) + a5) + 1).toNatClampNeg)) - 56320) S)))))
def f_Mo_encode_133 (K52 : Int32 → Int32 → Int32 → Int32 → zSt → Option zSt) (a1 : Int32) (a3 : Int32) (a4 : Int32) (a5 : Int32) (a6 : Int32) (S : zSt) : Option zSt := (f_Mo_encode_134 K52 a1 a3 a4 a5 a6 0 S)
def f_Mo_encode_52 : Nat → Int32 → Int32 → Int32 → Int32 → zSt → Option zSt
  | 0, _, _, _, _, _ => none
  | n + 1, a1, a3, a4, a5, S => (if a4 ≤ a5 then (some S) else gdi ((8 * a1) + a5) 144 ((if (S 72 ((8 * a1) + a5).toNatClampNeg) = 37 then (if a4 ≤ (a5 + 2) then (f_Mo_encode_133 (f_Mo_encode_52 n) a1 a3 a4 a5 (S 72 ((8 * a1) + a5).toNatClampNeg) S) else gdi (((8 * a1) + a5) + 1) 144 (((f_Mo_hex (S 72 (((8 * a1) + a5) + 1).toNatClampNeg) S).bind fun u9 => (if u9 = 0 then (f_Mo_encode_133 (f_Mo_encode_52 n) a1 a3 a4 a5 (S 72 ((8 * a1) + a5).toNatClampNeg) S) else gdi (((8 * a1) + a5) + 2) 144 (((f_Mo_hex (S 72 (((8 * a1) + a5) + 2).toNatClampNeg) S).bind fun u10 => (if u10 = 0 then (f_Mo_encode_133 (f_Mo_encode_52 n) a1 a3 a4 a5 (S 72 ((8 * a1) + a5).toNatClampNeg) S) else (f_Mo_encode_134 (f_Mo_encode_52 n) a1 a3 a4 a5 (S 72 ((8 * a1) + a5).toNatClampNeg) 1 S)))))))) else (f_Mo_encode_133 (f_Mo_encode_52 n) a1 a3 a4 a5 (S 72 ((8 * a1) + a5).toNatClampNeg) S))))
def f_Mo_encode_49 (a1 : Int32) (a3 : Int32) (a4 : Int32) (S : zSt) : Option zSt := (f_Mo_encode_52 fu a1 a3 a4 0 S)
def f_Mo_encode_40 (K6 : Int32 → Int32 → Int32 → Int32 → Int32 → zSt → Option zSt) (a1 : Int32) (a2 : Int32) (a3 : Int32) (a5 : Int32) (t0 : Int32) (t1 : Int32) (S : zSt) : Option zSt := (K6 a1 a2 a3 (t1 + t0) (a5 + 1) S)
def f_Mo_encode_6 : Nat → Int32 → Int32 → Int32 → Int32 → Int32 → zSt → Option zSt
  | 0, _, _, _, _, _, _ => none
  | n + 1, a1, a2, a3, a4, a5, S => (if a2 ≤ a5 then (f_Mo_encode_49 a1 a3 a4 S) else gdi a1 18 ((if (S 71 a1.toNatClampNeg) ≤ a4 then (f_Mo_encode_49 a1 a3 a4 S) else ((f_Mo_pair a1 a4 S).bind fun u11 => (if u11 = 0 then (f_Mo_encode_40 (f_Mo_encode_6 n) a1 a2 a3 a5 1 a4 S) else (f_Mo_encode_40 (f_Mo_encode_6 n) a1 a2 a3 a5 2 a4 S))))))
def f_Mo_encode (a1 : Int32) (a2 : Int32) (a3 : Int32) (S : zSt) : Option zSt := (f_Mo_encode_6 fu a1 a2 a3 0 0 S)
set_option maxHeartbeats 4000000 in
set_option maxRecDepth 100000 in
theorem c_Mo_encode (l : Launch) (g : zG) (hD : GD g) (a1 : Int32) (a2 : Int32) (a3 : Int32) (S : zSt) (u : zSt) (h : f_Mo_encode a1 a2 a3 S = some u) : Met l y_Mo_encode (mw y_Mo_encode b_Mo_encode 8 none) (rmD 4) (Pw g [.ref (ga g 66), .int a1, .int a2, .int a3] S) (Qvs g u) 0 0 (gA g) := by
  refine z_go (own := R_Mo) (lv0 := [(0, .ref (ga g 66)), (1, .int a1), (2, .int a2), (3, .int a3)]) hD (by decide) rfl (Nat.le_of_ble_eq_true rfl) rfl ?_
  intro p e s m args below meth c C D ls hl
  have hx := C.1
  have hb := C.2.1
  have hown := C.2.2.2.1
  have hts := C.2.2.2.2.1
  have B274 : ∀ (K52 : Int32 → Int32 → Int32 → Int32 → zSt → Option zSt) (hK52 : ∀ (H : Heap) (locs : List Loc) (S : zSt) (ls : Array Slot) (a1 : Int32) (a3 : Int32) (a4 : Int32) (a5 : Int32), K52 a1 a3 a4 a5 S = some u → Dy g s S H locs → lv_has ls 8 [(0, .ref (ga g 66)), (1, .int a1), (3, .int a3), (4, .int a4), (5, .int a5)] → W p l e (rmD 4) s m args below meth c H locs 0 0 (MQ below (Qvs g u) args s 0 0 (gA g)) (F0 m 52 ls [])) (H : Heap) (locs : List Loc) (S : zSt) (ls : Array Slot) (a1 : Int32) (a3 : Int32) (a4 : Int32) (a5 : Int32), f_Mo_encode_274 K52 a1 a3 a4 a5 S = some u → Dy g s S H locs → lv_has ls 8 [(0, .ref (ga g 66)), (1, .int a1), (3, .int a3), (4, .int a4), (5, .int a5)] → W p l e (rmD 4) s m args below meth c H locs 0 0 (MQ below (Qvs g u) args s 0 0 (gA g)) (F0 m 274 ls []) := by
    intro K52 hK52 H locs S ls a1 a3 a4 a5 h D hl
    unfold f_Mo_encode_274 at h
    refine lv_iinc (k := 4) (lv' := [(5, .int (a5 + 1)), (0, .ref (ga g 66)), (1, .int a1), (3, .int a3), (4, .int a4)]) hx hb d_Mo_encode_274 hl rfl (ii1 _) (by decide) rfl (fun ls hl => ?_)
    refine lv_goto hx hb d_Mo_encode_277 rfl ?_
    exact hK52 _ _ _ _ _ _ _ _ h D (lv_sub hl [1, 2, 3, 4, 0] rfl)
  have B237 : ∀ (K52 : Int32 → Int32 → Int32 → Int32 → zSt → Option zSt) (hK52 : ∀ (H : Heap) (locs : List Loc) (S : zSt) (ls : Array Slot) (a1 : Int32) (a3 : Int32) (a4 : Int32) (a5 : Int32), K52 a1 a3 a4 a5 S = some u → Dy g s S H locs → lv_has ls 8 [(0, .ref (ga g 66)), (1, .int a1), (3, .int a3), (4, .int a4), (5, .int a5)] → W p l e (rmD 4) s m args below meth c H locs 0 0 (MQ below (Qvs g u) args s 0 0 (gA g)) (F0 m 52 ls [])) (H : Heap) (locs : List Loc) (S : zSt) (ls : Array Slot) (a1 : Int32) (a3 : Int32) (a4 : Int32) (a5 : Int32) (a6 : Int32), f_Mo_encode_237 K52 a1 a3 a4 a5 a6 S = some u → Dy g s S H locs → lv_has ls 8 [(0, .ref (ga g 66)), (1, .int a1), (3, .int a3), (4, .int a4), (5, .int a5), (6, .int a6)] → W p l e (rmD 4) s m args below meth c H locs 0 0 (MQ below (Qvs g u) args s 0 0 (gA g)) (F0 m 237 ls []) := by
    intro K52 hK52 H locs S ls a1 a3 a4 a5 a6 h D hl
    unfold f_Mo_encode_237 at h
    refine lv_aload_n hx hb d_Mo_encode_237 rfl (lv_at hl 0 rfl) ?_
    refine lv_iload hx hb d_Mo_encode_238 (lv_at hl 5 rfl) ?_
    obtain ⟨u3, hu3, h⟩ := bd_some h
    refine x_cvs (rest := []) (r_V C D (c_Mo_put l g hD a6 S u3 hu3) wc_Mo_put wm_Mo_142 wi_Mo_put wd_Mo_put (by decide) sh_66 kc_Mo.1 rfl rfl hl (Nat.le_of_ble_eq_true rfl) (by decide) d_Mo_encode_240) D (fun H locs D => ?_)
    refine lv_goto hx hb d_Mo_encode_243 rfl ?_
    exact B274 _ hK52 _ _ _ _ _ _ _ _ h D (lv_sub hl [0, 1, 2, 3, 4] rfl)
  have B267 : ∀ (K52 : Int32 → Int32 → Int32 → Int32 → zSt → Option zSt) (hK52 : ∀ (H : Heap) (locs : List Loc) (S : zSt) (ls : Array Slot) (a1 : Int32) (a3 : Int32) (a4 : Int32) (a5 : Int32), K52 a1 a3 a4 a5 S = some u → Dy g s S H locs → lv_has ls 8 [(0, .ref (ga g 66)), (1, .int a1), (3, .int a3), (4, .int a4), (5, .int a5)] → W p l e (rmD 4) s m args below meth c H locs 0 0 (MQ below (Qvs g u) args s 0 0 (gA g)) (F0 m 52 ls [])) (H : Heap) (locs : List Loc) (S : zSt) (ls : Array Slot) (a1 : Int32) (a3 : Int32) (a4 : Int32) (a5 : Int32) (a6 : Int32), f_Mo_encode_267 K52 a1 a3 a4 a5 a6 S = some u → Dy g s S H locs → lv_has ls 8 [(0, .ref (ga g 66)), (1, .int a1), (3, .int a3), (4, .int a4), (5, .int a5), (6, .int a6)] → W p l e (rmD 4) s m args below meth c H locs 0 0 (MQ below (Qvs g u) args s 0 0 (gA g)) (F0 m 267 ls []) := by
    intro K52 hK52 H locs S ls a1 a3 a4 a5 a6 h D hl
    unfold f_Mo_encode_267 at h
    refine lv_aload_n hx hb d_Mo_encode_267 rfl (lv_at hl 0 rfl) ?_
    refine lv_iload hx hb d_Mo_encode_268 (lv_at hl 5 rfl) ?_
    refine lv_iconst (v := 0) hx hb d_Mo_encode_270 (by decide) ?_
    obtain ⟨u4, hu4, h⟩ := bd_some h
    refine x_cvs (rest := []) (r_V C D (c_Mo_utf l g hD a6 0 S u4 hu4) wc_Mo_utf wm_Mo_158 wi_Mo_utf wd_Mo_utf (by decide) sh_66 kc_Mo.1 rfl rfl hl (Nat.le_of_ble_eq_true rfl) (by decide) d_Mo_encode_271) D (fun H locs D => ?_)
    exact B274 _ hK52 _ _ _ _ _ _ _ _ h D (lv_sub hl [0, 1, 2, 3, 4] rfl)
  have B246 : ∀ (K52 : Int32 → Int32 → Int32 → Int32 → zSt → Option zSt) (hK52 : ∀ (H : Heap) (locs : List Loc) (S : zSt) (ls : Array Slot) (a1 : Int32) (a3 : Int32) (a4 : Int32) (a5 : Int32), K52 a1 a3 a4 a5 S = some u → Dy g s S H locs → lv_has ls 8 [(0, .ref (ga g 66)), (1, .int a1), (3, .int a3), (4, .int a4), (5, .int a5)] → W p l e (rmD 4) s m args below meth c H locs 0 0 (MQ below (Qvs g u) args s 0 0 (gA g)) (F0 m 52 ls [])) (H : Heap) (locs : List Loc) (S : zSt) (ls : Array Slot) (a1 : Int32) (a3 : Int32) (a4 : Int32) (a5 : Int32) (a6 : Int32), f_Mo_encode_246 K52 a1 a3 a4 a5 a6 S = some u → Dy g s S H locs → lv_has ls 8 [(0, .ref (ga g 66)), (1, .int a1), (3, .int a3), (4, .int a4), (5, .int a5), (6, .int a6)] → W p l e (rmD 4) s m args below meth c H locs 0 0 (MQ below (Qvs g u) args s 0 0 (gA g)) (F0 m 246 ls []) := by
    intro K52 hK52 H locs S ls a1 a3 a4 a5 a6 h D hl
    unfold f_Mo_encode_246 at h
    refine lv_iload_n hx hb d_Mo_encode_246 rfl (lv_at hl 2 rfl) ?_
    refine lv_iconst (v := 2) hx hb d_Mo_encode_247 (by decide) ?_
    refine lv_icmp_ne hx hb d_Mo_encode_248 rfl (fun z => ?_) (fun z => ?_)
    · replace h := if_f z h
      exact B267 _ hK52 _ _ _ _ _ _ _ _ _ h D (lv_sub hl [0, 1, 2, 3, 4, 5] rfl)
    · replace h := if_t z h
      refine lv_iload hx hb d_Mo_encode_251 (lv_at hl 5 rfl) ?_
      refine lv_bipush (v := 32) hx hb d_Mo_encode_253 (by decide) ?_
      refine lv_icmp_ne hx hb d_Mo_encode_255 rfl (fun z => ?_) (fun z => ?_)
      · replace h := if_f z h
        exact B267 _ hK52 _ _ _ _ _ _ _ _ _ h D (lv_sub hl [0, 1, 2, 3, 4, 5] rfl)
      · replace h := if_t z h
        refine lv_aload_n hx hb d_Mo_encode_258 rfl (lv_at hl 0 rfl) ?_
        refine lv_bipush (v := 43) hx hb d_Mo_encode_259 (by decide) ?_
        obtain ⟨u5, hu5, h⟩ := bd_some h
        refine x_cvs (rest := []) (r_V C D (c_Mo_put l g hD 43 S u5 hu5) wc_Mo_put wm_Mo_142 wi_Mo_put wd_Mo_put (by decide) sh_66 kc_Mo.1 rfl rfl hl (Nat.le_of_ble_eq_true rfl) (by decide) d_Mo_encode_261) D (fun H locs D => ?_)
        refine lv_goto hx hb d_Mo_encode_264 rfl ?_
        exact B274 _ hK52 _ _ _ _ _ _ _ _ h D (lv_sub hl [0, 1, 2, 3, 4] rfl)
  have B187 : ∀ (K52 : Int32 → Int32 → Int32 → Int32 → zSt → Option zSt) (hK52 : ∀ (H : Heap) (locs : List Loc) (S : zSt) (ls : Array Slot) (a1 : Int32) (a3 : Int32) (a4 : Int32) (a5 : Int32), K52 a1 a3 a4 a5 S = some u → Dy g s S H locs → lv_has ls 8 [(0, .ref (ga g 66)), (1, .int a1), (3, .int a3), (4, .int a4), (5, .int a5)] → W p l e (rmD 4) s m args below meth c H locs 0 0 (MQ below (Qvs g u) args s 0 0 (gA g)) (F0 m 52 ls [])) (H : Heap) (locs : List Loc) (S : zSt) (ls : Array Slot) (a1 : Int32) (a3 : Int32) (a4 : Int32) (a5 : Int32) (t0 : Int32) (t1 : Int32), f_Mo_encode_187 K52 a1 a3 a4 a5 t0 t1 S = some u → Dy g s S H locs → lv_has ls 8 [(0, .ref (ga g 66)), (1, .int a1), (3, .int a3), (4, .int a4), (5, .int a5)] → W p l e (rmD 4) s m args below meth c H locs 0 0 (MQ below (Qvs g u) args s 0 0 (gA g)) (F0 m 187 ls [.int t0, .int t1, .ref (ga g 66)]) := by
    intro K52 hK52 H locs S ls a1 a3 a4 a5 t0 t1 h D hl
    unfold f_Mo_encode_187 at h
    obtain ⟨u8, hu8, h⟩ := bd_some h
    refine x_cvs (rest := []) (r_V C D (c_Mo_utf l g hD t1 t0 S u8 hu8) wc_Mo_utf wm_Mo_158 wi_Mo_utf wd_Mo_utf (by decide) sh_66 kc_Mo.1 rfl rfl hl (Nat.le_of_ble_eq_true rfl) (by decide) d_Mo_encode_187) D (fun H locs D => ?_)
    refine lv_iinc (k := 4) (lv' := [(5, .int (a5 + 1)), (0, .ref (ga g 66)), (1, .int a1), (3, .int a3), (4, .int a4)]) hx hb d_Mo_encode_190 hl rfl (ii1 _) (by decide) rfl (fun ls hl => ?_)
    refine lv_goto hx hb d_Mo_encode_193 rfl ?_
    exact B274 _ hK52 _ _ _ _ _ _ _ _ h D (lv_sub hl [1, 2, 3, 4, 0] rfl)
  have B134 : ∀ (K52 : Int32 → Int32 → Int32 → Int32 → zSt → Option zSt) (hK52 : ∀ (H : Heap) (locs : List Loc) (S : zSt) (ls : Array Slot) (a1 : Int32) (a3 : Int32) (a4 : Int32) (a5 : Int32), K52 a1 a3 a4 a5 S = some u → Dy g s S H locs → lv_has ls 8 [(0, .ref (ga g 66)), (1, .int a1), (3, .int a3), (4, .int a4), (5, .int a5)] → W p l e (rmD 4) s m args below meth c H locs 0 0 (MQ below (Qvs g u) args s 0 0 (gA g)) (F0 m 52 ls [])) (H : Heap) (locs : List Loc) (S : zSt) (ls : Array Slot) (a1 : Int32) (a3 : Int32) (a4 : Int32) (a5 : Int32) (a6 : Int32) (t0 : Int32), f_Mo_encode_134 K52 a1 a3 a4 a5 a6 t0 S = some u → Dy g s S H locs → lv_has ls 8 [(0, .ref (ga g 66)), (1, .int a1), (3, .int a3), (4, .int a4), (5, .int a5), (6, .int a6)] → W p l e (rmD 4) s m args below meth c H locs 0 0 (MQ below (Qvs g u) args s 0 0 (gA g)) (F0 m 134 ls [.int t0]) := by
    intro K52 hK52 H locs S ls a1 a3 a4 a5 a6 t0 h D hl
    unfold f_Mo_encode_134 at h
    refine lv_istore (lv' := [(7, .int t0), (0, .ref (ga g 66)), (1, .int a1), (3, .int a3), (4, .int a4), (5, .int a5), (6, .int a6)]) hx hb d_Mo_encode_134 hl (by decide) rfl (fun ls hl => ?_)
    refine lv_aload_n hx hb d_Mo_encode_136 rfl (lv_at hl 1 rfl) ?_
    refine lv_iload_n hx hb d_Mo_encode_137 rfl (lv_at hl 2 rfl) ?_
    refine lv_iload hx hb d_Mo_encode_138 (lv_at hl 5 rfl) ?_
    obtain ⟨u1, hu1, h⟩ := bd_some h
    refine x_cip (rest := []) (r_V C D (c_Mo_pair l g hD a1 a5 S u1 hu1) wc_Mo_pair wm_Mo_117 wi_Mo_pair wd_Mo_pair (by decide) sh_66 kc_Mo.1 rfl rfl hl (Nat.le_of_ble_eq_true rfl) (by decide) d_Mo_encode_140) D (fun H locs D => ?_)
    refine lv_if_eq hx hb d_Mo_encode_143 rfl (fun z => ?_) (fun z => ?_)
    · replace h := if_t z h
      refine lv_iload_n hx hb d_Mo_encode_196 rfl (lv_at hl 3 rfl) ?_
      refine lv_iconst (v := 3) hx hb d_Mo_encode_197 (by decide) ?_
      refine lv_icmp_ne hx hb d_Mo_encode_198 rfl (fun z => ?_) (fun z => ?_)
      · replace h := if_f z h
        refine lv_iload hx hb d_Mo_encode_211 (lv_at hl 6 rfl) ?_
        obtain ⟨u2, hu2, h⟩ := bd_some h
        refine x_cip (rest := []) (r_S C D (c_Mo_plain l g hD a6 S u2 hu2) wc_Mo_plain wm_Mo_79 wt_Mo_plain wd_Mo_plain rfl rfl hl (Nat.le_of_ble_eq_true rfl) (by decide) d_Mo_encode_213) D (fun H locs D => ?_)
        refine lv_if_ne hx hb d_Mo_encode_216 rfl (fun z => ?_) (fun z => ?_)
        · replace h := if_f z h
          exact B237 _ hK52 _ _ _ _ _ _ _ _ _ h D (lv_sub hl [1, 2, 3, 4, 5, 6] rfl)
        · replace h := if_t z h
          refine lv_iload_n hx hb d_Mo_encode_219 rfl (lv_at hl 3 rfl) ?_
          refine lv_iconst (v := 1) hx hb d_Mo_encode_220 (by decide) ?_
          refine lv_icmp_ne hx hb d_Mo_encode_221 rfl (fun z => ?_) (fun z => ?_)
          · replace h := if_f z h
            exact B246 _ hK52 _ _ _ _ _ _ _ _ _ h D (lv_sub hl [1, 2, 3, 4, 5, 6] rfl)
          · replace h := if_t z h
            refine lv_iload hx hb d_Mo_encode_224 (lv_at hl 6 rfl) ?_
            obtain ⟨u6, hu6, h⟩ := bd_some h
            refine x_cip (rest := []) (r_S C D (c_Mo_loose l g hD a6 S u6 hu6) wc_Mo_loose wm_Mo_161 wt_Mo_loose wd_Mo_loose rfl rfl hl (Nat.le_of_ble_eq_true rfl) (by decide) d_Mo_encode_226) D (fun H locs D => ?_)
            refine lv_if_ne hx hb d_Mo_encode_229 rfl (fun z => ?_) (fun z => ?_)
            · replace h := if_f z h
              exact B237 _ hK52 _ _ _ _ _ _ _ _ _ h D (lv_sub hl [1, 2, 3, 4, 5, 6] rfl)
            · replace h := if_t z h
              refine lv_iload hx hb d_Mo_encode_232 (lv_at hl 0 rfl) ?_
              refine lv_if_eq hx hb d_Mo_encode_234 rfl (fun z => ?_) (fun z => ?_)
              · replace h := if_t z h
                exact B246 _ hK52 _ _ _ _ _ _ _ _ _ h D (lv_sub hl [1, 2, 3, 4, 5, 6] rfl)
              · replace h := if_f z h
                exact B237 _ hK52 _ _ _ _ _ _ _ _ _ h D (lv_sub hl [1, 2, 3, 4, 5, 6] rfl)
      · replace h := if_t z h
        refine lv_aload_n hx hb d_Mo_encode_201 rfl (lv_at hl 1 rfl) ?_
        refine lv_iload hx hb d_Mo_encode_202 (lv_at hl 6 rfl) ?_
        refine lv_iconst (v := 1) hx hb d_Mo_encode_204 (by decide) ?_
        obtain ⟨u7, hu7, h⟩ := bd_some h
        refine x_cvs (rest := []) (r_V C D (c_Mo_utf l g hD a6 1 S u7 hu7) wc_Mo_utf wm_Mo_158 wi_Mo_utf wd_Mo_utf (by decide) sh_66 kc_Mo.1 rfl rfl hl (Nat.le_of_ble_eq_true rfl) (by decide) d_Mo_encode_205) D (fun H locs D => ?_)
        refine lv_goto hx hb d_Mo_encode_208 rfl ?_
        exact B274 _ hK52 _ _ _ _ _ _ _ _ h D (lv_sub hl [1, 2, 3, 4, 5] rfl)
    · replace h := if_f z h
      refine lv_aload_n hx hb d_Mo_encode_146 rfl (lv_at hl 1 rfl) ?_
      refine lv_ldc (v := 65536) hx hb hown (hts _ wk_Mo_153) d_Mo_encode_147 ?_
      refine lv_sipush (v := 1024) hx hb d_Mo_encode_149 (by decide) ?_
      refine lv_iload hx hb d_Mo_encode_152 (lv_at hl 6 rfl) ?_
      refine lv_ldc (v := 55296) hx hb hown (hts _ wk_Mo_107) d_Mo_encode_154 ?_
      refine lv_isub hx hb d_Mo_encode_156 ?_
      refine lv_imul hx hb d_Mo_encode_157 ?_
      refine lv_iadd hx hb d_Mo_encode_158 ?_
      refine lv_aload_n hx hb d_Mo_encode_159 rfl (lv_at hl 1 rfl) ?_
      refine x_get (v := .ref (ga g 72)) C D kc_Mo (by decide) sh_66 8 rfl (by decide) wf_Mo_25 rfl rfl d_Mo_encode_160 ?_
      refine lv_bipush (v := 8) hx hb d_Mo_encode_163 (by decide) ?_
      refine lv_iload_n hx hb d_Mo_encode_165 rfl (lv_at hl 2 rfl) ?_
      refine lv_imul hx hb d_Mo_encode_166 ?_
      refine lv_iload hx hb d_Mo_encode_167 (lv_at hl 5 rfl) ?_
      refine lv_iadd hx hb d_Mo_encode_169 ?_
      refine lv_iconst (v := 1) hx hb d_Mo_encode_170 (by decide) ?_
      refine lv_iadd hx hb d_Mo_encode_171 ?_
      refine x_iald C D (by decide) sh_72 d_Mo_encode_172 h (fun _ h => ?_)
      refine lv_iadd hx hb d_Mo_encode_173 ?_
      refine lv_ldc (v := 56320) hx hb hown (hts _ wk_Mo_109) d_Mo_encode_174 ?_
      refine lv_isub hx hb d_Mo_encode_176 ?_
      refine lv_iload_n hx hb d_Mo_encode_177 rfl (lv_at hl 3 rfl) ?_
      refine lv_iconst (v := 3) hx hb d_Mo_encode_178 (by decide) ?_
      refine lv_icmp_ne hx hb d_Mo_encode_179 rfl (fun z => ?_) (fun z => ?_)
      · replace h := if_f z h
        refine lv_iconst (v := 0) hx hb d_Mo_encode_186 (by decide) ?_
        exact B187 _ hK52 _ _ _ _ _ _ _ _ _ _ h D (lv_sub hl [1, 2, 3, 4, 5] rfl)
      · replace h := if_t z h
        refine lv_iconst (v := 1) hx hb d_Mo_encode_182 (by decide) ?_
        refine lv_goto hx hb d_Mo_encode_183 rfl ?_
        exact B187 _ hK52 _ _ _ _ _ _ _ _ _ _ h D (lv_sub hl [1, 2, 3, 4, 5] rfl)
  have B133 : ∀ (K52 : Int32 → Int32 → Int32 → Int32 → zSt → Option zSt) (hK52 : ∀ (H : Heap) (locs : List Loc) (S : zSt) (ls : Array Slot) (a1 : Int32) (a3 : Int32) (a4 : Int32) (a5 : Int32), K52 a1 a3 a4 a5 S = some u → Dy g s S H locs → lv_has ls 8 [(0, .ref (ga g 66)), (1, .int a1), (3, .int a3), (4, .int a4), (5, .int a5)] → W p l e (rmD 4) s m args below meth c H locs 0 0 (MQ below (Qvs g u) args s 0 0 (gA g)) (F0 m 52 ls [])) (H : Heap) (locs : List Loc) (S : zSt) (ls : Array Slot) (a1 : Int32) (a3 : Int32) (a4 : Int32) (a5 : Int32) (a6 : Int32), f_Mo_encode_133 K52 a1 a3 a4 a5 a6 S = some u → Dy g s S H locs → lv_has ls 8 [(0, .ref (ga g 66)), (1, .int a1), (3, .int a3), (4, .int a4), (5, .int a5), (6, .int a6)] → W p l e (rmD 4) s m args below meth c H locs 0 0 (MQ below (Qvs g u) args s 0 0 (gA g)) (F0 m 133 ls []) := by
    intro K52 hK52 H locs S ls a1 a3 a4 a5 a6 h D hl
    unfold f_Mo_encode_133 at h
    refine lv_iconst (v := 0) hx hb d_Mo_encode_133 (by decide) ?_
    exact B134 _ hK52 _ _ _ _ _ _ _ _ _ _ h D (lv_sub hl [0, 1, 2, 3, 4, 5] rfl)
  have L52 : ∀ (n : Nat) (H : Heap) (locs : List Loc) (S : zSt) (ls : Array Slot) (a1 : Int32) (a3 : Int32) (a4 : Int32) (a5 : Int32), f_Mo_encode_52 n a1 a3 a4 a5 S = some u → Dy g s S H locs → lv_has ls 8 [(0, .ref (ga g 66)), (1, .int a1), (3, .int a3), (4, .int a4), (5, .int a5)] → W p l e (rmD 4) s m args below meth c H locs 0 0 (MQ below (Qvs g u) args s 0 0 (gA g)) (F0 m 52 ls []) := by
    intro n
    induction n with
    | zero => intro H locs S ls a1 a3 a4 a5 h D hl; rw [f_Mo_encode_52] at h; cases h
    | succ n hK52 =>
      intro H locs S ls a1 a3 a4 a5 h D hl
      rw [f_Mo_encode_52] at h
      refine lv_iload hx hb d_Mo_encode_52 (lv_at hl 4 rfl) ?_
      refine lv_iload hx hb d_Mo_encode_54 (lv_at hl 3 rfl) ?_
      refine lv_icmp_ge hx hb d_Mo_encode_56 rfl (fun z => ?_) (fun z => ?_)
      · replace h := if_t z h
        exact x_vrs C D h d_Mo_encode_280
      · replace h := if_f z h
        refine lv_aload_n hx hb d_Mo_encode_59 rfl (lv_at hl 0 rfl) ?_
        refine x_get (v := .ref (ga g 72)) C D kc_Mo (by decide) sh_66 8 rfl (by decide) wf_Mo_25 rfl rfl d_Mo_encode_60 ?_
        refine lv_bipush (v := 8) hx hb d_Mo_encode_63 (by decide) ?_
        refine lv_iload_n hx hb d_Mo_encode_65 rfl (lv_at hl 1 rfl) ?_
        refine lv_imul hx hb d_Mo_encode_66 ?_
        refine lv_iload hx hb d_Mo_encode_67 (lv_at hl 4 rfl) ?_
        refine lv_iadd hx hb d_Mo_encode_69 ?_
        refine x_iald C D (by decide) sh_72 d_Mo_encode_70 h (fun _ h => ?_)
        refine lv_istore (lv' := [(6, .int (S 72 ((8 * a1) + a5).toNatClampNeg)), (0, .ref (ga g 66)), (1, .int a1), (3, .int a3), (4, .int a4), (5, .int a5)]) hx hb d_Mo_encode_71 hl (by decide) rfl (fun ls hl => ?_)
        refine lv_iload hx hb d_Mo_encode_73 (lv_at hl 0 rfl) ?_
        refine lv_bipush (v := 37) hx hb d_Mo_encode_75 (by decide) ?_
        refine lv_icmp_ne hx hb d_Mo_encode_77 rfl (fun z => ?_) (fun z => ?_)
        · replace h := if_f z h
          exact B133 _ hK52 _ _ _ _ _ _ _ _ _ h D (lv_sub hl [1, 2, 3, 4, 5, 0] rfl)
        · replace h := if_t z h
          refine lv_iload hx hb d_Mo_encode_80 (lv_at hl 5 rfl) ?_
          refine lv_iconst (v := 2) hx hb d_Mo_encode_82 (by decide) ?_
          refine lv_iadd hx hb d_Mo_encode_83 ?_
          refine lv_iload hx hb d_Mo_encode_84 (lv_at hl 4 rfl) ?_
          refine lv_icmp_ge hx hb d_Mo_encode_86 rfl (fun z => ?_) (fun z => ?_)
          · replace h := if_t z h
            exact B133 _ hK52 _ _ _ _ _ _ _ _ _ h D (lv_sub hl [1, 2, 3, 4, 5, 0] rfl)
          · replace h := if_f z h
            refine lv_aload_n hx hb d_Mo_encode_89 rfl (lv_at hl 1 rfl) ?_
            refine x_get (v := .ref (ga g 72)) C D kc_Mo (by decide) sh_66 8 rfl (by decide) wf_Mo_25 rfl rfl d_Mo_encode_90 ?_
            refine lv_bipush (v := 8) hx hb d_Mo_encode_93 (by decide) ?_
            refine lv_iload_n hx hb d_Mo_encode_95 rfl (lv_at hl 2 rfl) ?_
            refine lv_imul hx hb d_Mo_encode_96 ?_
            refine lv_iload hx hb d_Mo_encode_97 (lv_at hl 5 rfl) ?_
            refine lv_iadd hx hb d_Mo_encode_99 ?_
            refine lv_iconst (v := 1) hx hb d_Mo_encode_100 (by decide) ?_
            refine lv_iadd hx hb d_Mo_encode_101 ?_
            refine x_iald C D (by decide) sh_72 d_Mo_encode_102 h (fun _ h => ?_)
            obtain ⟨u9, hu9, h⟩ := bd_some h
            refine x_cip (rest := []) (r_S C D (c_Mo_hex l g hD (S 72 (((8 * a1) + a5) + 1).toNatClampNeg) S u9 hu9) wc_Mo_hex wm_Mo_155 wt_Mo_hex wd_Mo_hex rfl rfl hl (Nat.le_of_ble_eq_true rfl) (by decide) d_Mo_encode_103) D (fun H locs D => ?_)
            refine lv_if_eq hx hb d_Mo_encode_106 rfl (fun z => ?_) (fun z => ?_)
            · replace h := if_t z h
              exact B133 _ hK52 _ _ _ _ _ _ _ _ _ h D (lv_sub hl [1, 2, 3, 4, 5, 0] rfl)
            · replace h := if_f z h
              refine lv_aload_n hx hb d_Mo_encode_109 rfl (lv_at hl 1 rfl) ?_
              refine x_get (v := .ref (ga g 72)) C D kc_Mo (by decide) sh_66 8 rfl (by decide) wf_Mo_25 rfl rfl d_Mo_encode_110 ?_
              refine lv_bipush (v := 8) hx hb d_Mo_encode_113 (by decide) ?_
              refine lv_iload_n hx hb d_Mo_encode_115 rfl (lv_at hl 2 rfl) ?_
              refine lv_imul hx hb d_Mo_encode_116 ?_
              refine lv_iload hx hb d_Mo_encode_117 (lv_at hl 5 rfl) ?_
              refine lv_iadd hx hb d_Mo_encode_119 ?_
              refine lv_iconst (v := 2) hx hb d_Mo_encode_120 (by decide) ?_
              refine lv_iadd hx hb d_Mo_encode_121 ?_
              refine x_iald C D (by decide) sh_72 d_Mo_encode_122 h (fun _ h => ?_)
              obtain ⟨u10, hu10, h⟩ := bd_some h
              refine x_cip (rest := []) (r_S C D (c_Mo_hex l g hD (S 72 (((8 * a1) + a5) + 2).toNatClampNeg) S u10 hu10) wc_Mo_hex wm_Mo_155 wt_Mo_hex wd_Mo_hex rfl rfl hl (Nat.le_of_ble_eq_true rfl) (by decide) d_Mo_encode_123) D (fun H locs D => ?_)
              refine lv_if_eq hx hb d_Mo_encode_126 rfl (fun z => ?_) (fun z => ?_)
              · replace h := if_t z h
                exact B133 _ hK52 _ _ _ _ _ _ _ _ _ h D (lv_sub hl [1, 2, 3, 4, 5, 0] rfl)
              · replace h := if_f z h
                refine lv_iconst (v := 1) hx hb d_Mo_encode_129 (by decide) ?_
                refine lv_goto hx hb d_Mo_encode_130 rfl ?_
                exact B134 _ hK52 _ _ _ _ _ _ _ _ _ _ h D (lv_sub hl [1, 2, 3, 4, 5, 0] rfl)
  have B49 : ∀ (H : Heap) (locs : List Loc) (S : zSt) (ls : Array Slot) (a1 : Int32) (a3 : Int32) (a4 : Int32), f_Mo_encode_49 a1 a3 a4 S = some u → Dy g s S H locs → lv_has ls 8 [(0, .ref (ga g 66)), (1, .int a1), (3, .int a3), (4, .int a4)] → W p l e (rmD 4) s m args below meth c H locs 0 0 (MQ below (Qvs g u) args s 0 0 (gA g)) (F0 m 49 ls []) := by
    intro H locs S ls a1 a3 a4 h D hl
    unfold f_Mo_encode_49 at h
    refine lv_iconst (v := 0) hx hb d_Mo_encode_49 (by decide) ?_
    refine lv_istore (lv' := [(5, .int 0), (0, .ref (ga g 66)), (1, .int a1), (3, .int a3), (4, .int a4)]) hx hb d_Mo_encode_50 hl (by decide) rfl (fun ls hl => ?_)
    exact L52 _ _ _ _ _ _ _ _ _ h D (lv_sub hl [1, 2, 3, 4, 0] rfl)
  have B40 : ∀ (K6 : Int32 → Int32 → Int32 → Int32 → Int32 → zSt → Option zSt) (hK6 : ∀ (H : Heap) (locs : List Loc) (S : zSt) (ls : Array Slot) (a1 : Int32) (a2 : Int32) (a3 : Int32) (a4 : Int32) (a5 : Int32), K6 a1 a2 a3 a4 a5 S = some u → Dy g s S H locs → lv_has ls 8 [(0, .ref (ga g 66)), (1, .int a1), (2, .int a2), (3, .int a3), (4, .int a4), (5, .int a5)] → W p l e (rmD 4) s m args below meth c H locs 0 0 (MQ below (Qvs g u) args s 0 0 (gA g)) (F0 m 6 ls [])) (H : Heap) (locs : List Loc) (S : zSt) (ls : Array Slot) (a1 : Int32) (a2 : Int32) (a3 : Int32) (a5 : Int32) (t0 : Int32) (t1 : Int32), f_Mo_encode_40 K6 a1 a2 a3 a5 t0 t1 S = some u → Dy g s S H locs → lv_has ls 8 [(0, .ref (ga g 66)), (1, .int a1), (2, .int a2), (3, .int a3), (5, .int a5)] → W p l e (rmD 4) s m args below meth c H locs 0 0 (MQ below (Qvs g u) args s 0 0 (gA g)) (F0 m 40 ls [.int t0, .int t1]) := by
    intro K6 hK6 H locs S ls a1 a2 a3 a5 t0 t1 h D hl
    unfold f_Mo_encode_40 at h
    refine lv_iadd hx hb d_Mo_encode_40 ?_
    refine lv_istore (lv' := [(4, .int (t1 + t0)), (0, .ref (ga g 66)), (1, .int a1), (2, .int a2), (3, .int a3), (5, .int a5)]) hx hb d_Mo_encode_41 hl (by decide) rfl (fun ls hl => ?_)
    refine lv_iinc (k := 5) (lv' := [(5, .int (a5 + 1)), (4, .int (t1 + t0)), (0, .ref (ga g 66)), (1, .int a1), (2, .int a2), (3, .int a3)]) hx hb d_Mo_encode_43 hl rfl (ii1 _) (by decide) rfl (fun ls hl => ?_)
    refine lv_goto hx hb d_Mo_encode_46 rfl ?_
    exact hK6 _ _ _ _ _ _ _ _ _ h D (lv_sub hl [2, 3, 4, 5, 1, 0] rfl)
  have L6 : ∀ (n : Nat) (H : Heap) (locs : List Loc) (S : zSt) (ls : Array Slot) (a1 : Int32) (a2 : Int32) (a3 : Int32) (a4 : Int32) (a5 : Int32), f_Mo_encode_6 n a1 a2 a3 a4 a5 S = some u → Dy g s S H locs → lv_has ls 8 [(0, .ref (ga g 66)), (1, .int a1), (2, .int a2), (3, .int a3), (4, .int a4), (5, .int a5)] → W p l e (rmD 4) s m args below meth c H locs 0 0 (MQ below (Qvs g u) args s 0 0 (gA g)) (F0 m 6 ls []) := by
    intro n
    induction n with
    | zero => intro H locs S ls a1 a2 a3 a4 a5 h D hl; rw [f_Mo_encode_6] at h; cases h
    | succ n hK6 =>
      intro H locs S ls a1 a2 a3 a4 a5 h D hl
      rw [f_Mo_encode_6] at h
      refine lv_iload hx hb d_Mo_encode_6 (lv_at hl 5 rfl) ?_
      refine lv_iload_n hx hb d_Mo_encode_8 rfl (lv_at hl 2 rfl) ?_
      refine lv_icmp_ge hx hb d_Mo_encode_9 rfl (fun z => ?_) (fun z => ?_)
      · replace h := if_t z h
        exact B49 _ _ _ _ _ _ _ h D (lv_sub hl [0, 1, 3, 4] rfl)
      · replace h := if_f z h
        refine lv_iload hx hb d_Mo_encode_12 (lv_at hl 4 rfl) ?_
        refine lv_aload_n hx hb d_Mo_encode_14 rfl (lv_at hl 0 rfl) ?_
        refine x_get (v := .ref (ga g 71)) C D kc_Mo (by decide) sh_66 7 rfl (by decide) wf_Mo_22 rfl rfl d_Mo_encode_15 ?_
        refine lv_iload_n hx hb d_Mo_encode_18 rfl (lv_at hl 1 rfl) ?_
        refine x_iald C D (by decide) sh_71 d_Mo_encode_19 h (fun _ h => ?_)
        refine lv_icmp_ge hx hb d_Mo_encode_20 rfl (fun z => ?_) (fun z => ?_)
        · replace h := if_t z h
          exact B49 _ _ _ _ _ _ _ h D (lv_sub hl [0, 1, 3, 4] rfl)
        · replace h := if_f z h
          refine lv_iload hx hb d_Mo_encode_23 (lv_at hl 4 rfl) ?_
          refine lv_aload_n hx hb d_Mo_encode_25 rfl (lv_at hl 0 rfl) ?_
          refine lv_iload_n hx hb d_Mo_encode_26 rfl (lv_at hl 1 rfl) ?_
          refine lv_iload hx hb d_Mo_encode_27 (lv_at hl 4 rfl) ?_
          obtain ⟨u11, hu11, h⟩ := bd_some h
          refine x_cip (rest := [.int a4]) (r_V C D (c_Mo_pair l g hD a1 a4 S u11 hu11) wc_Mo_pair wm_Mo_117 wi_Mo_pair wd_Mo_pair (by decide) sh_66 kc_Mo.1 rfl rfl hl (Nat.le_of_ble_eq_true rfl) (by decide) d_Mo_encode_29) D (fun H locs D => ?_)
          refine lv_if_eq hx hb d_Mo_encode_32 rfl (fun z => ?_) (fun z => ?_)
          · replace h := if_t z h
            refine lv_iconst (v := 1) hx hb d_Mo_encode_39 (by decide) ?_
            exact B40 _ hK6 _ _ _ _ _ _ _ _ _ _ h D (lv_sub hl [0, 1, 2, 3, 5] rfl)
          · replace h := if_f z h
            refine lv_iconst (v := 2) hx hb d_Mo_encode_35 (by decide) ?_
            refine lv_goto hx hb d_Mo_encode_36 rfl ?_
            exact B40 _ hK6 _ _ _ _ _ _ _ _ _ _ h D (lv_sub hl [0, 1, 2, 3, 5] rfl)
  unfold f_Mo_encode at h
  refine lv_iconst (v := 0) hx hb d_Mo_encode_0 (by decide) ?_
  refine lv_istore (lv' := [(4, .int 0), (0, .ref (ga g 66)), (1, .int a1), (2, .int a2), (3, .int a3)]) hx hb d_Mo_encode_1 hl (by decide) rfl (fun ls hl => ?_)
  refine lv_iconst (v := 0) hx hb d_Mo_encode_3 (by decide) ?_
  refine lv_istore (lv' := [(5, .int 0), (4, .int 0), (0, .ref (ga g 66)), (1, .int a1), (2, .int a2), (3, .int a3)]) hx hb d_Mo_encode_4 hl (by decide) rfl (fun ls hl => ?_)
  exact L6 _ _ _ _ _ _ _ _ _ _ h D (lv_sub hl [2, 3, 4, 5, 1, 0] rfl)
theorem d_Mo_head_0 : decode b_Mo_head 0 = .ok (.aload_n 0, 1) := by decide +kernel
theorem d_Mo_head_1 : decode b_Mo_head 1 = .ok (.iconst 0, 1) := by decide +kernel
theorem d_Mo_head_2 : decode b_Mo_head 2 = .ok (.putfield 276, 3) := by decide +kernel
theorem d_Mo_head_5 : decode b_Mo_head 5 = .ok (.aload_n 0, 1) := by decide +kernel
theorem d_Mo_head_6 : decode b_Mo_head 6 = .ok (.iconst (-1), 1) := by decide +kernel
theorem d_Mo_head_7 : decode b_Mo_head 7 = .ok (.putfield 264, 3) := by decide +kernel
theorem d_Mo_head_10 : decode b_Mo_head 10 = .ok (.aload_n 0, 1) := by decide +kernel
theorem d_Mo_head_11 : decode b_Mo_head 11 = .ok (.iconst 0, 1) := by decide +kernel
theorem d_Mo_head_12 : decode b_Mo_head 12 = .ok (.putfield 261, 3) := by decide +kernel
theorem d_Mo_head_15 : decode b_Mo_head 15 = .ok (.aload_n 0, 1) := by decide +kernel
theorem d_Mo_head_16 : decode b_Mo_head 16 = .ok (.invokevirtual 269, 3) := by decide +kernel
theorem d_Mo_head_19 : decode b_Mo_head 19 = .ok (.istore_n 1, 1) := by decide +kernel
theorem d_Mo_head_20 : decode b_Mo_head 20 = .ok (.iload_n 1, 1) := by decide +kernel
theorem d_Mo_head_21 : decode b_Mo_head 21 = .ok (.iconst 1, 1) := by decide +kernel
theorem d_Mo_head_22 : decode b_Mo_head 22 = .ok (.if_icmp .eq 5, 3) := by decide +kernel
theorem d_Mo_head_25 : decode b_Mo_head 25 = .ok (.iload_n 1, 1) := by decide +kernel
theorem d_Mo_head_26 : decode b_Mo_head 26 = .ok (.ireturn, 1) := by decide +kernel
theorem d_Mo_head_27 : decode b_Mo_head 27 = .ok (.aload_n 0, 1) := by decide +kernel
theorem d_Mo_head_28 : decode b_Mo_head 28 = .ok (.invokevirtual 279, 3) := by decide +kernel
theorem d_Mo_head_31 : decode b_Mo_head 31 = .ok (.istore_n 2, 1) := by decide +kernel
theorem d_Mo_head_32 : decode b_Mo_head 32 = .ok (.iload_n 2, 1) := by decide +kernel
theorem d_Mo_head_33 : decode b_Mo_head 33 = .ok (.ifCond .ge 5, 3) := by decide +kernel
theorem d_Mo_head_36 : decode b_Mo_head 36 = .ok (.iconst (-1), 1) := by decide +kernel
theorem d_Mo_head_37 : decode b_Mo_head 37 = .ok (.ireturn, 1) := by decide +kernel
theorem d_Mo_head_38 : decode b_Mo_head 38 = .ok (.aload_n 0, 1) := by decide +kernel
theorem d_Mo_head_39 : decode b_Mo_head 39 = .ok (.aload_n 0, 1) := by decide +kernel
theorem d_Mo_head_40 : decode b_Mo_head 40 = .ok (.getfield 237, 3) := by decide +kernel
theorem d_Mo_head_43 : decode b_Mo_head 43 = .ok (.iconst 2, 1) := by decide +kernel
theorem d_Mo_head_44 : decode b_Mo_head 44 = .ok (.iadd, 1) := by decide +kernel
theorem d_Mo_head_45 : decode b_Mo_head 45 = .ok (.putfield 231, 3) := by decide +kernel
theorem d_Mo_head_48 : decode b_Mo_head 48 = .ok (.aload_n 0, 1) := by decide +kernel
theorem d_Mo_head_49 : decode b_Mo_head 49 = .ok (.iconst 0, 1) := by decide +kernel
theorem d_Mo_head_50 : decode b_Mo_head 50 = .ok (.invokevirtual 282, 3) := by decide +kernel
theorem d_Mo_head_53 : decode b_Mo_head 53 = .ok (.istore_n 1, 1) := by decide +kernel
theorem d_Mo_head_54 : decode b_Mo_head 54 = .ok (.aload_n 0, 1) := by decide +kernel
theorem d_Mo_head_55 : decode b_Mo_head 55 = .ok (.iload_n 1, 1) := by decide +kernel
theorem d_Mo_head_56 : decode b_Mo_head 56 = .ok (.iconst 1, 1) := by decide +kernel
theorem d_Mo_head_57 : decode b_Mo_head 57 = .ok (.if_icmp .ne 7, 3) := by decide +kernel
theorem d_Mo_head_60 : decode b_Mo_head 60 = .ok (.iload_n 2, 1) := by decide +kernel
theorem d_Mo_head_61 : decode b_Mo_head 61 = .ok (.goto 4, 3) := by decide +kernel
theorem d_Mo_head_64 : decode b_Mo_head 64 = .ok (.iconst 0, 1) := by decide +kernel
theorem d_Mo_head_65 : decode b_Mo_head 65 = .ok (.putfield 286, 3) := by decide +kernel
theorem d_Mo_head_68 : decode b_Mo_head 68 = .ok (.iload_n 1, 1) := by decide +kernel
theorem d_Mo_head_69 : decode b_Mo_head 69 = .ok (.ireturn, 1) := by decide +kernel
def f_Mo_head_65 (a1 : Int32) (t0 : Int32) (S : zSt) : Option (Int32 × zSt) := sq (su S 66 24 t0) fun S9 => (some (a1, S9))
def f_Mo_head (S : zSt) : Option (Int32 × zSt) := sq (su S 66 25 0) fun S1 => sq (su S1 66 28 (-1)) fun S2 => gdb 0 (sq (su S2 66 29 0) fun S3 => ((f_Mo_line S3).bind fun u5 => (if u5.1 = 1 then ((f_Mo_statusLine u5.2).bind fun u6 => (if 0 ≤ u6 then sq (su u5.2 66 21 ((u5.2 66 22) + 2)) fun S7 => ((f_Mo_fieldLines 0 S7).bind fun u8 => (if u8.1 = 1 then (f_Mo_head_65 u8.1 u6 u8.2) else (f_Mo_head_65 u8.1 0 u8.2))) else (some ((-1), u5.2)))) else (some (u5.1, u5.2)))))
set_option maxHeartbeats 4000000 in
set_option maxRecDepth 100000 in
theorem c_Mo_head (l : Launch) (g : zG) (hD : GD g) (S : zSt) (u : (Int32 × zSt)) (h : f_Mo_head S = some u) : Met l y_Mo_head (mw y_Mo_head b_Mo_head 3 (some .int)) (rmD 4) (Pw g [.ref (ga g 66)] S) (Qis g u) 0 0 (gA g) := by
  refine z_go (own := R_Mo) (lv0 := [(0, .ref (ga g 66))]) hD (by decide) rfl (Nat.le_of_ble_eq_true rfl) rfl ?_
  intro p e s m args below meth c C D ls hl
  have hx := C.1
  have hb := C.2.1
  have hown := C.2.2.2.1
  have hts := C.2.2.2.2.1
  have B65 : ∀ (H : Heap) (locs : List Loc) (S : zSt) (ls : Array Slot) (a1 : Int32) (t0 : Int32), f_Mo_head_65 a1 t0 S = some u → Dy g s S H locs → lv_has ls 3 [(1, .int a1)] → W p l e (rmD 4) s m args below meth c H locs 0 0 (MQ below (Qis g u) args s 0 0 (gA g)) (F0 m 65 ls [.int t0, .ref (ga g 66)]) := by
    intro H locs S ls a1 t0 h D hl
    unfold f_Mo_head_65 at h
    refine x_put C D kc_Mo (by decide) sh_66 24 rfl (by decide) wf_Mo_286 rfl rfl t0 rfl ⟨rfl, rfl⟩ d_Mo_head_65 h (fun S9 H locs h D => ?_)
    refine lv_iload_n hx hb d_Mo_head_68 rfl (lv_at hl 0 rfl) ?_
    exact x_irs C D h d_Mo_head_69
  unfold f_Mo_head at h
  refine lv_aload_n hx hb d_Mo_head_0 rfl (lv_at hl 0 rfl) ?_
  refine lv_iconst (v := 0) hx hb d_Mo_head_1 (by decide) ?_
  refine x_put C D kc_Mo (by decide) sh_66 25 rfl (by decide) wf_Mo_276 rfl rfl 0 rfl ⟨rfl, rfl⟩ d_Mo_head_2 h (fun S1 H locs h D => ?_)
  refine lv_aload_n hx hb d_Mo_head_5 rfl (lv_at hl 0 rfl) ?_
  refine lv_iconst (v := (-1)) hx hb d_Mo_head_6 (by decide) ?_
  refine x_put C D kc_Mo (by decide) sh_66 28 rfl (by decide) wf_Mo_264 rfl rfl (-1) rfl ⟨rfl, rfl⟩ d_Mo_head_7 h (fun S2 H locs h D => ?_)
  refine lv_aload_n hx hb d_Mo_head_10 rfl (lv_at hl 0 rfl) ?_
  refine lv_iconst (v := 0) hx hb d_Mo_head_11 (by decide) ?_
  obtain ⟨z4, h⟩ := gdb_some h
  refine x_put C D kc_Mo (by decide) sh_66 29 rfl (by decide) wf_Mo_261 rfl rfl 0 rfl z4 d_Mo_head_12 h (fun S3 H locs h D => ?_)
  refine lv_aload_n hx hb d_Mo_head_15 rfl (lv_at hl 0 rfl) ?_
  obtain ⟨u5, hu5, h⟩ := bd_some h
  refine x_cis (rest := []) (r_V C D (c_Mo_line l g hD S3 u5 hu5) wc_Mo_line wm_Mo_269 wi_Mo_line wd_Mo_line (by decide) sh_66 kc_Mo.1 rfl rfl hl (Nat.le_of_ble_eq_true rfl) (by decide) d_Mo_head_16) D (fun H locs D => ?_)
  refine lv_istore_n (lv' := [(1, .int u5.1), (0, .ref (ga g 66))]) hx hb d_Mo_head_19 rfl hl (by decide) rfl (fun ls hl => ?_)
  refine lv_iload_n hx hb d_Mo_head_20 rfl (lv_at hl 0 rfl) ?_
  refine lv_iconst (v := 1) hx hb d_Mo_head_21 (by decide) ?_
  refine lv_icmp_eq hx hb d_Mo_head_22 rfl (fun z => ?_) (fun z => ?_)
  · replace h := if_t z h
    refine lv_aload_n hx hb d_Mo_head_27 rfl (lv_at hl 1 rfl) ?_
    obtain ⟨u6, hu6, h⟩ := bd_some h
    refine x_cip (rest := []) (r_V C D (c_Mo_statusLine l g hD u5.2 u6 hu6) wc_Mo_statusLine wm_Mo_279 wi_Mo_statusLine wd_Mo_statusLine (by decide) sh_66 kc_Mo.1 rfl rfl hl (Nat.le_of_ble_eq_true rfl) (by decide) d_Mo_head_28) D (fun H locs D => ?_)
    refine lv_istore_n (lv' := [(2, .int u6), (1, .int u5.1), (0, .ref (ga g 66))]) hx hb d_Mo_head_31 rfl hl (by decide) rfl (fun ls hl => ?_)
    refine lv_iload_n hx hb d_Mo_head_32 rfl (lv_at hl 0 rfl) ?_
    refine lv_if_ge hx hb d_Mo_head_33 rfl (fun z => ?_) (fun z => ?_)
    · replace h := if_t z h
      refine lv_aload_n hx hb d_Mo_head_38 rfl (lv_at hl 2 rfl) ?_
      refine lv_aload_n hx hb d_Mo_head_39 rfl (lv_at hl 2 rfl) ?_
      refine x_get (v := .int (u5.2 66 22)) C D kc_Mo (by decide) sh_66 22 rfl (by decide) wf_Mo_237 rfl rfl d_Mo_head_40 ?_
      refine lv_iconst (v := 2) hx hb d_Mo_head_43 (by decide) ?_
      refine lv_iadd hx hb d_Mo_head_44 ?_
      refine x_put C D kc_Mo (by decide) sh_66 21 rfl (by decide) wf_Mo_231 rfl rfl ((u5.2 66 22) + 2) rfl ⟨rfl, rfl⟩ d_Mo_head_45 h (fun S7 H locs h D => ?_)
      refine lv_aload_n hx hb d_Mo_head_48 rfl (lv_at hl 2 rfl) ?_
      refine lv_iconst (v := 0) hx hb d_Mo_head_49 (by decide) ?_
      obtain ⟨u8, hu8, h⟩ := bd_some h
      refine x_cis (rest := []) (r_V C D (c_Mo_fieldLines l g hD 0 S7 u8 hu8) wc_Mo_fieldLines wm_Mo_282 wi_Mo_fieldLines wd_Mo_fieldLines (by decide) sh_66 kc_Mo.1 rfl rfl hl (Nat.le_of_ble_eq_true rfl) (by decide) d_Mo_head_50) D (fun H locs D => ?_)
      refine lv_istore_n (lv' := [(1, .int u8.1), (2, .int u6), (0, .ref (ga g 66))]) hx hb d_Mo_head_53 rfl hl (by decide) rfl (fun ls hl => ?_)
      refine lv_aload_n hx hb d_Mo_head_54 rfl (lv_at hl 2 rfl) ?_
      refine lv_iload_n hx hb d_Mo_head_55 rfl (lv_at hl 0 rfl) ?_
      refine lv_iconst (v := 1) hx hb d_Mo_head_56 (by decide) ?_
      refine lv_icmp_ne hx hb d_Mo_head_57 rfl (fun z => ?_) (fun z => ?_)
      · replace h := if_f z h
        refine lv_iconst (v := 0) hx hb d_Mo_head_64 (by decide) ?_
        exact B65 _ _ _ _ _ _ h D (lv_sub hl [0] rfl)
      · replace h := if_t z h
        refine lv_iload_n hx hb d_Mo_head_60 rfl (lv_at hl 1 rfl) ?_
        refine lv_goto hx hb d_Mo_head_61 rfl ?_
        exact B65 _ _ _ _ _ _ h D (lv_sub hl [0] rfl)
    · replace h := if_f z h
      refine lv_iconst (v := (-1)) hx hb d_Mo_head_36 (by decide) ?_
      exact x_irs C D h d_Mo_head_37
  · replace h := if_f z h
    refine lv_iload_n hx hb d_Mo_head_25 rfl (lv_at hl 0 rfl) ?_
    exact x_irs C D h d_Mo_head_26
theorem d_Mo_chunks_0 : decode b_Mo_chunks 0 = .ok (.aload_n 0, 1) := by decide +kernel
theorem d_Mo_chunks_1 : decode b_Mo_chunks 1 = .ok (.iconst 1, 1) := by decide +kernel
theorem d_Mo_chunks_2 : decode b_Mo_chunks 2 = .ok (.putfield 292, 3) := by decide +kernel
theorem d_Mo_chunks_5 : decode b_Mo_chunks 5 = .ok (.iconst 1, 1) := by decide +kernel
theorem d_Mo_chunks_6 : decode b_Mo_chunks 6 = .ok (.istore_n 1, 1) := by decide +kernel
theorem d_Mo_chunks_7 : decode b_Mo_chunks 7 = .ok (.iload_n 1, 1) := by decide +kernel
theorem d_Mo_chunks_8 : decode b_Mo_chunks 8 = .ok (.ifCond .eq 178, 3) := by decide +kernel
theorem d_Mo_chunks_11 : decode b_Mo_chunks 11 = .ok (.aload_n 0, 1) := by decide +kernel
theorem d_Mo_chunks_12 : decode b_Mo_chunks 12 = .ok (.invokevirtual 269, 3) := by decide +kernel
theorem d_Mo_chunks_15 : decode b_Mo_chunks 15 = .ok (.istore_n 2, 1) := by decide +kernel
theorem d_Mo_chunks_16 : decode b_Mo_chunks 16 = .ok (.iload_n 2, 1) := by decide +kernel
theorem d_Mo_chunks_17 : decode b_Mo_chunks 17 = .ok (.iconst 1, 1) := by decide +kernel
theorem d_Mo_chunks_18 : decode b_Mo_chunks 18 = .ok (.if_icmp .eq 17, 3) := by decide +kernel
theorem d_Mo_chunks_21 : decode b_Mo_chunks 21 = .ok (.aload_n 0, 1) := by decide +kernel
theorem d_Mo_chunks_22 : decode b_Mo_chunks 22 = .ok (.iload_n 2, 1) := by decide +kernel
theorem d_Mo_chunks_23 : decode b_Mo_chunks 23 = .ok (.ifCond .ge 7, 3) := by decide +kernel
theorem d_Mo_chunks_26 : decode b_Mo_chunks 26 = .ok (.iconst 3, 1) := by decide +kernel
theorem d_Mo_chunks_27 : decode b_Mo_chunks 27 = .ok (.goto 4, 3) := by decide +kernel
theorem d_Mo_chunks_30 : decode b_Mo_chunks 30 = .ok (.iconst 1, 1) := by decide +kernel
theorem d_Mo_chunks_31 : decode b_Mo_chunks 31 = .ok (.putfield 292, 3) := by decide +kernel
theorem d_Mo_chunks_34 : decode b_Mo_chunks 34 = .ok (.return_, 1) := by decide +kernel
theorem d_Mo_chunks_35 : decode b_Mo_chunks 35 = .ok (.aload_n 0, 1) := by decide +kernel
theorem d_Mo_chunks_36 : decode b_Mo_chunks 36 = .ok (.invokevirtual 295, 3) := by decide +kernel
theorem d_Mo_chunks_39 : decode b_Mo_chunks 39 = .ok (.istore_n 3, 1) := by decide +kernel
theorem d_Mo_chunks_40 : decode b_Mo_chunks 40 = .ok (.iload_n 3, 1) := by decide +kernel
theorem d_Mo_chunks_41 : decode b_Mo_chunks 41 = .ok (.ifCond .lt 14, 3) := by decide +kernel
theorem d_Mo_chunks_44 : decode b_Mo_chunks 44 = .ok (.aload_n 0, 1) := by decide +kernel
theorem d_Mo_chunks_45 : decode b_Mo_chunks 45 = .ok (.getfield 289, 3) := by decide +kernel
theorem d_Mo_chunks_48 : decode b_Mo_chunks 48 = .ok (.iload_n 3, 1) := by decide +kernel
theorem d_Mo_chunks_49 : decode b_Mo_chunks 49 = .ok (.iadd, 1) := by decide +kernel
theorem d_Mo_chunks_50 : decode b_Mo_chunks 50 = .ok (.bipush 120, 2) := by decide +kernel
theorem d_Mo_chunks_52 : decode b_Mo_chunks 52 = .ok (.if_icmp .le 9, 3) := by decide +kernel
theorem d_Mo_chunks_55 : decode b_Mo_chunks 55 = .ok (.aload_n 0, 1) := by decide +kernel
theorem d_Mo_chunks_56 : decode b_Mo_chunks 56 = .ok (.iconst 3, 1) := by decide +kernel
theorem d_Mo_chunks_57 : decode b_Mo_chunks 57 = .ok (.putfield 292, 3) := by decide +kernel
theorem d_Mo_chunks_60 : decode b_Mo_chunks 60 = .ok (.return_, 1) := by decide +kernel
theorem d_Mo_chunks_61 : decode b_Mo_chunks 61 = .ok (.aload_n 0, 1) := by decide +kernel
theorem d_Mo_chunks_62 : decode b_Mo_chunks 62 = .ok (.aload_n 0, 1) := by decide +kernel
theorem d_Mo_chunks_63 : decode b_Mo_chunks 63 = .ok (.getfield 237, 3) := by decide +kernel
theorem d_Mo_chunks_66 : decode b_Mo_chunks 66 = .ok (.iconst 2, 1) := by decide +kernel
theorem d_Mo_chunks_67 : decode b_Mo_chunks 67 = .ok (.iadd, 1) := by decide +kernel
theorem d_Mo_chunks_68 : decode b_Mo_chunks 68 = .ok (.putfield 231, 3) := by decide +kernel
theorem d_Mo_chunks_71 : decode b_Mo_chunks 71 = .ok (.iload_n 3, 1) := by decide +kernel
theorem d_Mo_chunks_72 : decode b_Mo_chunks 72 = .ok (.ifCond .ne 31, 3) := by decide +kernel
theorem d_Mo_chunks_75 : decode b_Mo_chunks 75 = .ok (.aload_n 0, 1) := by decide +kernel
theorem d_Mo_chunks_76 : decode b_Mo_chunks 76 = .ok (.iconst 1, 1) := by decide +kernel
theorem d_Mo_chunks_77 : decode b_Mo_chunks 77 = .ok (.invokevirtual 282, 3) := by decide +kernel
theorem d_Mo_chunks_80 : decode b_Mo_chunks 80 = .ok (.istore_n 2, 1) := by decide +kernel
theorem d_Mo_chunks_81 : decode b_Mo_chunks 81 = .ok (.aload_n 0, 1) := by decide +kernel
theorem d_Mo_chunks_82 : decode b_Mo_chunks 82 = .ok (.iload_n 2, 1) := by decide +kernel
theorem d_Mo_chunks_83 : decode b_Mo_chunks 83 = .ok (.ifCond .ge 7, 3) := by decide +kernel
theorem d_Mo_chunks_86 : decode b_Mo_chunks 86 = .ok (.iconst 3, 1) := by decide +kernel
theorem d_Mo_chunks_87 : decode b_Mo_chunks 87 = .ok (.goto 12, 3) := by decide +kernel
theorem d_Mo_chunks_90 : decode b_Mo_chunks 90 = .ok (.iload_n 2, 1) := by decide +kernel
theorem d_Mo_chunks_91 : decode b_Mo_chunks 91 = .ok (.ifCond .ne 7, 3) := by decide +kernel
theorem d_Mo_chunks_94 : decode b_Mo_chunks 94 = .ok (.iconst 1, 1) := by decide +kernel
theorem d_Mo_chunks_95 : decode b_Mo_chunks 95 = .ok (.goto 4, 3) := by decide +kernel
theorem d_Mo_chunks_98 : decode b_Mo_chunks 98 = .ok (.iconst 2, 1) := by decide +kernel
theorem d_Mo_chunks_99 : decode b_Mo_chunks 99 = .ok (.putfield 292, 3) := by decide +kernel
theorem d_Mo_chunks_102 : decode b_Mo_chunks 102 = .ok (.return_, 1) := by decide +kernel
theorem d_Mo_chunks_103 : decode b_Mo_chunks 103 = .ok (.aload_n 0, 1) := by decide +kernel
theorem d_Mo_chunks_104 : decode b_Mo_chunks 104 = .ok (.iload_n 3, 1) := by decide +kernel
theorem d_Mo_chunks_105 : decode b_Mo_chunks 105 = .ok (.invokevirtual 298, 3) := by decide +kernel
theorem d_Mo_chunks_108 : decode b_Mo_chunks 108 = .ok (.ifCond .ne 4, 3) := by decide +kernel
theorem d_Mo_chunks_111 : decode b_Mo_chunks 111 = .ok (.return_, 1) := by decide +kernel
theorem d_Mo_chunks_112 : decode b_Mo_chunks 112 = .ok (.iconst 0, 1) := by decide +kernel
theorem d_Mo_chunks_113 : decode b_Mo_chunks 113 = .ok (.istore 4, 2) := by decide +kernel
theorem d_Mo_chunks_115 : decode b_Mo_chunks 115 = .ok (.iload 4, 2) := by decide +kernel
theorem d_Mo_chunks_117 : decode b_Mo_chunks 117 = .ok (.iconst 2, 1) := by decide +kernel
theorem d_Mo_chunks_118 : decode b_Mo_chunks 118 = .ok (.if_icmp .ge 65, 3) := by decide +kernel
theorem d_Mo_chunks_121 : decode b_Mo_chunks 121 = .ok (.iload_n 1, 1) := by decide +kernel
theorem d_Mo_chunks_122 : decode b_Mo_chunks 122 = .ok (.ifCond .eq 61, 3) := by decide +kernel
theorem d_Mo_chunks_125 : decode b_Mo_chunks 125 = .ok (.aload_n 0, 1) := by decide +kernel
theorem d_Mo_chunks_126 : decode b_Mo_chunks 126 = .ok (.getfield 231, 3) := by decide +kernel
theorem d_Mo_chunks_129 : decode b_Mo_chunks 129 = .ok (.aload_n 0, 1) := by decide +kernel
theorem d_Mo_chunks_130 : decode b_Mo_chunks 130 = .ok (.getfield 234, 3) := by decide +kernel
theorem d_Mo_chunks_133 : decode b_Mo_chunks 133 = .ok (.if_icmp .ne 4, 3) := by decide +kernel
theorem d_Mo_chunks_136 : decode b_Mo_chunks 136 = .ok (.return_, 1) := by decide +kernel
theorem d_Mo_chunks_137 : decode b_Mo_chunks 137 = .ok (.aload_n 0, 1) := by decide +kernel
theorem d_Mo_chunks_138 : decode b_Mo_chunks 138 = .ok (.getfield 37, 3) := by decide +kernel
theorem d_Mo_chunks_141 : decode b_Mo_chunks 141 = .ok (.aload_n 0, 1) := by decide +kernel
theorem d_Mo_chunks_142 : decode b_Mo_chunks 142 = .ok (.getfield 231, 3) := by decide +kernel
theorem d_Mo_chunks_145 : decode b_Mo_chunks 145 = .ok (.iaload, 1) := by decide +kernel
theorem d_Mo_chunks_146 : decode b_Mo_chunks 146 = .ok (.iload 4, 2) := by decide +kernel
theorem d_Mo_chunks_148 : decode b_Mo_chunks 148 = .ok (.ifCond .ne 8, 3) := by decide +kernel
theorem d_Mo_chunks_151 : decode b_Mo_chunks 151 = .ok (.bipush 13, 2) := by decide +kernel
theorem d_Mo_chunks_153 : decode b_Mo_chunks 153 = .ok (.goto 5, 3) := by decide +kernel
theorem d_Mo_chunks_156 : decode b_Mo_chunks 156 = .ok (.bipush 10, 2) := by decide +kernel
theorem d_Mo_chunks_158 : decode b_Mo_chunks 158 = .ok (.if_icmp .ne 7, 3) := by decide +kernel
theorem d_Mo_chunks_161 : decode b_Mo_chunks 161 = .ok (.iconst 1, 1) := by decide +kernel
theorem d_Mo_chunks_162 : decode b_Mo_chunks 162 = .ok (.goto 4, 3) := by decide +kernel
theorem d_Mo_chunks_165 : decode b_Mo_chunks 165 = .ok (.iconst 0, 1) := by decide +kernel
theorem d_Mo_chunks_166 : decode b_Mo_chunks 166 = .ok (.istore_n 1, 1) := by decide +kernel
theorem d_Mo_chunks_167 : decode b_Mo_chunks 167 = .ok (.aload_n 0, 1) := by decide +kernel
theorem d_Mo_chunks_168 : decode b_Mo_chunks 168 = .ok (.dup, 1) := by decide +kernel
theorem d_Mo_chunks_169 : decode b_Mo_chunks 169 = .ok (.getfield 231, 3) := by decide +kernel
theorem d_Mo_chunks_172 : decode b_Mo_chunks 172 = .ok (.iconst 1, 1) := by decide +kernel
theorem d_Mo_chunks_173 : decode b_Mo_chunks 173 = .ok (.iadd, 1) := by decide +kernel
theorem d_Mo_chunks_174 : decode b_Mo_chunks 174 = .ok (.putfield 231, 3) := by decide +kernel
theorem d_Mo_chunks_177 : decode b_Mo_chunks 177 = .ok (.iinc 4 1, 3) := by decide +kernel
theorem d_Mo_chunks_180 : decode b_Mo_chunks 180 = .ok (.goto (-65), 3) := by decide +kernel
theorem d_Mo_chunks_183 : decode b_Mo_chunks 183 = .ok (.goto (-176), 3) := by decide +kernel
theorem d_Mo_chunks_186 : decode b_Mo_chunks 186 = .ok (.aload_n 0, 1) := by decide +kernel
theorem d_Mo_chunks_187 : decode b_Mo_chunks 187 = .ok (.iconst 3, 1) := by decide +kernel
theorem d_Mo_chunks_188 : decode b_Mo_chunks 188 = .ok (.putfield 292, 3) := by decide +kernel
theorem d_Mo_chunks_191 : decode b_Mo_chunks 191 = .ok (.return_, 1) := by decide +kernel
def f_Mo_chunks_55 (S : zSt) : Option zSt := sq (su S 66 23 3) fun S5 => (some S5)
def f_Mo_chunks_183 (K7 : Int32 → zSt → Option zSt) (a1 : Int32) (S : zSt) : Option zSt := (K7 a1 S)
def f_Mo_chunks_166 (K7 : Int32 → zSt → Option zSt) (K115 : Int32 → Int32 → zSt → Option zSt) (a4 : Int32) (t0 : Int32) (S : zSt) : Option zSt := sq (su S 66 21 ((S 66 21) + 1)) fun S8 => (K115 t0 (a4 + 1) S8)
def f_Mo_chunks_158 (K7 : Int32 → zSt → Option zSt) (K115 : Int32 → Int32 → zSt → Option zSt) (a4 : Int32) (t0 : Int32) (t1 : Int32) (S : zSt) : Option zSt := (if t1 = t0 then (f_Mo_chunks_166 K7 K115 a4 1 S) else (f_Mo_chunks_166 K7 K115 a4 0 S))
def f_Mo_chunks_115 (K7 : Int32 → zSt → Option zSt) : Nat → Int32 → Int32 → zSt → Option zSt
  | 0, _, _, _ => none
  | n + 1, a1, a4, S => (if 2 ≤ a4 then (f_Mo_chunks_183 K7 a1 S) else (if a1 = 0 then (f_Mo_chunks_183 K7 a1 S) else (if (S 66 21) = (S 66 17) then (some S) else gdi (S 66 21) 520 ((if a4 = 0 then (f_Mo_chunks_158 K7 (f_Mo_chunks_115 K7 n) a4 13 (S 76 (S 66 21).toNatClampNeg) S) else (f_Mo_chunks_158 K7 (f_Mo_chunks_115 K7 n) a4 10 (S 76 (S 66 21).toNatClampNeg) S))))))
def f_Mo_chunks_99 (t0 : Int32) (S : zSt) : Option zSt := sq (su S 66 23 t0) fun S10 => (some S10)
def f_Mo_chunks_31 (t0 : Int32) (S : zSt) : Option zSt := sq (su S 66 23 t0) fun S11 => (some S11)
def f_Mo_chunks_7 : Nat → Int32 → zSt → Option zSt
  | 0, _, _ => none
  | n + 1, a1, S => (if a1 = 0 then sq (su S 66 23 3) fun S2 => (some S2) else ((f_Mo_line S).bind fun u3 => (if u3.1 = 1 then ((f_Mo_chunkSize u3.2).bind fun u4 => (if u4 < 0 then (f_Mo_chunks_55 u3.2) else (if ((u3.2 66 26) + u4) ≤ 120 then sq (su u3.2 66 21 ((u3.2 66 22) + 2)) fun S6 => (if u4 = 0 then ((f_Mo_fieldLines 1 S6).bind fun u9 => (if 0 ≤ u9.1 then (if u9.1 = 0 then (f_Mo_chunks_99 1 u9.2) else (f_Mo_chunks_99 2 u9.2)) else (f_Mo_chunks_99 3 u9.2))) else ((f_Mo_take u4 S6).bind fun u7 => (if u7.1 = 0 then (some u7.2) else (f_Mo_chunks_115 (f_Mo_chunks_7 n) fu a1 0 u7.2)))) else (f_Mo_chunks_55 u3.2)))) else (if 0 ≤ u3.1 then (f_Mo_chunks_31 1 u3.2) else (f_Mo_chunks_31 3 u3.2)))))
def f_Mo_chunks (S : zSt) : Option zSt := sq (su S 66 23 1) fun S1 => (f_Mo_chunks_7 fu 1 S1)
set_option maxHeartbeats 4000000 in
set_option maxRecDepth 100000 in
theorem c_Mo_chunks (l : Launch) (g : zG) (hD : GD g) (S : zSt) (u : zSt) (h : f_Mo_chunks S = some u) : Met l y_Mo_chunks (mw y_Mo_chunks b_Mo_chunks 5 none) (rmD 4) (Pw g [.ref (ga g 66)] S) (Qvs g u) 0 0 (gA g) := by
  refine z_go (own := R_Mo) (lv0 := [(0, .ref (ga g 66))]) hD (by decide) rfl (Nat.le_of_ble_eq_true rfl) rfl ?_
  intro p e s m args below meth c C D ls hl
  have hx := C.1
  have hb := C.2.1
  have hown := C.2.2.2.1
  have hts := C.2.2.2.2.1
  have B55 : ∀ (H : Heap) (locs : List Loc) (S : zSt) (ls : Array Slot), f_Mo_chunks_55 S = some u → Dy g s S H locs → lv_has ls 5 [(0, .ref (ga g 66))] → W p l e (rmD 4) s m args below meth c H locs 0 0 (MQ below (Qvs g u) args s 0 0 (gA g)) (F0 m 55 ls []) := by
    intro H locs S ls h D hl
    unfold f_Mo_chunks_55 at h
    refine lv_aload_n hx hb d_Mo_chunks_55 rfl (lv_at hl 0 rfl) ?_
    refine lv_iconst (v := 3) hx hb d_Mo_chunks_56 (by decide) ?_
    refine x_put C D kc_Mo (by decide) sh_66 23 rfl (by decide) wf_Mo_292 rfl rfl 3 rfl ⟨rfl, rfl⟩ d_Mo_chunks_57 h (fun S5 H locs h D => ?_)
    exact x_vrs C D h d_Mo_chunks_60
  have B183 : ∀ (K7 : Int32 → zSt → Option zSt) (hK7 : ∀ (H : Heap) (locs : List Loc) (S : zSt) (ls : Array Slot) (a1 : Int32), K7 a1 S = some u → Dy g s S H locs → lv_has ls 5 [(0, .ref (ga g 66)), (1, .int a1)] → W p l e (rmD 4) s m args below meth c H locs 0 0 (MQ below (Qvs g u) args s 0 0 (gA g)) (F0 m 7 ls [])) (H : Heap) (locs : List Loc) (S : zSt) (ls : Array Slot) (a1 : Int32), f_Mo_chunks_183 K7 a1 S = some u → Dy g s S H locs → lv_has ls 5 [(0, .ref (ga g 66)), (1, .int a1)] → W p l e (rmD 4) s m args below meth c H locs 0 0 (MQ below (Qvs g u) args s 0 0 (gA g)) (F0 m 183 ls []) := by
    intro K7 hK7 H locs S ls a1 h D hl
    unfold f_Mo_chunks_183 at h
    refine lv_goto hx hb d_Mo_chunks_183 rfl ?_
    exact hK7 _ _ _ _ _ h D (lv_sub hl [0, 1] rfl)
  have B166 : ∀ (K7 : Int32 → zSt → Option zSt) (hK7 : ∀ (H : Heap) (locs : List Loc) (S : zSt) (ls : Array Slot) (a1 : Int32), K7 a1 S = some u → Dy g s S H locs → lv_has ls 5 [(0, .ref (ga g 66)), (1, .int a1)] → W p l e (rmD 4) s m args below meth c H locs 0 0 (MQ below (Qvs g u) args s 0 0 (gA g)) (F0 m 7 ls [])) (K115 : Int32 → Int32 → zSt → Option zSt) (hK115 : ∀ (H : Heap) (locs : List Loc) (S : zSt) (ls : Array Slot) (a1 : Int32) (a4 : Int32), K115 a1 a4 S = some u → Dy g s S H locs → lv_has ls 5 [(0, .ref (ga g 66)), (1, .int a1), (4, .int a4)] → W p l e (rmD 4) s m args below meth c H locs 0 0 (MQ below (Qvs g u) args s 0 0 (gA g)) (F0 m 115 ls [])) (H : Heap) (locs : List Loc) (S : zSt) (ls : Array Slot) (a4 : Int32) (t0 : Int32), f_Mo_chunks_166 K7 K115 a4 t0 S = some u → Dy g s S H locs → lv_has ls 5 [(0, .ref (ga g 66)), (4, .int a4)] → W p l e (rmD 4) s m args below meth c H locs 0 0 (MQ below (Qvs g u) args s 0 0 (gA g)) (F0 m 166 ls [.int t0]) := by
    intro K7 hK7 K115 hK115 H locs S ls a4 t0 h D hl
    unfold f_Mo_chunks_166 at h
    refine lv_istore_n (lv' := [(1, .int t0), (0, .ref (ga g 66)), (4, .int a4)]) hx hb d_Mo_chunks_166 rfl hl (by decide) rfl (fun ls hl => ?_)
    refine lv_aload_n hx hb d_Mo_chunks_167 rfl (lv_at hl 1 rfl) ?_
    refine lv_dup hx hb d_Mo_chunks_168 rfl ?_
    refine x_get (v := .int (S 66 21)) C D kc_Mo (by decide) sh_66 21 rfl (by decide) wf_Mo_231 rfl rfl d_Mo_chunks_169 ?_
    refine lv_iconst (v := 1) hx hb d_Mo_chunks_172 (by decide) ?_
    refine lv_iadd hx hb d_Mo_chunks_173 ?_
    refine x_put C D kc_Mo (by decide) sh_66 21 rfl (by decide) wf_Mo_231 rfl rfl ((S 66 21) + 1) rfl ⟨rfl, rfl⟩ d_Mo_chunks_174 h (fun S8 H locs h D => ?_)
    refine lv_iinc (k := 2) (lv' := [(4, .int (a4 + 1)), (1, .int t0), (0, .ref (ga g 66))]) hx hb d_Mo_chunks_177 hl rfl (ii1 _) (by decide) rfl (fun ls hl => ?_)
    refine lv_goto hx hb d_Mo_chunks_180 rfl ?_
    exact hK115 _ _ _ _ _ _ h D (lv_sub hl [2, 1, 0] rfl)
  have B158 : ∀ (K7 : Int32 → zSt → Option zSt) (hK7 : ∀ (H : Heap) (locs : List Loc) (S : zSt) (ls : Array Slot) (a1 : Int32), K7 a1 S = some u → Dy g s S H locs → lv_has ls 5 [(0, .ref (ga g 66)), (1, .int a1)] → W p l e (rmD 4) s m args below meth c H locs 0 0 (MQ below (Qvs g u) args s 0 0 (gA g)) (F0 m 7 ls [])) (K115 : Int32 → Int32 → zSt → Option zSt) (hK115 : ∀ (H : Heap) (locs : List Loc) (S : zSt) (ls : Array Slot) (a1 : Int32) (a4 : Int32), K115 a1 a4 S = some u → Dy g s S H locs → lv_has ls 5 [(0, .ref (ga g 66)), (1, .int a1), (4, .int a4)] → W p l e (rmD 4) s m args below meth c H locs 0 0 (MQ below (Qvs g u) args s 0 0 (gA g)) (F0 m 115 ls [])) (H : Heap) (locs : List Loc) (S : zSt) (ls : Array Slot) (a4 : Int32) (t0 : Int32) (t1 : Int32), f_Mo_chunks_158 K7 K115 a4 t0 t1 S = some u → Dy g s S H locs → lv_has ls 5 [(0, .ref (ga g 66)), (4, .int a4)] → W p l e (rmD 4) s m args below meth c H locs 0 0 (MQ below (Qvs g u) args s 0 0 (gA g)) (F0 m 158 ls [.int t0, .int t1]) := by
    intro K7 hK7 K115 hK115 H locs S ls a4 t0 t1 h D hl
    unfold f_Mo_chunks_158 at h
    refine lv_icmp_ne hx hb d_Mo_chunks_158 rfl (fun z => ?_) (fun z => ?_)
    · replace h := if_f z h
      refine lv_iconst (v := 0) hx hb d_Mo_chunks_165 (by decide) ?_
      exact B166 _ hK7 _ hK115 _ _ _ _ _ _ h D (lv_sub hl [0, 1] rfl)
    · replace h := if_t z h
      refine lv_iconst (v := 1) hx hb d_Mo_chunks_161 (by decide) ?_
      refine lv_goto hx hb d_Mo_chunks_162 rfl ?_
      exact B166 _ hK7 _ hK115 _ _ _ _ _ _ h D (lv_sub hl [0, 1] rfl)
  have L115 : ∀ (K7 : Int32 → zSt → Option zSt) (hK7 : ∀ (H : Heap) (locs : List Loc) (S : zSt) (ls : Array Slot) (a1 : Int32), K7 a1 S = some u → Dy g s S H locs → lv_has ls 5 [(0, .ref (ga g 66)), (1, .int a1)] → W p l e (rmD 4) s m args below meth c H locs 0 0 (MQ below (Qvs g u) args s 0 0 (gA g)) (F0 m 7 ls [])) (n : Nat) (H : Heap) (locs : List Loc) (S : zSt) (ls : Array Slot) (a1 : Int32) (a4 : Int32), f_Mo_chunks_115 K7 n a1 a4 S = some u → Dy g s S H locs → lv_has ls 5 [(0, .ref (ga g 66)), (1, .int a1), (4, .int a4)] → W p l e (rmD 4) s m args below meth c H locs 0 0 (MQ below (Qvs g u) args s 0 0 (gA g)) (F0 m 115 ls []) := by
    intro K7 hK7 n
    induction n with
    | zero => intro H locs S ls a1 a4 h D hl; rw [f_Mo_chunks_115] at h; cases h
    | succ n hK115 =>
      intro H locs S ls a1 a4 h D hl
      rw [f_Mo_chunks_115] at h
      refine lv_iload hx hb d_Mo_chunks_115 (lv_at hl 2 rfl) ?_
      refine lv_iconst (v := 2) hx hb d_Mo_chunks_117 (by decide) ?_
      refine lv_icmp_ge hx hb d_Mo_chunks_118 rfl (fun z => ?_) (fun z => ?_)
      · replace h := if_t z h
        exact B183 _ hK7 _ _ _ _ _ h D (lv_sub hl [0, 1] rfl)
      · replace h := if_f z h
        refine lv_iload_n hx hb d_Mo_chunks_121 rfl (lv_at hl 1 rfl) ?_
        refine lv_if_eq hx hb d_Mo_chunks_122 rfl (fun z => ?_) (fun z => ?_)
        · replace h := if_t z h
          exact B183 _ hK7 _ _ _ _ _ h D (lv_sub hl [0, 1] rfl)
        · replace h := if_f z h
          refine lv_aload_n hx hb d_Mo_chunks_125 rfl (lv_at hl 0 rfl) ?_
          refine x_get (v := .int (S 66 21)) C D kc_Mo (by decide) sh_66 21 rfl (by decide) wf_Mo_231 rfl rfl d_Mo_chunks_126 ?_
          refine lv_aload_n hx hb d_Mo_chunks_129 rfl (lv_at hl 0 rfl) ?_
          refine x_get (v := .int (S 66 17)) C D kc_Mo (by decide) sh_66 17 rfl (by decide) wf_Mo_234 rfl rfl d_Mo_chunks_130 ?_
          refine lv_icmp_ne hx hb d_Mo_chunks_133 rfl (fun z => ?_) (fun z => ?_)
          · replace h := if_f z h
            refine lv_aload_n hx hb d_Mo_chunks_137 rfl (lv_at hl 0 rfl) ?_
            refine x_get (v := .ref (ga g 76)) C D kc_Mo (by decide) sh_66 18 rfl (by decide) wf_Mo_37 rfl rfl d_Mo_chunks_138 ?_
            refine lv_aload_n hx hb d_Mo_chunks_141 rfl (lv_at hl 0 rfl) ?_
            refine x_get (v := .int (S 66 21)) C D kc_Mo (by decide) sh_66 21 rfl (by decide) wf_Mo_231 rfl rfl d_Mo_chunks_142 ?_
            refine x_iald C D (by decide) sh_76 d_Mo_chunks_145 h (fun _ h => ?_)
            refine lv_iload hx hb d_Mo_chunks_146 (lv_at hl 2 rfl) ?_
            refine lv_if_ne hx hb d_Mo_chunks_148 rfl (fun z => ?_) (fun z => ?_)
            · replace h := if_f z h
              refine lv_bipush (v := 10) hx hb d_Mo_chunks_156 (by decide) ?_
              exact B158 _ hK7 _ hK115 _ _ _ _ _ _ _ h D (lv_sub hl [0, 2] rfl)
            · replace h := if_t z h
              refine lv_bipush (v := 13) hx hb d_Mo_chunks_151 (by decide) ?_
              refine lv_goto hx hb d_Mo_chunks_153 rfl ?_
              exact B158 _ hK7 _ hK115 _ _ _ _ _ _ _ h D (lv_sub hl [0, 2] rfl)
          · replace h := if_t z h
            exact x_vrs C D h d_Mo_chunks_136
  have B99 : ∀ (H : Heap) (locs : List Loc) (S : zSt) (ls : Array Slot) (t0 : Int32), f_Mo_chunks_99 t0 S = some u → Dy g s S H locs → lv_has ls 5 [] → W p l e (rmD 4) s m args below meth c H locs 0 0 (MQ below (Qvs g u) args s 0 0 (gA g)) (F0 m 99 ls [.int t0, .ref (ga g 66)]) := by
    intro H locs S ls t0 h D hl
    unfold f_Mo_chunks_99 at h
    refine x_put C D kc_Mo (by decide) sh_66 23 rfl (by decide) wf_Mo_292 rfl rfl t0 rfl ⟨rfl, rfl⟩ d_Mo_chunks_99 h (fun S10 H locs h D => ?_)
    exact x_vrs C D h d_Mo_chunks_102
  have B31 : ∀ (H : Heap) (locs : List Loc) (S : zSt) (ls : Array Slot) (t0 : Int32), f_Mo_chunks_31 t0 S = some u → Dy g s S H locs → lv_has ls 5 [] → W p l e (rmD 4) s m args below meth c H locs 0 0 (MQ below (Qvs g u) args s 0 0 (gA g)) (F0 m 31 ls [.int t0, .ref (ga g 66)]) := by
    intro H locs S ls t0 h D hl
    unfold f_Mo_chunks_31 at h
    refine x_put C D kc_Mo (by decide) sh_66 23 rfl (by decide) wf_Mo_292 rfl rfl t0 rfl ⟨rfl, rfl⟩ d_Mo_chunks_31 h (fun S11 H locs h D => ?_)
    exact x_vrs C D h d_Mo_chunks_34
  have L7 : ∀ (n : Nat) (H : Heap) (locs : List Loc) (S : zSt) (ls : Array Slot) (a1 : Int32), f_Mo_chunks_7 n a1 S = some u → Dy g s S H locs → lv_has ls 5 [(0, .ref (ga g 66)), (1, .int a1)] → W p l e (rmD 4) s m args below meth c H locs 0 0 (MQ below (Qvs g u) args s 0 0 (gA g)) (F0 m 7 ls []) := by
    intro n
    induction n with
    | zero => intro H locs S ls a1 h D hl; rw [f_Mo_chunks_7] at h; cases h
    | succ n hK7 =>
      intro H locs S ls a1 h D hl
      rw [f_Mo_chunks_7] at h
      refine lv_iload_n hx hb d_Mo_chunks_7 rfl (lv_at hl 1 rfl) ?_
      refine lv_if_eq hx hb d_Mo_chunks_8 rfl (fun z => ?_) (fun z => ?_)
      · replace h := if_t z h
        refine lv_aload_n hx hb d_Mo_chunks_186 rfl (lv_at hl 0 rfl) ?_
        refine lv_iconst (v := 3) hx hb d_Mo_chunks_187 (by decide) ?_
        refine x_put C D kc_Mo (by decide) sh_66 23 rfl (by decide) wf_Mo_292 rfl rfl 3 rfl ⟨rfl, rfl⟩ d_Mo_chunks_188 h (fun S2 H locs h D => ?_)
        exact x_vrs C D h d_Mo_chunks_191
      · replace h := if_f z h
        refine lv_aload_n hx hb d_Mo_chunks_11 rfl (lv_at hl 0 rfl) ?_
        obtain ⟨u3, hu3, h⟩ := bd_some h
        refine x_cis (rest := []) (r_V C D (c_Mo_line l g hD S u3 hu3) wc_Mo_line wm_Mo_269 wi_Mo_line wd_Mo_line (by decide) sh_66 kc_Mo.1 rfl rfl hl (Nat.le_of_ble_eq_true rfl) (by decide) d_Mo_chunks_12) D (fun H locs D => ?_)
        refine lv_istore_n (lv' := [(2, .int u3.1), (0, .ref (ga g 66)), (1, .int a1)]) hx hb d_Mo_chunks_15 rfl hl (by decide) rfl (fun ls hl => ?_)
        refine lv_iload_n hx hb d_Mo_chunks_16 rfl (lv_at hl 0 rfl) ?_
        refine lv_iconst (v := 1) hx hb d_Mo_chunks_17 (by decide) ?_
        refine lv_icmp_eq hx hb d_Mo_chunks_18 rfl (fun z => ?_) (fun z => ?_)
        · replace h := if_t z h
          refine lv_aload_n hx hb d_Mo_chunks_35 rfl (lv_at hl 1 rfl) ?_
          obtain ⟨u4, hu4, h⟩ := bd_some h
          refine x_cip (rest := []) (r_V C D (c_Mo_chunkSize l g hD u3.2 u4 hu4) wc_Mo_chunkSize wm_Mo_295 wi_Mo_chunkSize wd_Mo_chunkSize (by decide) sh_66 kc_Mo.1 rfl rfl hl (Nat.le_of_ble_eq_true rfl) (by decide) d_Mo_chunks_36) D (fun H locs D => ?_)
          refine lv_istore_n (lv' := [(3, .int u4), (2, .int u3.1), (0, .ref (ga g 66)), (1, .int a1)]) hx hb d_Mo_chunks_39 rfl hl (by decide) rfl (fun ls hl => ?_)
          refine lv_iload_n hx hb d_Mo_chunks_40 rfl (lv_at hl 0 rfl) ?_
          refine lv_if_lt hx hb d_Mo_chunks_41 rfl (fun z => ?_) (fun z => ?_)
          · replace h := if_t z h
            exact B55 _ _ _ _ h D (lv_sub hl [2] rfl)
          · replace h := if_f z h
            refine lv_aload_n hx hb d_Mo_chunks_44 rfl (lv_at hl 2 rfl) ?_
            refine x_get (v := .int (u3.2 66 26)) C D kc_Mo (by decide) sh_66 26 rfl (by decide) wf_Mo_289 rfl rfl d_Mo_chunks_45 ?_
            refine lv_iload_n hx hb d_Mo_chunks_48 rfl (lv_at hl 0 rfl) ?_
            refine lv_iadd hx hb d_Mo_chunks_49 ?_
            refine lv_bipush (v := 120) hx hb d_Mo_chunks_50 (by decide) ?_
            refine lv_icmp_le hx hb d_Mo_chunks_52 rfl (fun z => ?_) (fun z => ?_)
            · replace h := if_t z h
              refine lv_aload_n hx hb d_Mo_chunks_61 rfl (lv_at hl 2 rfl) ?_
              refine lv_aload_n hx hb d_Mo_chunks_62 rfl (lv_at hl 2 rfl) ?_
              refine x_get (v := .int (u3.2 66 22)) C D kc_Mo (by decide) sh_66 22 rfl (by decide) wf_Mo_237 rfl rfl d_Mo_chunks_63 ?_
              refine lv_iconst (v := 2) hx hb d_Mo_chunks_66 (by decide) ?_
              refine lv_iadd hx hb d_Mo_chunks_67 ?_
              refine x_put C D kc_Mo (by decide) sh_66 21 rfl (by decide) wf_Mo_231 rfl rfl ((u3.2 66 22) + 2) rfl ⟨rfl, rfl⟩ d_Mo_chunks_68 h (fun S6 H locs h D => ?_)
              refine lv_iload_n hx hb d_Mo_chunks_71 rfl (lv_at hl 0 rfl) ?_
              refine lv_if_ne hx hb d_Mo_chunks_72 rfl (fun z => ?_) (fun z => ?_)
              · replace h := if_f z h
                refine lv_aload_n hx hb d_Mo_chunks_103 rfl (lv_at hl 2 rfl) ?_
                refine lv_iload_n hx hb d_Mo_chunks_104 rfl (lv_at hl 0 rfl) ?_
                obtain ⟨u7, hu7, h⟩ := bd_some h
                refine x_cis (rest := []) (r_V C D (c_Mo_take l g hD u4 S6 u7 hu7) wc_Mo_take wm_Mo_298 wi_Mo_take wd_Mo_take (by decide) sh_66 kc_Mo.1 rfl rfl hl (Nat.le_of_ble_eq_true rfl) (by decide) d_Mo_chunks_105) D (fun H locs D => ?_)
                refine lv_if_ne hx hb d_Mo_chunks_108 rfl (fun z => ?_) (fun z => ?_)
                · replace h := if_f z h
                  refine lv_iconst (v := 0) hx hb d_Mo_chunks_112 (by decide) ?_
                  refine lv_istore (lv' := [(4, .int 0), (3, .int u4), (2, .int u3.1), (0, .ref (ga g 66)), (1, .int a1)]) hx hb d_Mo_chunks_113 hl (by decide) rfl (fun ls hl => ?_)
                  exact L115 _ hK7 _ _ _ _ _ _ _ h D (lv_sub hl [3, 4, 0] rfl)
                · replace h := if_t z h
                  exact x_vrs C D h d_Mo_chunks_111
              · replace h := if_t z h
                refine lv_aload_n hx hb d_Mo_chunks_75 rfl (lv_at hl 2 rfl) ?_
                refine lv_iconst (v := 1) hx hb d_Mo_chunks_76 (by decide) ?_
                obtain ⟨u9, hu9, h⟩ := bd_some h
                refine x_cis (rest := []) (r_V C D (c_Mo_fieldLines l g hD 1 S6 u9 hu9) wc_Mo_fieldLines wm_Mo_282 wi_Mo_fieldLines wd_Mo_fieldLines (by decide) sh_66 kc_Mo.1 rfl rfl hl (Nat.le_of_ble_eq_true rfl) (by decide) d_Mo_chunks_77) D (fun H locs D => ?_)
                refine lv_istore_n (lv' := [(2, .int u9.1), (3, .int u4), (0, .ref (ga g 66)), (1, .int a1)]) hx hb d_Mo_chunks_80 rfl hl (by decide) rfl (fun ls hl => ?_)
                refine lv_aload_n hx hb d_Mo_chunks_81 rfl (lv_at hl 2 rfl) ?_
                refine lv_iload_n hx hb d_Mo_chunks_82 rfl (lv_at hl 0 rfl) ?_
                refine lv_if_ge hx hb d_Mo_chunks_83 rfl (fun z => ?_) (fun z => ?_)
                · replace h := if_t z h
                  refine lv_iload_n hx hb d_Mo_chunks_90 rfl (lv_at hl 0 rfl) ?_
                  refine lv_if_ne hx hb d_Mo_chunks_91 rfl (fun z => ?_) (fun z => ?_)
                  · replace h := if_f z h
                    refine lv_iconst (v := 2) hx hb d_Mo_chunks_98 (by decide) ?_
                    exact B99 _ _ _ _ _ h D (lv_sub hl [] rfl)
                  · replace h := if_t z h
                    refine lv_iconst (v := 1) hx hb d_Mo_chunks_94 (by decide) ?_
                    refine lv_goto hx hb d_Mo_chunks_95 rfl ?_
                    exact B99 _ _ _ _ _ h D (lv_sub hl [] rfl)
                · replace h := if_f z h
                  refine lv_iconst (v := 3) hx hb d_Mo_chunks_86 (by decide) ?_
                  refine lv_goto hx hb d_Mo_chunks_87 rfl ?_
                  exact B99 _ _ _ _ _ h D (lv_sub hl [] rfl)
            · replace h := if_f z h
              exact B55 _ _ _ _ h D (lv_sub hl [2] rfl)
        · replace h := if_f z h
          refine lv_aload_n hx hb d_Mo_chunks_21 rfl (lv_at hl 1 rfl) ?_
          refine lv_iload_n hx hb d_Mo_chunks_22 rfl (lv_at hl 0 rfl) ?_
          refine lv_if_ge hx hb d_Mo_chunks_23 rfl (fun z => ?_) (fun z => ?_)
          · replace h := if_t z h
            refine lv_iconst (v := 1) hx hb d_Mo_chunks_30 (by decide) ?_
            exact B31 _ _ _ _ _ h D (lv_sub hl [] rfl)
          · replace h := if_f z h
            refine lv_iconst (v := 3) hx hb d_Mo_chunks_26 (by decide) ?_
            refine lv_goto hx hb d_Mo_chunks_27 rfl ?_
            exact B31 _ _ _ _ _ h D (lv_sub hl [] rfl)
  unfold f_Mo_chunks at h
  refine lv_aload_n hx hb d_Mo_chunks_0 rfl (lv_at hl 0 rfl) ?_
  refine lv_iconst (v := 1) hx hb d_Mo_chunks_1 (by decide) ?_
  refine x_put C D kc_Mo (by decide) sh_66 23 rfl (by decide) wf_Mo_292 rfl rfl 1 rfl ⟨rfl, rfl⟩ d_Mo_chunks_2 h (fun S1 H locs h D => ?_)
  refine lv_iconst (v := 1) hx hb d_Mo_chunks_5 (by decide) ?_
  refine lv_istore_n (lv' := [(1, .int 1), (0, .ref (ga g 66))]) hx hb d_Mo_chunks_6 rfl hl (by decide) rfl (fun ls hl => ?_)
  exact L7 _ _ _ _ _ _ h D (lv_sub hl [1, 0] rfl)
theorem d_Mo_give_0 : decode b_Mo_give 0 = .ok (.iload_n 3, 1) := by decide +kernel
theorem d_Mo_give_1 : decode b_Mo_give 1 = .ok (.iload_n 2, 1) := by decide +kernel
theorem d_Mo_give_2 : decode b_Mo_give 2 = .ok (.isub, 1) := by decide +kernel
theorem d_Mo_give_3 : decode b_Mo_give 3 = .ok (.iconst 1, 1) := by decide +kernel
theorem d_Mo_give_4 : decode b_Mo_give 4 = .ok (.if_icmp .ne 16, 3) := by decide +kernel
theorem d_Mo_give_7 : decode b_Mo_give 7 = .ok (.aload_n 0, 1) := by decide +kernel
theorem d_Mo_give_8 : decode b_Mo_give 8 = .ok (.getfield 22, 3) := by decide +kernel
theorem d_Mo_give_11 : decode b_Mo_give 11 = .ok (.iload_n 2, 1) := by decide +kernel
theorem d_Mo_give_12 : decode b_Mo_give 12 = .ok (.iaload, 1) := by decide +kernel
theorem d_Mo_give_13 : decode b_Mo_give 13 = .ok (.ifCond .ne 7, 3) := by decide +kernel
theorem d_Mo_give_16 : decode b_Mo_give 16 = .ok (.iconst 1, 1) := by decide +kernel
theorem d_Mo_give_17 : decode b_Mo_give 17 = .ok (.goto 4, 3) := by decide +kernel
theorem d_Mo_give_20 : decode b_Mo_give 20 = .ok (.iconst 0, 1) := by decide +kernel
theorem d_Mo_give_21 : decode b_Mo_give 21 = .ok (.istore 6, 2) := by decide +kernel
theorem d_Mo_give_23 : decode b_Mo_give 23 = .ok (.iload 5, 2) := by decide +kernel
theorem d_Mo_give_25 : decode b_Mo_give 25 = .ok (.bipush 59, 2) := by decide +kernel
theorem d_Mo_give_27 : decode b_Mo_give 27 = .ok (.if_icmp .eq 17, 3) := by decide +kernel
theorem d_Mo_give_30 : decode b_Mo_give 30 = .ok (.iload 5, 2) := by decide +kernel
theorem d_Mo_give_32 : decode b_Mo_give 32 = .ok (.bipush 63, 2) := by decide +kernel
theorem d_Mo_give_34 : decode b_Mo_give 34 = .ok (.if_icmp .eq 10, 3) := by decide +kernel
theorem d_Mo_give_37 : decode b_Mo_give 37 = .ok (.iload 5, 2) := by decide +kernel
theorem d_Mo_give_39 : decode b_Mo_give 39 = .ok (.bipush 38, 2) := by decide +kernel
theorem d_Mo_give_41 : decode b_Mo_give 41 = .ok (.if_icmp .ne 26, 3) := by decide +kernel
theorem d_Mo_give_44 : decode b_Mo_give 44 = .ok (.aload_n 0, 1) := by decide +kernel
theorem d_Mo_give_45 : decode b_Mo_give 45 = .ok (.iload_n 1, 1) := by decide +kernel
theorem d_Mo_give_46 : decode b_Mo_give 46 = .ok (.invokevirtual 142, 3) := by decide +kernel
theorem d_Mo_give_49 : decode b_Mo_give 49 = .ok (.iload 6, 2) := by decide +kernel
theorem d_Mo_give_51 : decode b_Mo_give 51 = .ok (.ifCond .eq 10, 3) := by decide +kernel
theorem d_Mo_give_54 : decode b_Mo_give 54 = .ok (.iload 5, 2) := by decide +kernel
theorem d_Mo_give_56 : decode b_Mo_give 56 = .ok (.bipush 59, 2) := by decide +kernel
theorem d_Mo_give_58 : decode b_Mo_give 58 = .ok (.if_icmp .eq 9, 3) := by decide +kernel
theorem d_Mo_give_61 : decode b_Mo_give 61 = .ok (.aload_n 0, 1) := by decide +kernel
theorem d_Mo_give_62 : decode b_Mo_give 62 = .ok (.bipush 61, 2) := by decide +kernel
theorem d_Mo_give_64 : decode b_Mo_give 64 = .ok (.invokevirtual 142, 3) := by decide +kernel
theorem d_Mo_give_67 : decode b_Mo_give 67 = .ok (.iload_n 2, 1) := by decide +kernel
theorem d_Mo_give_68 : decode b_Mo_give 68 = .ok (.istore 7, 2) := by decide +kernel
theorem d_Mo_give_70 : decode b_Mo_give 70 = .ok (.iload 7, 2) := by decide +kernel
theorem d_Mo_give_72 : decode b_Mo_give 72 = .ok (.iload_n 3, 1) := by decide +kernel
theorem d_Mo_give_73 : decode b_Mo_give 73 = .ok (.if_icmp .ge 41, 3) := by decide +kernel
theorem d_Mo_give_76 : decode b_Mo_give 76 = .ok (.iload 7, 2) := by decide +kernel
theorem d_Mo_give_78 : decode b_Mo_give 78 = .ok (.iload_n 2, 1) := by decide +kernel
theorem d_Mo_give_79 : decode b_Mo_give 79 = .ok (.if_icmp .le 9, 3) := by decide +kernel
theorem d_Mo_give_82 : decode b_Mo_give 82 = .ok (.aload_n 0, 1) := by decide +kernel
theorem d_Mo_give_83 : decode b_Mo_give 83 = .ok (.bipush 44, 2) := by decide +kernel
theorem d_Mo_give_85 : decode b_Mo_give 85 = .ok (.invokevirtual 142, 3) := by decide +kernel
theorem d_Mo_give_88 : decode b_Mo_give 88 = .ok (.aload_n 0, 1) := by decide +kernel
theorem d_Mo_give_89 : decode b_Mo_give 89 = .ok (.iload 7, 2) := by decide +kernel
theorem d_Mo_give_91 : decode b_Mo_give 91 = .ok (.iload 4, 2) := by decide +kernel
theorem d_Mo_give_93 : decode b_Mo_give 93 = .ok (.iload 5, 2) := by decide +kernel
theorem d_Mo_give_95 : decode b_Mo_give 95 = .ok (.bipush 43, 2) := by decide +kernel
theorem d_Mo_give_97 : decode b_Mo_give 97 = .ok (.if_icmp .ne 7, 3) := by decide +kernel
theorem d_Mo_give_100 : decode b_Mo_give 100 = .ok (.iconst 1, 1) := by decide +kernel
theorem d_Mo_give_101 : decode b_Mo_give 101 = .ok (.goto 4, 3) := by decide +kernel
theorem d_Mo_give_104 : decode b_Mo_give 104 = .ok (.iconst 0, 1) := by decide +kernel
theorem d_Mo_give_105 : decode b_Mo_give 105 = .ok (.invokevirtual 164, 3) := by decide +kernel
theorem d_Mo_give_108 : decode b_Mo_give 108 = .ok (.iinc 7 1, 3) := by decide +kernel
theorem d_Mo_give_111 : decode b_Mo_give 111 = .ok (.goto (-41), 3) := by decide +kernel
theorem d_Mo_give_114 : decode b_Mo_give 114 = .ok (.return_, 1) := by decide +kernel
def f_Mo_give_105 (K70 : Int32 → Int32 → Int32 → Int32 → Int32 → zSt → Option zSt) (a2 : Int32) (a3 : Int32) (a4 : Int32) (a5 : Int32) (a7 : Int32) (t0 : Int32) (t1 : Int32) (t2 : Int32) (S : zSt) : Option zSt := ((f_Mo_encode t2 t1 t0 S).bind fun u3 => (K70 a2 a3 a4 a5 (a7 + 1) u3))
def f_Mo_give_88 (K70 : Int32 → Int32 → Int32 → Int32 → Int32 → zSt → Option zSt) (a2 : Int32) (a3 : Int32) (a4 : Int32) (a5 : Int32) (a7 : Int32) (S : zSt) : Option zSt := (if a5 = 43 then (f_Mo_give_105 K70 a2 a3 a4 a5 a7 1 a4 a7 S) else (f_Mo_give_105 K70 a2 a3 a4 a5 a7 0 a4 a7 S))
def f_Mo_give_70 : Nat → Int32 → Int32 → Int32 → Int32 → Int32 → zSt → Option zSt
  | 0, _, _, _, _, _, _ => none
  | n + 1, a2, a3, a4, a5, a7, S => (if a3 ≤ a7 then (some S) else (if a7 ≤ a2 then (f_Mo_give_88 (f_Mo_give_70 n) a2 a3 a4 a5 a7 S) else ((f_Mo_put 44 S).bind fun u4 => (f_Mo_give_88 (f_Mo_give_70 n) a2 a3 a4 a5 a7 u4))))
def f_Mo_give_67 (a2 : Int32) (a3 : Int32) (a4 : Int32) (a5 : Int32) (S : zSt) : Option zSt := (f_Mo_give_70 fu a2 a3 a4 a5 a2 S)
def f_Mo_give_61 (a2 : Int32) (a3 : Int32) (a4 : Int32) (a5 : Int32) (S : zSt) : Option zSt := ((f_Mo_put 61 S).bind fun u2 => (f_Mo_give_67 a2 a3 a4 a5 u2))
def f_Mo_give_44 (a1 : Int32) (a2 : Int32) (a3 : Int32) (a4 : Int32) (a5 : Int32) (a6 : Int32) (S : zSt) : Option zSt := ((f_Mo_put a1 S).bind fun u1 => (if a6 = 0 then (f_Mo_give_61 a2 a3 a4 a5 u1) else (if a5 = 59 then (f_Mo_give_67 a2 a3 a4 a5 u1) else (f_Mo_give_61 a2 a3 a4 a5 u1))))
def f_Mo_give_21 (a1 : Int32) (a2 : Int32) (a3 : Int32) (a4 : Int32) (a5 : Int32) (t0 : Int32) (S : zSt) : Option zSt := (if a5 = 59 then (f_Mo_give_44 a1 a2 a3 a4 a5 t0 S) else (if a5 = 63 then (f_Mo_give_44 a1 a2 a3 a4 a5 t0 S) else (if a5 = 38 then (f_Mo_give_44 a1 a2 a3 a4 a5 t0 S) else (f_Mo_give_67 a2 a3 a4 a5 S))))
def f_Mo_give_20 (a1 : Int32) (a2 : Int32) (a3 : Int32) (a4 : Int32) (a5 : Int32) (S : zSt) : Option zSt := (f_Mo_give_21 a1 a2 a3 a4 a5 0 S)
def f_Mo_give (a1 : Int32) (a2 : Int32) (a3 : Int32) (a4 : Int32) (a5 : Int32) (S : zSt) : Option zSt := (if (a3 - a2) = 1 then gdi a2 18 ((if (S 71 a2.toNatClampNeg) = 0 then (f_Mo_give_21 a1 a2 a3 a4 a5 1 S) else (f_Mo_give_20 a1 a2 a3 a4 a5 S))) else (f_Mo_give_20 a1 a2 a3 a4 a5 S))
set_option maxHeartbeats 4000000 in
set_option maxRecDepth 100000 in
theorem c_Mo_give (l : Launch) (g : zG) (hD : GD g) (a1 : Int32) (a2 : Int32) (a3 : Int32) (a4 : Int32) (a5 : Int32) (S : zSt) (u : zSt) (h : f_Mo_give a1 a2 a3 a4 a5 S = some u) : Met l y_Mo_give (mw y_Mo_give b_Mo_give 8 none) (rmD 5) (Pw g [.ref (ga g 66), .int a1, .int a2, .int a3, .int a4, .int a5] S) (Qvs g u) 0 0 (gA g) := by
  refine z_go (own := R_Mo) (lv0 := [(0, .ref (ga g 66)), (1, .int a1), (2, .int a2), (3, .int a3), (4, .int a4), (5, .int a5)]) hD (by decide) rfl (Nat.le_of_ble_eq_true rfl) rfl ?_
  intro p e s m args below meth c C D ls hl
  have hx := C.1
  have hb := C.2.1
  have hown := C.2.2.2.1
  have hts := C.2.2.2.2.1
  have B105 : ∀ (K70 : Int32 → Int32 → Int32 → Int32 → Int32 → zSt → Option zSt) (hK70 : ∀ (H : Heap) (locs : List Loc) (S : zSt) (ls : Array Slot) (a2 : Int32) (a3 : Int32) (a4 : Int32) (a5 : Int32) (a7 : Int32), K70 a2 a3 a4 a5 a7 S = some u → Dy g s S H locs → lv_has ls 8 [(0, .ref (ga g 66)), (2, .int a2), (3, .int a3), (4, .int a4), (5, .int a5), (7, .int a7)] → W p l e (rmD 5) s m args below meth c H locs 0 0 (MQ below (Qvs g u) args s 0 0 (gA g)) (F0 m 70 ls [])) (H : Heap) (locs : List Loc) (S : zSt) (ls : Array Slot) (a2 : Int32) (a3 : Int32) (a4 : Int32) (a5 : Int32) (a7 : Int32) (t0 : Int32) (t1 : Int32) (t2 : Int32), f_Mo_give_105 K70 a2 a3 a4 a5 a7 t0 t1 t2 S = some u → Dy g s S H locs → lv_has ls 8 [(0, .ref (ga g 66)), (2, .int a2), (3, .int a3), (4, .int a4), (5, .int a5), (7, .int a7)] → W p l e (rmD 5) s m args below meth c H locs 0 0 (MQ below (Qvs g u) args s 0 0 (gA g)) (F0 m 105 ls [.int t0, .int t1, .int t2, .ref (ga g 66)]) := by
    intro K70 hK70 H locs S ls a2 a3 a4 a5 a7 t0 t1 t2 h D hl
    unfold f_Mo_give_105 at h
    obtain ⟨u3, hu3, h⟩ := bd_some h
    refine x_cvs (rest := []) (r_V C D (c_Mo_encode l g hD t2 t1 t0 S u3 hu3) wc_Mo_encode wm_Mo_164 wi_Mo_encode wd_Mo_encode (by decide) sh_66 kc_Mo.1 rfl rfl hl (Nat.le_of_ble_eq_true rfl) (by decide) d_Mo_give_105) D (fun H locs D => ?_)
    refine lv_iinc (k := 5) (lv' := [(7, .int (a7 + 1)), (0, .ref (ga g 66)), (2, .int a2), (3, .int a3), (4, .int a4), (5, .int a5)]) hx hb d_Mo_give_108 hl rfl (ii1 _) (by decide) rfl (fun ls hl => ?_)
    refine lv_goto hx hb d_Mo_give_111 rfl ?_
    exact hK70 _ _ _ _ _ _ _ _ _ h D (lv_sub hl [1, 2, 3, 4, 5, 0] rfl)
  have B88 : ∀ (K70 : Int32 → Int32 → Int32 → Int32 → Int32 → zSt → Option zSt) (hK70 : ∀ (H : Heap) (locs : List Loc) (S : zSt) (ls : Array Slot) (a2 : Int32) (a3 : Int32) (a4 : Int32) (a5 : Int32) (a7 : Int32), K70 a2 a3 a4 a5 a7 S = some u → Dy g s S H locs → lv_has ls 8 [(0, .ref (ga g 66)), (2, .int a2), (3, .int a3), (4, .int a4), (5, .int a5), (7, .int a7)] → W p l e (rmD 5) s m args below meth c H locs 0 0 (MQ below (Qvs g u) args s 0 0 (gA g)) (F0 m 70 ls [])) (H : Heap) (locs : List Loc) (S : zSt) (ls : Array Slot) (a2 : Int32) (a3 : Int32) (a4 : Int32) (a5 : Int32) (a7 : Int32), f_Mo_give_88 K70 a2 a3 a4 a5 a7 S = some u → Dy g s S H locs → lv_has ls 8 [(0, .ref (ga g 66)), (2, .int a2), (3, .int a3), (4, .int a4), (5, .int a5), (7, .int a7)] → W p l e (rmD 5) s m args below meth c H locs 0 0 (MQ below (Qvs g u) args s 0 0 (gA g)) (F0 m 88 ls []) := by
    intro K70 hK70 H locs S ls a2 a3 a4 a5 a7 h D hl
    unfold f_Mo_give_88 at h
    refine lv_aload_n hx hb d_Mo_give_88 rfl (lv_at hl 0 rfl) ?_
    refine lv_iload hx hb d_Mo_give_89 (lv_at hl 5 rfl) ?_
    refine lv_iload hx hb d_Mo_give_91 (lv_at hl 3 rfl) ?_
    refine lv_iload hx hb d_Mo_give_93 (lv_at hl 4 rfl) ?_
    refine lv_bipush (v := 43) hx hb d_Mo_give_95 (by decide) ?_
    refine lv_icmp_ne hx hb d_Mo_give_97 rfl (fun z => ?_) (fun z => ?_)
    · replace h := if_f z h
      refine lv_iconst (v := 0) hx hb d_Mo_give_104 (by decide) ?_
      exact B105 _ hK70 _ _ _ _ _ _ _ _ _ _ _ _ h D (lv_sub hl [0, 1, 2, 3, 4, 5] rfl)
    · replace h := if_t z h
      refine lv_iconst (v := 1) hx hb d_Mo_give_100 (by decide) ?_
      refine lv_goto hx hb d_Mo_give_101 rfl ?_
      exact B105 _ hK70 _ _ _ _ _ _ _ _ _ _ _ _ h D (lv_sub hl [0, 1, 2, 3, 4, 5] rfl)
  have L70 : ∀ (n : Nat) (H : Heap) (locs : List Loc) (S : zSt) (ls : Array Slot) (a2 : Int32) (a3 : Int32) (a4 : Int32) (a5 : Int32) (a7 : Int32), f_Mo_give_70 n a2 a3 a4 a5 a7 S = some u → Dy g s S H locs → lv_has ls 8 [(0, .ref (ga g 66)), (2, .int a2), (3, .int a3), (4, .int a4), (5, .int a5), (7, .int a7)] → W p l e (rmD 5) s m args below meth c H locs 0 0 (MQ below (Qvs g u) args s 0 0 (gA g)) (F0 m 70 ls []) := by
    intro n
    induction n with
    | zero => intro H locs S ls a2 a3 a4 a5 a7 h D hl; rw [f_Mo_give_70] at h; cases h
    | succ n hK70 =>
      intro H locs S ls a2 a3 a4 a5 a7 h D hl
      rw [f_Mo_give_70] at h
      refine lv_iload hx hb d_Mo_give_70 (lv_at hl 5 rfl) ?_
      refine lv_iload_n hx hb d_Mo_give_72 rfl (lv_at hl 2 rfl) ?_
      refine lv_icmp_ge hx hb d_Mo_give_73 rfl (fun z => ?_) (fun z => ?_)
      · replace h := if_t z h
        exact x_vrs C D h d_Mo_give_114
      · replace h := if_f z h
        refine lv_iload hx hb d_Mo_give_76 (lv_at hl 5 rfl) ?_
        refine lv_iload_n hx hb d_Mo_give_78 rfl (lv_at hl 1 rfl) ?_
        refine lv_icmp_le hx hb d_Mo_give_79 rfl (fun z => ?_) (fun z => ?_)
        · replace h := if_t z h
          exact B88 _ hK70 _ _ _ _ _ _ _ _ _ h D (lv_sub hl [0, 1, 2, 3, 4, 5] rfl)
        · replace h := if_f z h
          refine lv_aload_n hx hb d_Mo_give_82 rfl (lv_at hl 0 rfl) ?_
          refine lv_bipush (v := 44) hx hb d_Mo_give_83 (by decide) ?_
          obtain ⟨u4, hu4, h⟩ := bd_some h
          refine x_cvs (rest := []) (r_V C D (c_Mo_put l g hD 44 S u4 hu4) wc_Mo_put wm_Mo_142 wi_Mo_put wd_Mo_put (by decide) sh_66 kc_Mo.1 rfl rfl hl (Nat.le_of_ble_eq_true rfl) (by decide) d_Mo_give_85) D (fun H locs D => ?_)
          exact B88 _ hK70 _ _ _ _ _ _ _ _ _ h D (lv_sub hl [0, 1, 2, 3, 4, 5] rfl)
  have B67 : ∀ (H : Heap) (locs : List Loc) (S : zSt) (ls : Array Slot) (a2 : Int32) (a3 : Int32) (a4 : Int32) (a5 : Int32), f_Mo_give_67 a2 a3 a4 a5 S = some u → Dy g s S H locs → lv_has ls 8 [(0, .ref (ga g 66)), (2, .int a2), (3, .int a3), (4, .int a4), (5, .int a5)] → W p l e (rmD 5) s m args below meth c H locs 0 0 (MQ below (Qvs g u) args s 0 0 (gA g)) (F0 m 67 ls []) := by
    intro H locs S ls a2 a3 a4 a5 h D hl
    unfold f_Mo_give_67 at h
    refine lv_iload_n hx hb d_Mo_give_67 rfl (lv_at hl 1 rfl) ?_
    refine lv_istore (lv' := [(7, .int a2), (0, .ref (ga g 66)), (2, .int a2), (3, .int a3), (4, .int a4), (5, .int a5)]) hx hb d_Mo_give_68 hl (by decide) rfl (fun ls hl => ?_)
    exact L70 _ _ _ _ _ _ _ _ _ _ h D (lv_sub hl [1, 2, 3, 4, 5, 0] rfl)
  have B61 : ∀ (H : Heap) (locs : List Loc) (S : zSt) (ls : Array Slot) (a2 : Int32) (a3 : Int32) (a4 : Int32) (a5 : Int32), f_Mo_give_61 a2 a3 a4 a5 S = some u → Dy g s S H locs → lv_has ls 8 [(0, .ref (ga g 66)), (2, .int a2), (3, .int a3), (4, .int a4), (5, .int a5)] → W p l e (rmD 5) s m args below meth c H locs 0 0 (MQ below (Qvs g u) args s 0 0 (gA g)) (F0 m 61 ls []) := by
    intro H locs S ls a2 a3 a4 a5 h D hl
    unfold f_Mo_give_61 at h
    refine lv_aload_n hx hb d_Mo_give_61 rfl (lv_at hl 0 rfl) ?_
    refine lv_bipush (v := 61) hx hb d_Mo_give_62 (by decide) ?_
    obtain ⟨u2, hu2, h⟩ := bd_some h
    refine x_cvs (rest := []) (r_V C D (c_Mo_put l g hD 61 S u2 hu2) wc_Mo_put wm_Mo_142 wi_Mo_put wd_Mo_put (by decide) sh_66 kc_Mo.1 rfl rfl hl (Nat.le_of_ble_eq_true rfl) (by decide) d_Mo_give_64) D (fun H locs D => ?_)
    exact B67 _ _ _ _ _ _ _ _ h D (lv_sub hl [0, 1, 2, 3, 4] rfl)
  have B44 : ∀ (H : Heap) (locs : List Loc) (S : zSt) (ls : Array Slot) (a1 : Int32) (a2 : Int32) (a3 : Int32) (a4 : Int32) (a5 : Int32) (a6 : Int32), f_Mo_give_44 a1 a2 a3 a4 a5 a6 S = some u → Dy g s S H locs → lv_has ls 8 [(0, .ref (ga g 66)), (1, .int a1), (2, .int a2), (3, .int a3), (4, .int a4), (5, .int a5), (6, .int a6)] → W p l e (rmD 5) s m args below meth c H locs 0 0 (MQ below (Qvs g u) args s 0 0 (gA g)) (F0 m 44 ls []) := by
    intro H locs S ls a1 a2 a3 a4 a5 a6 h D hl
    unfold f_Mo_give_44 at h
    refine lv_aload_n hx hb d_Mo_give_44 rfl (lv_at hl 0 rfl) ?_
    refine lv_iload_n hx hb d_Mo_give_45 rfl (lv_at hl 1 rfl) ?_
    obtain ⟨u1, hu1, h⟩ := bd_some h
    refine x_cvs (rest := []) (r_V C D (c_Mo_put l g hD a1 S u1 hu1) wc_Mo_put wm_Mo_142 wi_Mo_put wd_Mo_put (by decide) sh_66 kc_Mo.1 rfl rfl hl (Nat.le_of_ble_eq_true rfl) (by decide) d_Mo_give_46) D (fun H locs D => ?_)
    refine lv_iload hx hb d_Mo_give_49 (lv_at hl 6 rfl) ?_
    refine lv_if_eq hx hb d_Mo_give_51 rfl (fun z => ?_) (fun z => ?_)
    · replace h := if_t z h
      exact B61 _ _ _ _ _ _ _ _ h D (lv_sub hl [0, 2, 3, 4, 5] rfl)
    · replace h := if_f z h
      refine lv_iload hx hb d_Mo_give_54 (lv_at hl 5 rfl) ?_
      refine lv_bipush (v := 59) hx hb d_Mo_give_56 (by decide) ?_
      refine lv_icmp_eq hx hb d_Mo_give_58 rfl (fun z => ?_) (fun z => ?_)
      · replace h := if_t z h
        exact B67 _ _ _ _ _ _ _ _ h D (lv_sub hl [0, 2, 3, 4, 5] rfl)
      · replace h := if_f z h
        exact B61 _ _ _ _ _ _ _ _ h D (lv_sub hl [0, 2, 3, 4, 5] rfl)
  have B21 : ∀ (H : Heap) (locs : List Loc) (S : zSt) (ls : Array Slot) (a1 : Int32) (a2 : Int32) (a3 : Int32) (a4 : Int32) (a5 : Int32) (t0 : Int32), f_Mo_give_21 a1 a2 a3 a4 a5 t0 S = some u → Dy g s S H locs → lv_has ls 8 [(0, .ref (ga g 66)), (1, .int a1), (2, .int a2), (3, .int a3), (4, .int a4), (5, .int a5)] → W p l e (rmD 5) s m args below meth c H locs 0 0 (MQ below (Qvs g u) args s 0 0 (gA g)) (F0 m 21 ls [.int t0]) := by
    intro H locs S ls a1 a2 a3 a4 a5 t0 h D hl
    unfold f_Mo_give_21 at h
    refine lv_istore (lv' := [(6, .int t0), (0, .ref (ga g 66)), (1, .int a1), (2, .int a2), (3, .int a3), (4, .int a4), (5, .int a5)]) hx hb d_Mo_give_21 hl (by decide) rfl (fun ls hl => ?_)
    refine lv_iload hx hb d_Mo_give_23 (lv_at hl 6 rfl) ?_
    refine lv_bipush (v := 59) hx hb d_Mo_give_25 (by decide) ?_
    refine lv_icmp_eq hx hb d_Mo_give_27 rfl (fun z => ?_) (fun z => ?_)
    · replace h := if_t z h
      exact B44 _ _ _ _ _ _ _ _ _ _ h D (lv_sub hl [1, 2, 3, 4, 5, 6, 0] rfl)
    · replace h := if_f z h
      refine lv_iload hx hb d_Mo_give_30 (lv_at hl 6 rfl) ?_
      refine lv_bipush (v := 63) hx hb d_Mo_give_32 (by decide) ?_
      refine lv_icmp_eq hx hb d_Mo_give_34 rfl (fun z => ?_) (fun z => ?_)
      · replace h := if_t z h
        exact B44 _ _ _ _ _ _ _ _ _ _ h D (lv_sub hl [1, 2, 3, 4, 5, 6, 0] rfl)
      · replace h := if_f z h
        refine lv_iload hx hb d_Mo_give_37 (lv_at hl 6 rfl) ?_
        refine lv_bipush (v := 38) hx hb d_Mo_give_39 (by decide) ?_
        refine lv_icmp_ne hx hb d_Mo_give_41 rfl (fun z => ?_) (fun z => ?_)
        · replace h := if_f z h
          exact B67 _ _ _ _ _ _ _ _ h D (lv_sub hl [1, 3, 4, 5, 6] rfl)
        · replace h := if_t z h
          exact B44 _ _ _ _ _ _ _ _ _ _ h D (lv_sub hl [1, 2, 3, 4, 5, 6, 0] rfl)
  have B20 : ∀ (H : Heap) (locs : List Loc) (S : zSt) (ls : Array Slot) (a1 : Int32) (a2 : Int32) (a3 : Int32) (a4 : Int32) (a5 : Int32), f_Mo_give_20 a1 a2 a3 a4 a5 S = some u → Dy g s S H locs → lv_has ls 8 [(0, .ref (ga g 66)), (1, .int a1), (2, .int a2), (3, .int a3), (4, .int a4), (5, .int a5)] → W p l e (rmD 5) s m args below meth c H locs 0 0 (MQ below (Qvs g u) args s 0 0 (gA g)) (F0 m 20 ls []) := by
    intro H locs S ls a1 a2 a3 a4 a5 h D hl
    unfold f_Mo_give_20 at h
    refine lv_iconst (v := 0) hx hb d_Mo_give_20 (by decide) ?_
    exact B21 _ _ _ _ _ _ _ _ _ _ h D (lv_sub hl [0, 1, 2, 3, 4, 5] rfl)
  unfold f_Mo_give at h
  refine lv_iload_n hx hb d_Mo_give_0 rfl (lv_at hl 3 rfl) ?_
  refine lv_iload_n hx hb d_Mo_give_1 rfl (lv_at hl 2 rfl) ?_
  refine lv_isub hx hb d_Mo_give_2 ?_
  refine lv_iconst (v := 1) hx hb d_Mo_give_3 (by decide) ?_
  refine lv_icmp_ne hx hb d_Mo_give_4 rfl (fun z => ?_) (fun z => ?_)
  · replace h := if_f z h
    exact B20 _ _ _ _ _ _ _ _ _ h D (lv_sub hl [0, 1, 2, 3, 4, 5] rfl)
  · replace h := if_t z h
    refine lv_aload_n hx hb d_Mo_give_7 rfl (lv_at hl 0 rfl) ?_
    refine x_get (v := .ref (ga g 71)) C D kc_Mo (by decide) sh_66 7 rfl (by decide) wf_Mo_22 rfl rfl d_Mo_give_8 ?_
    refine lv_iload_n hx hb d_Mo_give_11 rfl (lv_at hl 2 rfl) ?_
    refine x_iald C D (by decide) sh_71 d_Mo_give_12 h (fun _ h => ?_)
    refine lv_if_ne hx hb d_Mo_give_13 rfl (fun z => ?_) (fun z => ?_)
    · replace h := if_f z h
      exact B20 _ _ _ _ _ _ _ _ _ h D (lv_sub hl [0, 1, 2, 3, 4, 5] rfl)
    · replace h := if_t z h
      refine lv_iconst (v := 1) hx hb d_Mo_give_16 (by decide) ?_
      refine lv_goto hx hb d_Mo_give_17 rfl ?_
      exact B21 _ _ _ _ _ _ _ _ _ _ h D (lv_sub hl [0, 1, 2, 3, 4, 5] rfl)
