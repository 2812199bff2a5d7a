-- rows for the law's walk: any room, any cells
section KC3
variable {p : Program} {l : Launch} {e : Env} {R : Room} {s : State} {m : MethodId} {args : Array Value} {below : List Frame} {meth : Method} {c : Code} {H : Heap} {locs : List Loc} {cells slots : Nat} {Q : State → Prop}
variable {cc : ByteArray} {pc nL : Nat} {ls : Array Slot} {rest : List Value} {own : String} {ret : Option FieldType} {g : zG} {S : zSt} {α : Type} {out : α}
variable {y : MethodName} {b : ByteArray} {nM d' idx n i ci N : Nat} {T : u_T} {fl : List (Option Nat)} {r' : Option FieldType} {As : List Value} {Qc : Array Value → State → Outcome → State → Prop}
theorem k_V (C0 : Cx p s m args meth c cc own nL ret g) (D0 : Dy g s S H locs) (hM : Met l y (mw y b nM r') (rmD d') (Pw g (.ref (ga g i) :: As) S) Qc 0 0 (gA g)) (hc : Cond.code y b nM r' ∈ WS) (hl : Cond.methodLink own idx y ∈ WS) (hy : Cond.instanceMethod y ∈ WS ∧ Cond.selects y.cls y y ∈ WS ∧ Cond.initialized y.cls ∈ WS) (hd : zHd y n) (hi : i < nC) (hs : sh i = .inr (.inr (ci, fl))) (kc : classes[ci]? = some (y.cls, T, N)) (hn : As.length = n) {st0 : List Value} (hst : st0 = As.reverse ++ .ref (ga g i) :: rest) {lv0 : List (Nat × Value)} (hz : lv_has ls nL lv0) (hr : (rest.map fun v => v.category).sum ≤ 8) (hv : d' + 1 ≤ R.frames ∧ 8 + (nM + 11) + 60 * d' ≤ R.locals) (hf : cells ≤ R.cells ∧ slots ≤ R.slots) (hdg : decode cc pc = .ok (.invokevirtual idx, 3)) :
    va_Run p l e R s m args below meth c H locs cells slots 0 0 (F0 m pc ls st0) rest (Qc (Value.ref (ga g i) :: As).toArray) (gA g) := by
  subst hst
  have hts := C0.2.2.2.2.1
  exact va_runV (Ts := WS) (C := y.cls) ⟨C0.1, C0.2.1, C0.2.2.1, C0.2.2.2.1, hts⟩ hM ⟨callB_of n hts (ws_good hc) rfl rfl rfl (hts _ hy.2.2) (hts _ hl) hd hv, hts _ hy.1, hts _ hy.2.1⟩ ⟨Pw_blind, z_recv C0 D0 hi hs kc, z_pre C0 D0⟩ rfl hn hz.1 rfl (lv_room hr) hdg hf
theorem k_cip {a : Array Value} {st0 : List Value} {u : Int32} (hr : va_Run p l e R s m args below meth c H locs cells slots 0 0 (F0 m pc ls st0) rest (Qip g S u a) (gA g)) (D0 : Dy g s S H locs) (kk : ∀ (H1 : Heap) (locs1 : List Loc), Dy g s S H1 locs1 → W p l e R s m args below meth c H1 locs1 cells slots Q (F0 m (pc + 3) ls (.int u :: rest))) : W p l e R s m args below meth c H locs cells slots Q (F0 m pc ls st0) := by
  refine va_calli hr D0.2 (fun q _ h => h) (fun q h => h) (fun r v t H1 locs1 ht hvm hp hB hz hk hS => ?_)
  obtain ⟨rfl, rfl⟩ := hp
  exact kk H1 locs1 ⟨by rw [← ht]; exact hB, hS⟩
theorem k_cis {a : Array Value} {st0 : List Value} {u : Int32 × zSt} (hr : va_Run p l e R s m args below meth c H locs cells slots 0 0 (F0 m pc ls st0) rest (Qis g u a) (gA g)) (D0 : Dy g s S H locs) (kk : ∀ (H1 : Heap) (locs1 : List Loc), Dy g s u.2 H1 locs1 → W p l e R s m args below meth c H1 locs1 cells slots Q (F0 m (pc + 3) ls (.int u.1 :: rest))) : W p l e R s m args below meth c H locs cells slots Q (F0 m pc ls st0) := by
  refine va_calli hr D0.2 (fun q _ h => h) (fun q h => h) (fun r v t H1 locs1 ht hvm hp hB hz hk hS => ?_)
  subst hp
  exact kk H1 locs1 ⟨by rw [← ht]; exact hB, hS⟩
theorem k_cvs {a : Array Value} {st0 : List Value} {u : zSt} (hr : va_Run p l e R s m args below meth c H locs cells slots 0 0 (F0 m pc ls st0) rest (Qvs g u a) (gA g)) (D0 : Dy g s S H locs) (kk : ∀ (H1 : Heap) (locs1 : List Loc), Dy g s u H1 locs1 → W p l e R s m args below meth c H1 locs1 cells slots Q (F0 m (pc + 3) ls rest)) : W p l e R s m args below meth c H locs cells slots Q (F0 m pc ls st0) := by
  refine va_callv hr D0.2 (fun q _ h => h) (fun q h => h) (fun v t H1 locs1 ht hvm hp hB hz hk hS => ?_)
  subst hp
  exact kk H1 locs1 ⟨by rw [← ht]; exact hB, hS⟩
theorem x_sld (C0 : Cx p s m args meth c cc own nL ret g) (D0 : Dy g s S H locs) {b L : Nat} {xs : Nat → Int32} (hX : va_X b L xs s s.heap) (hbl : b < s.heap.size) (hbA : ¬ gA g b) {j : Int32} (hdg : decode cc pc = .ok (.iaload, 1)) {X : Option α} (h : gdi j L X = some out)
    (kk : j.toNatClampNeg < L → X = some out → W p l e R s m args below meth c H locs cells slots Q (F0 m (pc + 1) ls (.int (xs j.toNatClampNeg) :: rest))) : W p l e R s m args below meth c H locs cells slots Q (F0 m pc ls (.int j :: .ref b :: rest)) := by
  obtain ⟨h1, h2, h3⟩ := gdi_some h
  exact va_sld C0.1 C0.2.1 hX hbl hbA D0.2 h1 hdg (kk h2 h3)
theorem x_slen (C0 : Cx p s m args meth c cc own nL ret g) (D0 : Dy g s S H locs) {b L : Nat} {xs : Nat → Int32} (hX : va_X b L xs s s.heap) (hbl : b < s.heap.size) (hbA : ¬ gA g b) (hdg : decode cc pc = .ok (.arraylength, 1))
    (kk : W p l e R s m args below meth c H locs cells slots Q (F0 m (pc + 1) ls (.int (Int32.ofNat L) :: rest))) : W p l e R s m args below meth c H locs cells slots Q (F0 m pc ls (.ref b :: rest)) := va_slen C0.1 C0.2.1 hX hbl hbA D0.2 hdg kk
end KC3
theorem d_law_0 : decode code 0 = .ok (.new 7, 3) := by decide +kernel
theorem d_law_3 : decode code 3 = .ok (.dup, 1) := by decide +kernel
theorem d_law_4 : decode code 4 = .ok (.invokespecial 9, 3) := by decide +kernel
theorem d_law_7 : decode code 7 = .ok (.astore_n 1, 1) := by decide +kernel
theorem d_law_8 : decode code 8 = .ok (.new 10, 3) := by decide +kernel
theorem d_law_11 : decode code 11 = .ok (.dup, 1) := by decide +kernel
theorem d_law_12 : decode code 12 = .ok (.invokespecial 12, 3) := by decide +kernel
theorem d_law_15 : decode code 15 = .ok (.astore_n 2, 1) := by decide +kernel
theorem d_law_16 : decode code 16 = .ok (.iconst 0, 1) := by decide +kernel
theorem d_law_17 : decode code 17 = .ok (.istore_n 3, 1) := by decide +kernel
theorem d_law_18 : decode code 18 = .ok (.iload_n 3, 1) := by decide +kernel
theorem d_law_19 : decode code 19 = .ok (.aload_n 0, 1) := by decide +kernel
theorem d_law_20 : decode code 20 = .ok (.arraylength, 1) := by decide +kernel
theorem d_law_21 : decode code 21 = .ok (.iconst 3, 1) := by decide +kernel
theorem d_law_22 : decode code 22 = .ok (.isub, 1) := by decide +kernel
theorem d_law_23 : decode code 23 = .ok (.if_icmp .gt 434, 3) := by decide +kernel
theorem d_law_26 : decode code 26 = .ok (.aload_n 0, 1) := by decide +kernel
theorem d_law_27 : decode code 27 = .ok (.iload_n 3, 1) := by decide +kernel
theorem d_law_28 : decode code 28 = .ok (.iaload, 1) := by decide +kernel
theorem d_law_29 : decode code 29 = .ok (.bipush 31, 2) := by decide +kernel
theorem d_law_31 : decode code 31 = .ok (.iand, 1) := by decide +kernel
theorem d_law_32 : decode code 32 = .ok (.tableswitch 419 0 16 #[84, 107, 132, 167, 180, 203, 238, 261, 274, 297, 320, 333, 344, 357, 370, 383, 396], 84) := by decide +kernel
theorem d_law_116 : decode code 116 = .ok (.aload_n 1, 1) := by decide +kernel
theorem d_law_117 : decode code 117 = .ok (.aload_n 0, 1) := by decide +kernel
theorem d_law_118 : decode code 118 = .ok (.iload_n 3, 1) := by decide +kernel
theorem d_law_119 : decode code 119 = .ok (.iconst 1, 1) := by decide +kernel
theorem d_law_120 : decode code 120 = .ok (.iadd, 1) := by decide +kernel
theorem d_law_121 : decode code 121 = .ok (.iaload, 1) := by decide +kernel
theorem d_law_122 : decode code 122 = .ok (.invokevirtual 13, 3) := by decide +kernel
theorem d_law_125 : decode code 125 = .ok (.aload_n 2, 1) := by decide +kernel
theorem d_law_126 : decode code 126 = .ok (.aload_n 0, 1) := by decide +kernel
theorem d_law_127 : decode code 127 = .ok (.iload_n 3, 1) := by decide +kernel
theorem d_law_128 : decode code 128 = .ok (.iconst 1, 1) := by decide +kernel
theorem d_law_129 : decode code 129 = .ok (.iadd, 1) := by decide +kernel
theorem d_law_130 : decode code 130 = .ok (.iaload, 1) := by decide +kernel
theorem d_law_131 : decode code 131 = .ok (.invokevirtual 17, 3) := by decide +kernel
theorem d_law_134 : decode code 134 = .ok (.if_icmp .eq 317, 3) := by decide +kernel
theorem d_law_137 : decode code 137 = .ok (.iconst 0, 1) := by decide +kernel
theorem d_law_138 : decode code 138 = .ok (.ireturn, 1) := by decide +kernel
theorem d_law_139 : decode code 139 = .ok (.aload_n 1, 1) := by decide +kernel
theorem d_law_140 : decode code 140 = .ok (.aload_n 0, 1) := by decide +kernel
theorem d_law_141 : decode code 141 = .ok (.iload_n 3, 1) := by decide +kernel
theorem d_law_142 : decode code 142 = .ok (.iconst 1, 1) := by decide +kernel
theorem d_law_143 : decode code 143 = .ok (.iadd, 1) := by decide +kernel
theorem d_law_144 : decode code 144 = .ok (.iaload, 1) := by decide +kernel
theorem d_law_145 : decode code 145 = .ok (.i2c, 1) := by decide +kernel
theorem d_law_146 : decode code 146 = .ok (.invokevirtual 18, 3) := by decide +kernel
theorem d_law_149 : decode code 149 = .ok (.aload_n 2, 1) := by decide +kernel
theorem d_law_150 : decode code 150 = .ok (.aload_n 0, 1) := by decide +kernel
theorem d_law_151 : decode code 151 = .ok (.iload_n 3, 1) := by decide +kernel
theorem d_law_152 : decode code 152 = .ok (.iconst 1, 1) := by decide +kernel
theorem d_law_153 : decode code 153 = .ok (.iadd, 1) := by decide +kernel
theorem d_law_154 : decode code 154 = .ok (.iaload, 1) := by decide +kernel
theorem d_law_155 : decode code 155 = .ok (.i2c, 1) := by decide +kernel
theorem d_law_156 : decode code 156 = .ok (.invokevirtual 22, 3) := by decide +kernel
theorem d_law_159 : decode code 159 = .ok (.if_icmp .eq 292, 3) := by decide +kernel
theorem d_law_162 : decode code 162 = .ok (.iconst 0, 1) := by decide +kernel
theorem d_law_163 : decode code 163 = .ok (.ireturn, 1) := by decide +kernel
theorem d_law_164 : decode code 164 = .ok (.aload_n 1, 1) := by decide +kernel
theorem d_law_165 : decode code 165 = .ok (.aload_n 0, 1) := by decide +kernel
theorem d_law_166 : decode code 166 = .ok (.iload_n 3, 1) := by decide +kernel
theorem d_law_167 : decode code 167 = .ok (.iconst 1, 1) := by decide +kernel
theorem d_law_168 : decode code 168 = .ok (.iadd, 1) := by decide +kernel
theorem d_law_169 : decode code 169 = .ok (.iaload, 1) := by decide +kernel
theorem d_law_170 : decode code 170 = .ok (.aload_n 0, 1) := by decide +kernel
theorem d_law_171 : decode code 171 = .ok (.iload_n 3, 1) := by decide +kernel
theorem d_law_172 : decode code 172 = .ok (.iconst 2, 1) := by decide +kernel
theorem d_law_173 : decode code 173 = .ok (.iadd, 1) := by decide +kernel
theorem d_law_174 : decode code 174 = .ok (.iaload, 1) := by decide +kernel
theorem d_law_175 : decode code 175 = .ok (.i2c, 1) := by decide +kernel
theorem d_law_176 : decode code 176 = .ok (.invokevirtual 23, 3) := by decide +kernel
theorem d_law_179 : decode code 179 = .ok (.aload_n 2, 1) := by decide +kernel
theorem d_law_180 : decode code 180 = .ok (.aload_n 0, 1) := by decide +kernel
theorem d_law_181 : decode code 181 = .ok (.iload_n 3, 1) := by decide +kernel
theorem d_law_182 : decode code 182 = .ok (.iconst 1, 1) := by decide +kernel
theorem d_law_183 : decode code 183 = .ok (.iadd, 1) := by decide +kernel
theorem d_law_184 : decode code 184 = .ok (.iaload, 1) := by decide +kernel
theorem d_law_185 : decode code 185 = .ok (.aload_n 0, 1) := by decide +kernel
theorem d_law_186 : decode code 186 = .ok (.iload_n 3, 1) := by decide +kernel
theorem d_law_187 : decode code 187 = .ok (.iconst 2, 1) := by decide +kernel
theorem d_law_188 : decode code 188 = .ok (.iadd, 1) := by decide +kernel
theorem d_law_189 : decode code 189 = .ok (.iaload, 1) := by decide +kernel
theorem d_law_190 : decode code 190 = .ok (.i2c, 1) := by decide +kernel
theorem d_law_191 : decode code 191 = .ok (.invokevirtual 27, 3) := by decide +kernel
theorem d_law_194 : decode code 194 = .ok (.if_icmp .eq 257, 3) := by decide +kernel
theorem d_law_197 : decode code 197 = .ok (.iconst 0, 1) := by decide +kernel
theorem d_law_198 : decode code 198 = .ok (.ireturn, 1) := by decide +kernel
theorem d_law_199 : decode code 199 = .ok (.aload_n 1, 1) := by decide +kernel
theorem d_law_200 : decode code 200 = .ok (.invokevirtual 28, 3) := by decide +kernel
theorem d_law_203 : decode code 203 = .ok (.aload_n 2, 1) := by decide +kernel
theorem d_law_204 : decode code 204 = .ok (.invokevirtual 32, 3) := by decide +kernel
theorem d_law_207 : decode code 207 = .ok (.if_icmp .eq 244, 3) := by decide +kernel
theorem d_law_210 : decode code 210 = .ok (.iconst 0, 1) := by decide +kernel
theorem d_law_211 : decode code 211 = .ok (.ireturn, 1) := by decide +kernel
theorem d_law_212 : decode code 212 = .ok (.aload_n 1, 1) := by decide +kernel
theorem d_law_213 : decode code 213 = .ok (.aload_n 0, 1) := by decide +kernel
theorem d_law_214 : decode code 214 = .ok (.iload_n 3, 1) := by decide +kernel
theorem d_law_215 : decode code 215 = .ok (.iconst 1, 1) := by decide +kernel
theorem d_law_216 : decode code 216 = .ok (.iadd, 1) := by decide +kernel
theorem d_law_217 : decode code 217 = .ok (.iaload, 1) := by decide +kernel
theorem d_law_218 : decode code 218 = .ok (.invokevirtual 33, 3) := by decide +kernel
theorem d_law_221 : decode code 221 = .ok (.aload_n 2, 1) := by decide +kernel
theorem d_law_222 : decode code 222 = .ok (.aload_n 0, 1) := by decide +kernel
theorem d_law_223 : decode code 223 = .ok (.iload_n 3, 1) := by decide +kernel
theorem d_law_224 : decode code 224 = .ok (.iconst 1, 1) := by decide +kernel
theorem d_law_225 : decode code 225 = .ok (.iadd, 1) := by decide +kernel
theorem d_law_226 : decode code 226 = .ok (.iaload, 1) := by decide +kernel
theorem d_law_227 : decode code 227 = .ok (.invokevirtual 36, 3) := by decide +kernel
theorem d_law_230 : decode code 230 = .ok (.if_icmp .eq 221, 3) := by decide +kernel
theorem d_law_233 : decode code 233 = .ok (.iconst 0, 1) := by decide +kernel
theorem d_law_234 : decode code 234 = .ok (.ireturn, 1) := by decide +kernel
theorem d_law_235 : decode code 235 = .ok (.aload_n 1, 1) := by decide +kernel
theorem d_law_236 : decode code 236 = .ok (.aload_n 0, 1) := by decide +kernel
theorem d_law_237 : decode code 237 = .ok (.iload_n 3, 1) := by decide +kernel
theorem d_law_238 : decode code 238 = .ok (.iconst 1, 1) := by decide +kernel
theorem d_law_239 : decode code 239 = .ok (.iadd, 1) := by decide +kernel
theorem d_law_240 : decode code 240 = .ok (.iaload, 1) := by decide +kernel
theorem d_law_241 : decode code 241 = .ok (.aload_n 0, 1) := by decide +kernel
theorem d_law_242 : decode code 242 = .ok (.iload_n 3, 1) := by decide +kernel
theorem d_law_243 : decode code 243 = .ok (.iconst 2, 1) := by decide +kernel
theorem d_law_244 : decode code 244 = .ok (.iadd, 1) := by decide +kernel
theorem d_law_245 : decode code 245 = .ok (.iaload, 1) := by decide +kernel
theorem d_law_246 : decode code 246 = .ok (.i2c, 1) := by decide +kernel
theorem d_law_247 : decode code 247 = .ok (.invokevirtual 37, 3) := by decide +kernel
theorem d_law_250 : decode code 250 = .ok (.aload_n 2, 1) := by decide +kernel
theorem d_law_251 : decode code 251 = .ok (.aload_n 0, 1) := by decide +kernel
theorem d_law_252 : decode code 252 = .ok (.iload_n 3, 1) := by decide +kernel
theorem d_law_253 : decode code 253 = .ok (.iconst 1, 1) := by decide +kernel
theorem d_law_254 : decode code 254 = .ok (.iadd, 1) := by decide +kernel
theorem d_law_255 : decode code 255 = .ok (.iaload, 1) := by decide +kernel
theorem d_law_256 : decode code 256 = .ok (.aload_n 0, 1) := by decide +kernel
theorem d_law_257 : decode code 257 = .ok (.iload_n 3, 1) := by decide +kernel
theorem d_law_258 : decode code 258 = .ok (.iconst 2, 1) := by decide +kernel
theorem d_law_259 : decode code 259 = .ok (.iadd, 1) := by decide +kernel
theorem d_law_260 : decode code 260 = .ok (.iaload, 1) := by decide +kernel
theorem d_law_261 : decode code 261 = .ok (.i2c, 1) := by decide +kernel
theorem d_law_262 : decode code 262 = .ok (.invokevirtual 41, 3) := by decide +kernel
theorem d_law_265 : decode code 265 = .ok (.if_icmp .eq 186, 3) := by decide +kernel
theorem d_law_268 : decode code 268 = .ok (.iconst 0, 1) := by decide +kernel
theorem d_law_269 : decode code 269 = .ok (.ireturn, 1) := by decide +kernel
theorem d_law_270 : decode code 270 = .ok (.aload_n 1, 1) := by decide +kernel
theorem d_law_271 : decode code 271 = .ok (.aload_n 0, 1) := by decide +kernel
theorem d_law_272 : decode code 272 = .ok (.iload_n 3, 1) := by decide +kernel
theorem d_law_273 : decode code 273 = .ok (.iconst 1, 1) := by decide +kernel
theorem d_law_274 : decode code 274 = .ok (.iadd, 1) := by decide +kernel
theorem d_law_275 : decode code 275 = .ok (.iaload, 1) := by decide +kernel
theorem d_law_276 : decode code 276 = .ok (.invokevirtual 42, 3) := by decide +kernel
theorem d_law_279 : decode code 279 = .ok (.aload_n 2, 1) := by decide +kernel
theorem d_law_280 : decode code 280 = .ok (.aload_n 0, 1) := by decide +kernel
theorem d_law_281 : decode code 281 = .ok (.iload_n 3, 1) := by decide +kernel
theorem d_law_282 : decode code 282 = .ok (.iconst 1, 1) := by decide +kernel
theorem d_law_283 : decode code 283 = .ok (.iadd, 1) := by decide +kernel
theorem d_law_284 : decode code 284 = .ok (.iaload, 1) := by decide +kernel
theorem d_law_285 : decode code 285 = .ok (.invokevirtual 45, 3) := by decide +kernel
theorem d_law_288 : decode code 288 = .ok (.if_icmp .eq 163, 3) := by decide +kernel
theorem d_law_291 : decode code 291 = .ok (.iconst 0, 1) := by decide +kernel
theorem d_law_292 : decode code 292 = .ok (.ireturn, 1) := by decide +kernel
theorem d_law_293 : decode code 293 = .ok (.aload_n 1, 1) := by decide +kernel
theorem d_law_294 : decode code 294 = .ok (.invokevirtual 46, 3) := by decide +kernel
theorem d_law_297 : decode code 297 = .ok (.aload_n 2, 1) := by decide +kernel
theorem d_law_298 : decode code 298 = .ok (.invokevirtual 49, 3) := by decide +kernel
theorem d_law_301 : decode code 301 = .ok (.if_icmp .eq 150, 3) := by decide +kernel
theorem d_law_304 : decode code 304 = .ok (.iconst 0, 1) := by decide +kernel
theorem d_law_305 : decode code 305 = .ok (.ireturn, 1) := by decide +kernel
theorem d_law_306 : decode code 306 = .ok (.aload_n 1, 1) := by decide +kernel
theorem d_law_307 : decode code 307 = .ok (.aload_n 0, 1) := by decide +kernel
theorem d_law_308 : decode code 308 = .ok (.iload_n 3, 1) := by decide +kernel
theorem d_law_309 : decode code 309 = .ok (.iconst 1, 1) := by decide +kernel
theorem d_law_310 : decode code 310 = .ok (.iadd, 1) := by decide +kernel
theorem d_law_311 : decode code 311 = .ok (.iaload, 1) := by decide +kernel
theorem d_law_312 : decode code 312 = .ok (.invokevirtual 50, 3) := by decide +kernel
theorem d_law_315 : decode code 315 = .ok (.aload_n 2, 1) := by decide +kernel
theorem d_law_316 : decode code 316 = .ok (.aload_n 0, 1) := by decide +kernel
theorem d_law_317 : decode code 317 = .ok (.iload_n 3, 1) := by decide +kernel
theorem d_law_318 : decode code 318 = .ok (.iconst 1, 1) := by decide +kernel
theorem d_law_319 : decode code 319 = .ok (.iadd, 1) := by decide +kernel
theorem d_law_320 : decode code 320 = .ok (.iaload, 1) := by decide +kernel
theorem d_law_321 : decode code 321 = .ok (.invokevirtual 54, 3) := by decide +kernel
theorem d_law_324 : decode code 324 = .ok (.if_icmp .eq 127, 3) := by decide +kernel
theorem d_law_327 : decode code 327 = .ok (.iconst 0, 1) := by decide +kernel
theorem d_law_328 : decode code 328 = .ok (.ireturn, 1) := by decide +kernel
theorem d_law_329 : decode code 329 = .ok (.aload_n 1, 1) := by decide +kernel
theorem d_law_330 : decode code 330 = .ok (.aload_n 0, 1) := by decide +kernel
theorem d_law_331 : decode code 331 = .ok (.iload_n 3, 1) := by decide +kernel
theorem d_law_332 : decode code 332 = .ok (.iconst 1, 1) := by decide +kernel
theorem d_law_333 : decode code 333 = .ok (.iadd, 1) := by decide +kernel
theorem d_law_334 : decode code 334 = .ok (.iaload, 1) := by decide +kernel
theorem d_law_335 : decode code 335 = .ok (.invokevirtual 55, 3) := by decide +kernel
theorem d_law_338 : decode code 338 = .ok (.aload_n 2, 1) := by decide +kernel
theorem d_law_339 : decode code 339 = .ok (.aload_n 0, 1) := by decide +kernel
theorem d_law_340 : decode code 340 = .ok (.iload_n 3, 1) := by decide +kernel
theorem d_law_341 : decode code 341 = .ok (.iconst 1, 1) := by decide +kernel
theorem d_law_342 : decode code 342 = .ok (.iadd, 1) := by decide +kernel
theorem d_law_343 : decode code 343 = .ok (.iaload, 1) := by decide +kernel
theorem d_law_344 : decode code 344 = .ok (.invokevirtual 58, 3) := by decide +kernel
theorem d_law_347 : decode code 347 = .ok (.if_icmp .eq 104, 3) := by decide +kernel
theorem d_law_350 : decode code 350 = .ok (.iconst 0, 1) := by decide +kernel
theorem d_law_351 : decode code 351 = .ok (.ireturn, 1) := by decide +kernel
theorem d_law_352 : decode code 352 = .ok (.aload_n 1, 1) := by decide +kernel
theorem d_law_353 : decode code 353 = .ok (.invokevirtual 59, 3) := by decide +kernel
theorem d_law_356 : decode code 356 = .ok (.aload_n 2, 1) := by decide +kernel
theorem d_law_357 : decode code 357 = .ok (.invokevirtual 62, 3) := by decide +kernel
theorem d_law_360 : decode code 360 = .ok (.if_icmp .eq 91, 3) := by decide +kernel
theorem d_law_363 : decode code 363 = .ok (.iconst 0, 1) := by decide +kernel
theorem d_law_364 : decode code 364 = .ok (.ireturn, 1) := by decide +kernel
theorem d_law_365 : decode code 365 = .ok (.aload_n 1, 1) := by decide +kernel
theorem d_law_366 : decode code 366 = .ok (.invokevirtual 63, 3) := by decide +kernel
theorem d_law_369 : decode code 369 = .ok (.aload_n 2, 1) := by decide +kernel
theorem d_law_370 : decode code 370 = .ok (.invokevirtual 66, 3) := by decide +kernel
theorem d_law_373 : decode code 373 = .ok (.goto 78, 3) := by decide +kernel
theorem d_law_376 : decode code 376 = .ok (.aload_n 1, 1) := by decide +kernel
theorem d_law_377 : decode code 377 = .ok (.invokevirtual 67, 3) := by decide +kernel
theorem d_law_380 : decode code 380 = .ok (.aload_n 2, 1) := by decide +kernel
theorem d_law_381 : decode code 381 = .ok (.invokevirtual 70, 3) := by decide +kernel
theorem d_law_384 : decode code 384 = .ok (.if_icmp .eq 67, 3) := by decide +kernel
theorem d_law_387 : decode code 387 = .ok (.iconst 0, 1) := by decide +kernel
theorem d_law_388 : decode code 388 = .ok (.ireturn, 1) := by decide +kernel
theorem d_law_389 : decode code 389 = .ok (.aload_n 1, 1) := by decide +kernel
theorem d_law_390 : decode code 390 = .ok (.invokevirtual 71, 3) := by decide +kernel
theorem d_law_393 : decode code 393 = .ok (.aload_n 2, 1) := by decide +kernel
theorem d_law_394 : decode code 394 = .ok (.invokevirtual 74, 3) := by decide +kernel
theorem d_law_397 : decode code 397 = .ok (.if_icmp .eq 54, 3) := by decide +kernel
theorem d_law_400 : decode code 400 = .ok (.iconst 0, 1) := by decide +kernel
theorem d_law_401 : decode code 401 = .ok (.ireturn, 1) := by decide +kernel
theorem d_law_402 : decode code 402 = .ok (.aload_n 1, 1) := by decide +kernel
theorem d_law_403 : decode code 403 = .ok (.invokevirtual 75, 3) := by decide +kernel
theorem d_law_406 : decode code 406 = .ok (.aload_n 2, 1) := by decide +kernel
theorem d_law_407 : decode code 407 = .ok (.invokevirtual 78, 3) := by decide +kernel
theorem d_law_410 : decode code 410 = .ok (.if_icmp .eq 41, 3) := by decide +kernel
theorem d_law_413 : decode code 413 = .ok (.iconst 0, 1) := by decide +kernel
theorem d_law_414 : decode code 414 = .ok (.ireturn, 1) := by decide +kernel
theorem d_law_415 : decode code 415 = .ok (.aload_n 1, 1) := by decide +kernel
theorem d_law_416 : decode code 416 = .ok (.invokevirtual 79, 3) := by decide +kernel
theorem d_law_419 : decode code 419 = .ok (.aload_n 2, 1) := by decide +kernel
theorem d_law_420 : decode code 420 = .ok (.invokevirtual 82, 3) := by decide +kernel
theorem d_law_423 : decode code 423 = .ok (.if_icmp .eq 28, 3) := by decide +kernel
theorem d_law_426 : decode code 426 = .ok (.iconst 0, 1) := by decide +kernel
theorem d_law_427 : decode code 427 = .ok (.ireturn, 1) := by decide +kernel
theorem d_law_428 : decode code 428 = .ok (.aload_n 1, 1) := by decide +kernel
theorem d_law_429 : decode code 429 = .ok (.aload_n 0, 1) := by decide +kernel
theorem d_law_430 : decode code 430 = .ok (.iload_n 3, 1) := by decide +kernel
theorem d_law_431 : decode code 431 = .ok (.iconst 1, 1) := by decide +kernel
theorem d_law_432 : decode code 432 = .ok (.iadd, 1) := by decide +kernel
theorem d_law_433 : decode code 433 = .ok (.iaload, 1) := by decide +kernel
theorem d_law_434 : decode code 434 = .ok (.invokevirtual 83, 3) := by decide +kernel
theorem d_law_437 : decode code 437 = .ok (.aload_n 2, 1) := by decide +kernel
theorem d_law_438 : decode code 438 = .ok (.aload_n 0, 1) := by decide +kernel
theorem d_law_439 : decode code 439 = .ok (.iload_n 3, 1) := by decide +kernel
theorem d_law_440 : decode code 440 = .ok (.iconst 1, 1) := by decide +kernel
theorem d_law_441 : decode code 441 = .ok (.iadd, 1) := by decide +kernel
theorem d_law_442 : decode code 442 = .ok (.iaload, 1) := by decide +kernel
theorem d_law_443 : decode code 443 = .ok (.invokevirtual 86, 3) := by decide +kernel
theorem d_law_446 : decode code 446 = .ok (.if_icmp .eq 5, 3) := by decide +kernel
theorem d_law_449 : decode code 449 = .ok (.iconst 0, 1) := by decide +kernel
theorem d_law_450 : decode code 450 = .ok (.ireturn, 1) := by decide +kernel
theorem d_law_451 : decode code 451 = .ok (.iinc 3 3, 3) := by decide +kernel
theorem d_law_454 : decode code 454 = .ok (.goto (-436), 3) := by decide +kernel
theorem d_law_457 : decode code 457 = .ok (.iconst 1, 1) := by decide +kernel
theorem d_law_458 : decode code 458 = .ok (.ireturn, 1) := by decide +kernel
def f_law_451 (K18 : Int32 → zSt → Option Int32) (a3 : Int32) (S : zSt) : Option Int32 := (K18 (a3 + 3) S)
def f_law_18 (xs : Nat → Int32) (L : Nat) : Nat → Int32 → zSt → Option Int32
  | 0, _, _ => none
  | n + 1, a3, S => (if ((Int32.ofNat L) - 3) < a3 then (some 1) else gdi a3 L ((if ((xs a3.toNatClampNeg) &&& 31) = 0 then gdi (a3 + 1) L (((f_TC_declare (xs (a3 + 1).toNatClampNeg) S).bind fun u2 => gdi (a3 + 1) L (((f_Mo_declare (xs (a3 + 1).toNatClampNeg) u2.2).bind fun u3 => (if u2.1 = u3.1 then (f_law_451 (f_law_18 xs L n) a3 u3.2) else none))))) else (if ((xs a3.toNatClampNeg) &&& 31) = 1 then gdi (a3 + 1) L (((f_TC_template (((xs (a3 + 1).toNatClampNeg).toUInt32 % 65536).toInt32) S).bind fun u5 => gdi (a3 + 1) L (((f_Mo_template (((xs (a3 + 1).toNatClampNeg).toUInt32 % 65536).toInt32) u5.2).bind fun u6 => (if u5.1 = u6.1 then (f_law_451 (f_law_18 xs L n) a3 u6.2) else none))))) else (if ((xs a3.toNatClampNeg) &&& 31) = 2 then gdi (a3 + 1) L (gdi (a3 + 2) L (((f_TC_parameter (xs (a3 + 1).toNatClampNeg) (((xs (a3 + 2).toNatClampNeg).toUInt32 % 65536).toInt32) S).bind fun u8 => gdi (a3 + 1) L (gdi (a3 + 2) L (((f_Mo_parameter (xs (a3 + 1).toNatClampNeg) (((xs (a3 + 2).toNatClampNeg).toUInt32 % 65536).toInt32) u8.2).bind fun u9 => (if u8.1 = u9.1 then (f_law_451 (f_law_18 xs L n) a3 u9.2) else none))))))) else (if ((xs a3.toNatClampNeg) &&& 31) = 3 then ((f_TC_check S).bind fun u11 => ((f_Mo_check S).bind fun u12 => (if u11 = u12 then (f_law_451 (f_law_18 xs L n) a3 S) else none))) else (if ((xs a3.toNatClampNeg) &&& 31) = 4 then gdi (a3 + 1) L (((f_TC_item (xs (a3 + 1).toNatClampNeg) S).bind fun u14 => gdi (a3 + 1) L (((f_Mo_item (xs (a3 + 1).toNatClampNeg) u14.2).bind fun u15 => (if u14.1 = u15.1 then (f_law_451 (f_law_18 xs L n) a3 u15.2) else none))))) else (if ((xs a3.toNatClampNeg) &&& 31) = 5 then gdi (a3 + 1) L (gdi (a3 + 2) L (((f_TC_write (xs (a3 + 1).toNatClampNeg) (((xs (a3 + 2).toNatClampNeg).toUInt32 % 65536).toInt32) S).bind fun u17 => gdi (a3 + 1) L (gdi (a3 + 2) L (((f_Mo_write (xs (a3 + 1).toNatClampNeg) (((xs (a3 + 2).toNatClampNeg).toUInt32 % 65536).toInt32) u17.2).bind fun u18 => (if u17.1 = u18.1 then (f_law_451 (f_law_18 xs L n) a3 u18.2) else none))))))) else (if ((xs a3.toNatClampNeg) &&& 31) = 6 then gdi (a3 + 1) L (((f_TC_empty (xs (a3 + 1).toNatClampNeg) S).bind fun u20 => gdi (a3 + 1) L (((f_Mo_empty (xs (a3 + 1).toNatClampNeg) u20.2).bind fun u21 => (if u20.1 = u21.1 then (f_law_451 (f_law_18 xs L n) a3 u21.2) else none))))) else (if ((xs a3.toNatClampNeg) &&& 31) = 7 then ((f_TC_send S).bind fun u23 => ((f_Mo_send u23.2).bind fun u24 => (if u23.1 = u24.1 then (f_law_451 (f_law_18 xs L n) a3 u24.2) else none))) else (if ((xs a3.toNatClampNeg) &&& 31) = 8 then gdi (a3 + 1) L (((f_TC_sent (xs (a3 + 1).toNatClampNeg) S).bind fun u26 => gdi (a3 + 1) L (((f_Mo_sent (xs (a3 + 1).toNatClampNeg) S).bind fun u27 => (if u26 = u27 then (f_law_451 (f_law_18 xs L n) a3 S) else none))))) else (if ((xs a3.toNatClampNeg) &&& 31) = 9 then gdi (a3 + 1) L (((f_TC_feed (xs (a3 + 1).toNatClampNeg) S).bind fun u29 => gdi (a3 + 1) L (((f_Mo_feed (xs (a3 + 1).toNatClampNeg) u29.2).bind fun u30 => (if u29.1 = u30.1 then (f_law_451 (f_law_18 xs L n) a3 u30.2) else none))))) else (if ((xs a3.toNatClampNeg) &&& 31) = 10 then ((f_TC_close S).bind fun u32 => ((f_Mo_close u32.2).bind fun u33 => (if u32.1 = u33.1 then (f_law_451 (f_law_18 xs L n) a3 u33.2) else none))) else (if ((xs a3.toNatClampNeg) &&& 31) = 11 then ((f_TC_reset S).bind fun u35 => ((f_Mo_reset u35).bind fun u36 => (f_law_451 (f_law_18 xs L n) a3 u36))) else (if ((xs a3.toNatClampNeg) &&& 31) = 12 then ((f_TC_state S).bind fun u38 => ((f_Mo_state S).bind fun u39 => (if u38 = u39.1 then (f_law_451 (f_law_18 xs L n) a3 u39.2) else none))) else (if ((xs a3.toNatClampNeg) &&& 31) = 13 then ((f_TC_status S).bind fun u41 => ((f_Mo_status S).bind fun u42 => (if u41 = u42.1 then (f_law_451 (f_law_18 xs L n) a3 u42.2) else none))) else (if ((xs a3.toNatClampNeg) &&& 31) = 14 then ((f_TC_fields S).bind fun u44 => ((f_Mo_fields S).bind fun u45 => (if u44 = u45.1 then (f_law_451 (f_law_18 xs L n) a3 u45.2) else none))) else (if ((xs a3.toNatClampNeg) &&& 31) = 15 then ((f_TC_length S).bind fun u47 => ((f_Mo_length S).bind fun u48 => (if u47 = u48.1 then (f_law_451 (f_law_18 xs L n) a3 u48.2) else none))) else (if ((xs a3.toNatClampNeg) &&& 31) = 16 then gdi (a3 + 1) L (((f_TC_content (xs (a3 + 1).toNatClampNeg) S).bind fun u50 => gdi (a3 + 1) L (((f_Mo_content (xs (a3 + 1).toNatClampNeg) S).bind fun u51 => (if u50 = u51.1 then (f_law_451 (f_law_18 xs L n) a3 u51.2) else none))))) else (f_law_451 (f_law_18 xs L n) a3 S))))))))))))))))))))
set_option maxHeartbeats 8000000 in
set_option maxRecDepth 100000 in
theorem law_loop {p : Program} {l : Launch} {e : Env} {s : State} {m : MethodId} {args : Array Value} {below : List Frame} {meth : Method} {c : Code} {Q : State → Prop} {b L kc ks : Nat} {xs : Nat → Int32} {g : zG} (C : Cx p s m args meth c code R_law 4 ret g) (hX : va_X b L xs s s.heap) (hbl : b < s.heap.size) (hbA : ¬ gA g b) (hroom : kc ≤ room_1.cells ∧ ks ≤ room_1.slots) (hfin : ∀ (H : Heap) (locs : List Loc) (S : zSt) (ls : Array Slot), Dy g s S H locs → W p l e room_1 s m args below meth c H locs kc ks Q (F0 m 458 ls [.int 1])) (hD : GD g) (u : Int32) : ∀ (n : Nat) (H : Heap) (locs : List Loc) (S : zSt) (ls : Array Slot) (a3 : Int32), f_law_18 xs L n a3 S = some u → Dy g s S H locs → lv_has ls 4 [(0, .ref b), (1, .ref (ga g 0)), (2, .ref (ga g 66)), (3, .int a3)] → W p l e room_1 s m args below meth c H locs kc ks Q (F0 m 18 ls []) := by
  have hx := C.1
  have hb := C.2.1
  have hown := C.2.2.2.1
  have hts := C.2.2.2.2.1
  have B451 : ∀ (K18 : Int32 → zSt → Option Int32) (hK18 : ∀ (H : Heap) (locs : List Loc) (S : zSt) (ls : Array Slot) (a3 : Int32), K18 a3 S = some u → Dy g s S H locs → lv_has ls 4 [(0, .ref b), (1, .ref (ga g 0)), (2, .ref (ga g 66)), (3, .int a3)] → W p l e room_1 s m args below meth c H locs kc ks Q (F0 m 18 ls [])) (H : Heap) (locs : List Loc) (S : zSt) (ls : Array Slot) (a3 : Int32), f_law_451 K18 a3 S = some u → Dy g s S H locs → lv_has ls 4 [(0, .ref b), (1, .ref (ga g 0)), (2, .ref (ga g 66)), (3, .int a3)] → W p l e room_1 s m args below meth c H locs kc ks Q (F0 m 451 ls []) := by
    intro K18 hK18 H locs S ls a3 h D hl
    unfold f_law_451 at h
    refine lv_iinc (k := 3) (lv' := [(3, .int (a3 + 3)), (0, .ref b), (1, .ref (ga g 0)), (2, .ref (ga g 66))]) hx hb d_law_451 hl rfl (ii3 _) (by decide) rfl (fun ls hl => ?_)
    refine lv_goto hx hb d_law_454 rfl ?_
    exact hK18 _ _ _ _ _ h D (lv_sub hl [1, 2, 3, 0] rfl)
  intro n
  induction n with
  | zero => intro H locs S ls a3 h D hl; rw [f_law_18] at h; cases h
  | succ n hK18 =>
    intro H locs S ls a3 h D hl
    rw [f_law_18] at h
    refine lv_iload_n hx hb d_law_18 rfl (lv_at hl 3 rfl) ?_
    refine lv_aload_n hx hb d_law_19 rfl (lv_at hl 0 rfl) ?_
    refine x_slen C D hX hbl hbA d_law_20 ?_
    refine lv_iconst (v := 3) hx hb d_law_21 (by decide) ?_
    refine lv_isub hx hb d_law_22 ?_
    refine lv_icmp_gt hx hb d_law_23 rfl (fun z => ?_) (fun z => ?_)
    · replace h := if_t z h
      refine lv_iconst (v := 1) hx hb d_law_457 (by decide) ?_
      exact hfin _ _ _ _ D
    · replace h := if_f z h
      refine lv_aload_n hx hb d_law_26 rfl (lv_at hl 0 rfl) ?_
      refine lv_iload_n hx hb d_law_27 rfl (lv_at hl 3 rfl) ?_
      refine x_sld C D hX hbl hbA d_law_28 h (fun _ h => ?_)
      refine lv_bipush (v := 31) hx hb d_law_29 (by decide) ?_
      refine lv_iand hx hb d_law_31 ?_
      by_cases e1 : ((xs a3.toNatClampNeg) &&& 31) = 0
      · replace h := if_t e1 h
        refine lv_tableIn (off := 84) hx hb d_law_32 (by rw [e1]; decide) (by rw [e1]; decide) (by rw [e1]; rfl) rfl ?_
        refine lv_aload_n hx hb d_law_116 rfl (lv_at hl 1 rfl) ?_
        refine lv_aload_n hx hb d_law_117 rfl (lv_at hl 0 rfl) ?_
        refine lv_iload_n hx hb d_law_118 rfl (lv_at hl 3 rfl) ?_
        refine lv_iconst (v := 1) hx hb d_law_119 (by decide) ?_
        refine lv_iadd hx hb d_law_120 ?_
        refine x_sld C D hX hbl hbA d_law_121 h (fun _ h => ?_)
        obtain ⟨u2, hu2, h⟩ := bd_some h
        refine k_cis (rest := []) (k_V C D (c_TC_declare l g hD (xs (a3 + 1).toNatClampNeg) S u2 hu2) wc_TC_declare wm_Law_13 wi_TC_declare wd_TC_declare (by decide) sh_0 kc_TC.1 rfl rfl hl (Nat.le_of_ble_eq_true rfl) ⟨by decide, by decide⟩ hroom d_law_122) D (fun H locs D => ?_)
        refine lv_aload_n hx hb d_law_125 rfl (lv_at hl 2 rfl) ?_
        refine lv_aload_n hx hb d_law_126 rfl (lv_at hl 0 rfl) ?_
        refine lv_iload_n hx hb d_law_127 rfl (lv_at hl 3 rfl) ?_
        refine lv_iconst (v := 1) hx hb d_law_128 (by decide) ?_
        refine lv_iadd hx hb d_law_129 ?_
        refine x_sld C D hX hbl hbA d_law_130 h (fun _ h => ?_)
        obtain ⟨u3, hu3, h⟩ := bd_some h
        refine k_cis (rest := [.int u2.1]) (k_V C D (c_Mo_declare l g hD (xs (a3 + 1).toNatClampNeg) u2.2 u3 hu3) wc_Mo_declare wm_Law_17 wi_Mo_declare wd_Mo_declare (by decide) sh_66 kc_Mo.1 rfl rfl hl (Nat.le_of_ble_eq_true rfl) ⟨by decide, by decide⟩ hroom d_law_131) D (fun H locs D => ?_)
        refine lv_icmp_eq hx hb d_law_134 rfl (fun z => ?_) (fun z => ?_)
        · replace h := if_t z h
          exact B451 _ hK18 _ _ _ _ _ h D (lv_sub hl [0, 1, 2, 3] rfl)
        · replace h := if_f z h
          refine lv_iconst (v := 0) hx hb d_law_137 (by decide) ?_
          cases h
      · replace h := if_f e1 h
        by_cases e4 : ((xs a3.toNatClampNeg) &&& 31) = 1
        · replace h := if_t e4 h
          refine lv_tableIn (off := 107) hx hb d_law_32 (by rw [e4]; decide) (by rw [e4]; decide) (by rw [e4]; rfl) rfl ?_
          refine lv_aload_n hx hb d_law_139 rfl (lv_at hl 1 rfl) ?_
          refine lv_aload_n hx hb d_law_140 rfl (lv_at hl 0 rfl) ?_
          refine lv_iload_n hx hb d_law_141 rfl (lv_at hl 3 rfl) ?_
          refine lv_iconst (v := 1) hx hb d_law_142 (by decide) ?_
          refine lv_iadd hx hb d_law_143 ?_
          refine x_sld C D hX hbl hbA d_law_144 h (fun _ h => ?_)
          refine lv_i2c hx hb d_law_145 rfl ?_
          obtain ⟨u5, hu5, h⟩ := bd_some h
          refine k_cis (rest := []) (k_V C D (c_TC_template l g hD (((xs (a3 + 1).toNatClampNeg).toUInt32 % 65536).toInt32) S u5 hu5) wc_TC_template wm_Law_18 wi_TC_template wd_TC_template (by decide) sh_0 kc_TC.1 rfl rfl hl (Nat.le_of_ble_eq_true rfl) ⟨by decide, by decide⟩ hroom d_law_146) D (fun H locs D => ?_)
          refine lv_aload_n hx hb d_law_149 rfl (lv_at hl 2 rfl) ?_
          refine lv_aload_n hx hb d_law_150 rfl (lv_at hl 0 rfl) ?_
          refine lv_iload_n hx hb d_law_151 rfl (lv_at hl 3 rfl) ?_
          refine lv_iconst (v := 1) hx hb d_law_152 (by decide) ?_
          refine lv_iadd hx hb d_law_153 ?_
          refine x_sld C D hX hbl hbA d_law_154 h (fun _ h => ?_)
          refine lv_i2c hx hb d_law_155 rfl ?_
          obtain ⟨u6, hu6, h⟩ := bd_some h
          refine k_cis (rest := [.int u5.1]) (k_V C D (c_Mo_template l g hD (((xs (a3 + 1).toNatClampNeg).toUInt32 % 65536).toInt32) u5.2 u6 hu6) wc_Mo_template wm_Law_22 wi_Mo_template wd_Mo_template (by decide) sh_66 kc_Mo.1 rfl rfl hl (Nat.le_of_ble_eq_true rfl) ⟨by decide, by decide⟩ hroom d_law_156) D (fun H locs D => ?_)
          refine lv_icmp_eq hx hb d_law_159 rfl (fun z => ?_) (fun z => ?_)
          · replace h := if_t z h
            exact B451 _ hK18 _ _ _ _ _ h D (lv_sub hl [0, 1, 2, 3] rfl)
          · replace h := if_f z h
            refine lv_iconst (v := 0) hx hb d_law_162 (by decide) ?_
            cases h
        · replace h := if_f e4 h
          by_cases e7 : ((xs a3.toNatClampNeg) &&& 31) = 2
          · replace h := if_t e7 h
            refine lv_tableIn (off := 132) hx hb d_law_32 (by rw [e7]; decide) (by rw [e7]; decide) (by rw [e7]; rfl) rfl ?_
            refine lv_aload_n hx hb d_law_164 rfl (lv_at hl 1 rfl) ?_
            refine lv_aload_n hx hb d_law_165 rfl (lv_at hl 0 rfl) ?_
            refine lv_iload_n hx hb d_law_166 rfl (lv_at hl 3 rfl) ?_
            refine lv_iconst (v := 1) hx hb d_law_167 (by decide) ?_
            refine lv_iadd hx hb d_law_168 ?_
            refine x_sld C D hX hbl hbA d_law_169 h (fun _ h => ?_)
            refine lv_aload_n hx hb d_law_170 rfl (lv_at hl 0 rfl) ?_
            refine lv_iload_n hx hb d_law_171 rfl (lv_at hl 3 rfl) ?_
            refine lv_iconst (v := 2) hx hb d_law_172 (by decide) ?_
            refine lv_iadd hx hb d_law_173 ?_
            refine x_sld C D hX hbl hbA d_law_174 h (fun _ h => ?_)
            refine lv_i2c hx hb d_law_175 rfl ?_
            obtain ⟨u8, hu8, h⟩ := bd_some h
            refine k_cis (rest := []) (k_V C D (c_TC_parameter l g hD (xs (a3 + 1).toNatClampNeg) (((xs (a3 + 2).toNatClampNeg).toUInt32 % 65536).toInt32) S u8 hu8) wc_TC_parameter wm_Law_23 wi_TC_parameter wd_TC_parameter (by decide) sh_0 kc_TC.1 rfl rfl hl (Nat.le_of_ble_eq_true rfl) ⟨by decide, by decide⟩ hroom d_law_176) D (fun H locs D => ?_)
            refine lv_aload_n hx hb d_law_179 rfl (lv_at hl 2 rfl) ?_
            refine lv_aload_n hx hb d_law_180 rfl (lv_at hl 0 rfl) ?_
            refine lv_iload_n hx hb d_law_181 rfl (lv_at hl 3 rfl) ?_
            refine lv_iconst (v := 1) hx hb d_law_182 (by decide) ?_
            refine lv_iadd hx hb d_law_183 ?_
            refine x_sld C D hX hbl hbA d_law_184 h (fun _ h => ?_)
            refine lv_aload_n hx hb d_law_185 rfl (lv_at hl 0 rfl) ?_
            refine lv_iload_n hx hb d_law_186 rfl (lv_at hl 3 rfl) ?_
            refine lv_iconst (v := 2) hx hb d_law_187 (by decide) ?_
            refine lv_iadd hx hb d_law_188 ?_
            refine x_sld C D hX hbl hbA d_law_189 h (fun _ h => ?_)
            refine lv_i2c hx hb d_law_190 rfl ?_
            obtain ⟨u9, hu9, h⟩ := bd_some h
            refine k_cis (rest := [.int u8.1]) (k_V C D (c_Mo_parameter l g hD (xs (a3 + 1).toNatClampNeg) (((xs (a3 + 2).toNatClampNeg).toUInt32 % 65536).toInt32) u8.2 u9 hu9) wc_Mo_parameter wm_Law_27 wi_Mo_parameter wd_Mo_parameter (by decide) sh_66 kc_Mo.1 rfl rfl hl (Nat.le_of_ble_eq_true rfl) ⟨by decide, by decide⟩ hroom d_law_191) D (fun H locs D => ?_)
            refine lv_icmp_eq hx hb d_law_194 rfl (fun z => ?_) (fun z => ?_)
            · replace h := if_t z h
              exact B451 _ hK18 _ _ _ _ _ h D (lv_sub hl [0, 1, 2, 3] rfl)
            · replace h := if_f z h
              refine lv_iconst (v := 0) hx hb d_law_197 (by decide) ?_
              cases h
          · replace h := if_f e7 h
            by_cases e10 : ((xs a3.toNatClampNeg) &&& 31) = 3
            · replace h := if_t e10 h
              refine lv_tableIn (off := 167) hx hb d_law_32 (by rw [e10]; decide) (by rw [e10]; decide) (by rw [e10]; rfl) rfl ?_
              refine lv_aload_n hx hb d_law_199 rfl (lv_at hl 1 rfl) ?_
              obtain ⟨u11, hu11, h⟩ := bd_some h
              refine k_cip (rest := []) (k_V C D (c_TC_check l g hD S u11 hu11) wc_TC_check wm_Law_28 wi_TC_check wd_TC_check (by decide) sh_0 kc_TC.1 rfl rfl hl (Nat.le_of_ble_eq_true rfl) ⟨by decide, by decide⟩ hroom d_law_200) D (fun H locs D => ?_)
              refine lv_aload_n hx hb d_law_203 rfl (lv_at hl 2 rfl) ?_
              obtain ⟨u12, hu12, h⟩ := bd_some h
              refine k_cip (rest := [.int u11]) (k_V C D (c_Mo_check l g hD S u12 hu12) wc_Mo_check wm_Law_32 wi_Mo_check wd_Mo_check (by decide) sh_66 kc_Mo.1 rfl rfl hl (Nat.le_of_ble_eq_true rfl) ⟨by decide, by decide⟩ hroom d_law_204) D (fun H locs D => ?_)
              refine lv_icmp_eq hx hb d_law_207 rfl (fun z => ?_) (fun z => ?_)
              · replace h := if_t z h
                exact B451 _ hK18 _ _ _ _ _ h D (lv_sub hl [0, 1, 2, 3] rfl)
              · replace h := if_f z h
                refine lv_iconst (v := 0) hx hb d_law_210 (by decide) ?_
                cases h
            · replace h := if_f e10 h
              by_cases e13 : ((xs a3.toNatClampNeg) &&& 31) = 4
              · replace h := if_t e13 h
                refine lv_tableIn (off := 180) hx hb d_law_32 (by rw [e13]; decide) (by rw [e13]; decide) (by rw [e13]; rfl) rfl ?_
                refine lv_aload_n hx hb d_law_212 rfl (lv_at hl 1 rfl) ?_
                refine lv_aload_n hx hb d_law_213 rfl (lv_at hl 0 rfl) ?_
                refine lv_iload_n hx hb d_law_214 rfl (lv_at hl 3 rfl) ?_
                refine lv_iconst (v := 1) hx hb d_law_215 (by decide) ?_
                refine lv_iadd hx hb d_law_216 ?_
                refine x_sld C D hX hbl hbA d_law_217 h (fun _ h => ?_)
                obtain ⟨u14, hu14, h⟩ := bd_some h
                refine k_cis (rest := []) (k_V C D (c_TC_item l g hD (xs (a3 + 1).toNatClampNeg) S u14 hu14) wc_TC_item wm_Law_33 wi_TC_item wd_TC_item (by decide) sh_0 kc_TC.1 rfl rfl hl (Nat.le_of_ble_eq_true rfl) ⟨by decide, by decide⟩ hroom d_law_218) D (fun H locs D => ?_)
                refine lv_aload_n hx hb d_law_221 rfl (lv_at hl 2 rfl) ?_
                refine lv_aload_n hx hb d_law_222 rfl (lv_at hl 0 rfl) ?_
                refine lv_iload_n hx hb d_law_223 rfl (lv_at hl 3 rfl) ?_
                refine lv_iconst (v := 1) hx hb d_law_224 (by decide) ?_
                refine lv_iadd hx hb d_law_225 ?_
                refine x_sld C D hX hbl hbA d_law_226 h (fun _ h => ?_)
                obtain ⟨u15, hu15, h⟩ := bd_some h
                refine k_cis (rest := [.int u14.1]) (k_V C D (c_Mo_item l g hD (xs (a3 + 1).toNatClampNeg) u14.2 u15 hu15) wc_Mo_item wm_Law_36 wi_Mo_item wd_Mo_item (by decide) sh_66 kc_Mo.1 rfl rfl hl (Nat.le_of_ble_eq_true rfl) ⟨by decide, by decide⟩ hroom d_law_227) D (fun H locs D => ?_)
                refine lv_icmp_eq hx hb d_law_230 rfl (fun z => ?_) (fun z => ?_)
                · replace h := if_t z h
                  exact B451 _ hK18 _ _ _ _ _ h D (lv_sub hl [0, 1, 2, 3] rfl)
                · replace h := if_f z h
                  refine lv_iconst (v := 0) hx hb d_law_233 (by decide) ?_
                  cases h
              · replace h := if_f e13 h
                by_cases e16 : ((xs a3.toNatClampNeg) &&& 31) = 5
                · replace h := if_t e16 h
                  refine lv_tableIn (off := 203) hx hb d_law_32 (by rw [e16]; decide) (by rw [e16]; decide) (by rw [e16]; rfl) rfl ?_
                  refine lv_aload_n hx hb d_law_235 rfl (lv_at hl 1 rfl) ?_
                  refine lv_aload_n hx hb d_law_236 rfl (lv_at hl 0 rfl) ?_
                  refine lv_iload_n hx hb d_law_237 rfl (lv_at hl 3 rfl) ?_
                  refine lv_iconst (v := 1) hx hb d_law_238 (by decide) ?_
                  refine lv_iadd hx hb d_law_239 ?_
                  refine x_sld C D hX hbl hbA d_law_240 h (fun _ h => ?_)
                  refine lv_aload_n hx hb d_law_241 rfl (lv_at hl 0 rfl) ?_
                  refine lv_iload_n hx hb d_law_242 rfl (lv_at hl 3 rfl) ?_
                  refine lv_iconst (v := 2) hx hb d_law_243 (by decide) ?_
                  refine lv_iadd hx hb d_law_244 ?_
                  refine x_sld C D hX hbl hbA d_law_245 h (fun _ h => ?_)
                  refine lv_i2c hx hb d_law_246 rfl ?_
                  obtain ⟨u17, hu17, h⟩ := bd_some h
                  refine k_cis (rest := []) (k_V C D (c_TC_write l g hD (xs (a3 + 1).toNatClampNeg) (((xs (a3 + 2).toNatClampNeg).toUInt32 % 65536).toInt32) S u17 hu17) wc_TC_write wm_Law_37 wi_TC_write wd_TC_write (by decide) sh_0 kc_TC.1 rfl rfl hl (Nat.le_of_ble_eq_true rfl) ⟨by decide, by decide⟩ hroom d_law_247) D (fun H locs D => ?_)
                  refine lv_aload_n hx hb d_law_250 rfl (lv_at hl 2 rfl) ?_
                  refine lv_aload_n hx hb d_law_251 rfl (lv_at hl 0 rfl) ?_
                  refine lv_iload_n hx hb d_law_252 rfl (lv_at hl 3 rfl) ?_
                  refine lv_iconst (v := 1) hx hb d_law_253 (by decide) ?_
                  refine lv_iadd hx hb d_law_254 ?_
                  refine x_sld C D hX hbl hbA d_law_255 h (fun _ h => ?_)
                  refine lv_aload_n hx hb d_law_256 rfl (lv_at hl 0 rfl) ?_
                  refine lv_iload_n hx hb d_law_257 rfl (lv_at hl 3 rfl) ?_
                  refine lv_iconst (v := 2) hx hb d_law_258 (by decide) ?_
                  refine lv_iadd hx hb d_law_259 ?_
                  refine x_sld C D hX hbl hbA d_law_260 h (fun _ h => ?_)
                  refine lv_i2c hx hb d_law_261 rfl ?_
                  obtain ⟨u18, hu18, h⟩ := bd_some h
                  refine k_cis (rest := [.int u17.1]) (k_V C D (c_Mo_write l g hD (xs (a3 + 1).toNatClampNeg) (((xs (a3 + 2).toNatClampNeg).toUInt32 % 65536).toInt32) u17.2 u18 hu18) wc_Mo_write wm_Law_41 wi_Mo_write wd_Mo_write (by decide) sh_66 kc_Mo.1 rfl rfl hl (Nat.le_of_ble_eq_true rfl) ⟨by decide, by decide⟩ hroom d_law_262) D (fun H locs D => ?_)
                  refine lv_icmp_eq hx hb d_law_265 rfl (fun z => ?_) (fun z => ?_)
                  · replace h := if_t z h
                    exact B451 _ hK18 _ _ _ _ _ h D (lv_sub hl [0, 1, 2, 3] rfl)
                  · replace h := if_f z h
                    refine lv_iconst (v := 0) hx hb d_law_268 (by decide) ?_
                    cases h
                · replace h := if_f e16 h
                  by_cases e19 : ((xs a3.toNatClampNeg) &&& 31) = 6
                  · replace h := if_t e19 h
                    refine lv_tableIn (off := 238) hx hb d_law_32 (by rw [e19]; decide) (by rw [e19]; decide) (by rw [e19]; rfl) rfl ?_
                    refine lv_aload_n hx hb d_law_270 rfl (lv_at hl 1 rfl) ?_
                    refine lv_aload_n hx hb d_law_271 rfl (lv_at hl 0 rfl) ?_
                    refine lv_iload_n hx hb d_law_272 rfl (lv_at hl 3 rfl) ?_
                    refine lv_iconst (v := 1) hx hb d_law_273 (by decide) ?_
                    refine lv_iadd hx hb d_law_274 ?_
                    refine x_sld C D hX hbl hbA d_law_275 h (fun _ h => ?_)
                    obtain ⟨u20, hu20, h⟩ := bd_some h
                    refine k_cis (rest := []) (k_V C D (c_TC_empty l g hD (xs (a3 + 1).toNatClampNeg) S u20 hu20) wc_TC_empty wm_Law_42 wi_TC_empty wd_TC_empty (by decide) sh_0 kc_TC.1 rfl rfl hl (Nat.le_of_ble_eq_true rfl) ⟨by decide, by decide⟩ hroom d_law_276) D (fun H locs D => ?_)
                    refine lv_aload_n hx hb d_law_279 rfl (lv_at hl 2 rfl) ?_
                    refine lv_aload_n hx hb d_law_280 rfl (lv_at hl 0 rfl) ?_
                    refine lv_iload_n hx hb d_law_281 rfl (lv_at hl 3 rfl) ?_
                    refine lv_iconst (v := 1) hx hb d_law_282 (by decide) ?_
                    refine lv_iadd hx hb d_law_283 ?_
                    refine x_sld C D hX hbl hbA d_law_284 h (fun _ h => ?_)
                    obtain ⟨u21, hu21, h⟩ := bd_some h
                    refine k_cis (rest := [.int u20.1]) (k_V C D (c_Mo_empty l g hD (xs (a3 + 1).toNatClampNeg) u20.2 u21 hu21) wc_Mo_empty wm_Law_45 wi_Mo_empty wd_Mo_empty (by decide) sh_66 kc_Mo.1 rfl rfl hl (Nat.le_of_ble_eq_true rfl) ⟨by decide, by decide⟩ hroom d_law_285) D (fun H locs D => ?_)
                    refine lv_icmp_eq hx hb d_law_288 rfl (fun z => ?_) (fun z => ?_)
                    · replace h := if_t z h
                      exact B451 _ hK18 _ _ _ _ _ h D (lv_sub hl [0, 1, 2, 3] rfl)
                    · replace h := if_f z h
                      refine lv_iconst (v := 0) hx hb d_law_291 (by decide) ?_
                      cases h
                  · replace h := if_f e19 h
                    by_cases e22 : ((xs a3.toNatClampNeg) &&& 31) = 7
                    · replace h := if_t e22 h
                      refine lv_tableIn (off := 261) hx hb d_law_32 (by rw [e22]; decide) (by rw [e22]; decide) (by rw [e22]; rfl) rfl ?_
                      refine lv_aload_n hx hb d_law_293 rfl (lv_at hl 1 rfl) ?_
                      obtain ⟨u23, hu23, h⟩ := bd_some h
                      refine k_cis (rest := []) (k_V C D (c_TC_send l g hD S u23 hu23) wc_TC_send wm_Law_46 wi_TC_send wd_TC_send (by decide) sh_0 kc_TC.1 rfl rfl hl (Nat.le_of_ble_eq_true rfl) ⟨by decide, by decide⟩ hroom d_law_294) D (fun H locs D => ?_)
                      refine lv_aload_n hx hb d_law_297 rfl (lv_at hl 2 rfl) ?_
                      obtain ⟨u24, hu24, h⟩ := bd_some h
                      refine k_cis (rest := [.int u23.1]) (k_V C D (c_Mo_send l g hD u23.2 u24 hu24) wc_Mo_send wm_Law_49 wi_Mo_send wd_Mo_send (by decide) sh_66 kc_Mo.1 rfl rfl hl (Nat.le_of_ble_eq_true rfl) ⟨by decide, by decide⟩ hroom d_law_298) D (fun H locs D => ?_)
                      refine lv_icmp_eq hx hb d_law_301 rfl (fun z => ?_) (fun z => ?_)
                      · replace h := if_t z h
                        exact B451 _ hK18 _ _ _ _ _ h D (lv_sub hl [0, 1, 2, 3] rfl)
                      · replace h := if_f z h
                        refine lv_iconst (v := 0) hx hb d_law_304 (by decide) ?_
                        cases h
                    · replace h := if_f e22 h
                      by_cases e25 : ((xs a3.toNatClampNeg) &&& 31) = 8
                      · replace h := if_t e25 h
                        refine lv_tableIn (off := 274) hx hb d_law_32 (by rw [e25]; decide) (by rw [e25]; decide) (by rw [e25]; rfl) rfl ?_
                        refine lv_aload_n hx hb d_law_306 rfl (lv_at hl 1 rfl) ?_
                        refine lv_aload_n hx hb d_law_307 rfl (lv_at hl 0 rfl) ?_
                        refine lv_iload_n hx hb d_law_308 rfl (lv_at hl 3 rfl) ?_
                        refine lv_iconst (v := 1) hx hb d_law_309 (by decide) ?_
                        refine lv_iadd hx hb d_law_310 ?_
                        refine x_sld C D hX hbl hbA d_law_311 h (fun _ h => ?_)
                        obtain ⟨u26, hu26, h⟩ := bd_some h
                        refine k_cip (rest := []) (k_V C D (c_TC_sent l g hD (xs (a3 + 1).toNatClampNeg) S u26 hu26) wc_TC_sent wm_Law_50 wi_TC_sent wd_TC_sent (by decide) sh_0 kc_TC.1 rfl rfl hl (Nat.le_of_ble_eq_true rfl) ⟨by decide, by decide⟩ hroom d_law_312) D (fun H locs D => ?_)
                        refine lv_aload_n hx hb d_law_315 rfl (lv_at hl 2 rfl) ?_
                        refine lv_aload_n hx hb d_law_316 rfl (lv_at hl 0 rfl) ?_
                        refine lv_iload_n hx hb d_law_317 rfl (lv_at hl 3 rfl) ?_
                        refine lv_iconst (v := 1) hx hb d_law_318 (by decide) ?_
                        refine lv_iadd hx hb d_law_319 ?_
                        refine x_sld C D hX hbl hbA d_law_320 h (fun _ h => ?_)
                        obtain ⟨u27, hu27, h⟩ := bd_some h
                        refine k_cip (rest := [.int u26]) (k_V C D (c_Mo_sent l g hD (xs (a3 + 1).toNatClampNeg) S u27 hu27) wc_Mo_sent wm_Law_54 wi_Mo_sent wd_Mo_sent (by decide) sh_66 kc_Mo.1 rfl rfl hl (Nat.le_of_ble_eq_true rfl) ⟨by decide, by decide⟩ hroom d_law_321) D (fun H locs D => ?_)
                        refine lv_icmp_eq hx hb d_law_324 rfl (fun z => ?_) (fun z => ?_)
                        · replace h := if_t z h
                          exact B451 _ hK18 _ _ _ _ _ h D (lv_sub hl [0, 1, 2, 3] rfl)
                        · replace h := if_f z h
                          refine lv_iconst (v := 0) hx hb d_law_327 (by decide) ?_
                          cases h
                      · replace h := if_f e25 h
                        by_cases e28 : ((xs a3.toNatClampNeg) &&& 31) = 9
                        · replace h := if_t e28 h
                          refine lv_tableIn (off := 297) hx hb d_law_32 (by rw [e28]; decide) (by rw [e28]; decide) (by rw [e28]; rfl) rfl ?_
                          refine lv_aload_n hx hb d_law_329 rfl (lv_at hl 1 rfl) ?_
                          refine lv_aload_n hx hb d_law_330 rfl (lv_at hl 0 rfl) ?_
                          refine lv_iload_n hx hb d_law_331 rfl (lv_at hl 3 rfl) ?_
                          refine lv_iconst (v := 1) hx hb d_law_332 (by decide) ?_
                          refine lv_iadd hx hb d_law_333 ?_
                          refine x_sld C D hX hbl hbA d_law_334 h (fun _ h => ?_)
                          obtain ⟨u29, hu29, h⟩ := bd_some h
                          refine k_cis (rest := []) (k_V C D (c_TC_feed l g hD (xs (a3 + 1).toNatClampNeg) S u29 hu29) wc_TC_feed wm_Law_55 wi_TC_feed wd_TC_feed (by decide) sh_0 kc_TC.1 rfl rfl hl (Nat.le_of_ble_eq_true rfl) ⟨by decide, by decide⟩ hroom d_law_335) D (fun H locs D => ?_)
                          refine lv_aload_n hx hb d_law_338 rfl (lv_at hl 2 rfl) ?_
                          refine lv_aload_n hx hb d_law_339 rfl (lv_at hl 0 rfl) ?_
                          refine lv_iload_n hx hb d_law_340 rfl (lv_at hl 3 rfl) ?_
                          refine lv_iconst (v := 1) hx hb d_law_341 (by decide) ?_
                          refine lv_iadd hx hb d_law_342 ?_
                          refine x_sld C D hX hbl hbA d_law_343 h (fun _ h => ?_)
                          obtain ⟨u30, hu30, h⟩ := bd_some h
                          refine k_cis (rest := [.int u29.1]) (k_V C D (c_Mo_feed l g hD (xs (a3 + 1).toNatClampNeg) u29.2 u30 hu30) wc_Mo_feed wm_Law_58 wi_Mo_feed wd_Mo_feed (by decide) sh_66 kc_Mo.1 rfl rfl hl (Nat.le_of_ble_eq_true rfl) ⟨by decide, by decide⟩ hroom d_law_344) D (fun H locs D => ?_)
                          refine lv_icmp_eq hx hb d_law_347 rfl (fun z => ?_) (fun z => ?_)
                          · replace h := if_t z h
                            exact B451 _ hK18 _ _ _ _ _ h D (lv_sub hl [0, 1, 2, 3] rfl)
                          · replace h := if_f z h
                            refine lv_iconst (v := 0) hx hb d_law_350 (by decide) ?_
                            cases h
                        · replace h := if_f e28 h
                          by_cases e31 : ((xs a3.toNatClampNeg) &&& 31) = 10
                          · replace h := if_t e31 h
                            refine lv_tableIn (off := 320) hx hb d_law_32 (by rw [e31]; decide) (by rw [e31]; decide) (by rw [e31]; rfl) rfl ?_
                            refine lv_aload_n hx hb d_law_352 rfl (lv_at hl 1 rfl) ?_
                            obtain ⟨u32, hu32, h⟩ := bd_some h
                            refine k_cis (rest := []) (k_V C D (c_TC_close l g hD S u32 hu32) wc_TC_close wm_Law_59 wi_TC_close wd_TC_close (by decide) sh_0 kc_TC.1 rfl rfl hl (Nat.le_of_ble_eq_true rfl) ⟨by decide, by decide⟩ hroom d_law_353) D (fun H locs D => ?_)
                            refine lv_aload_n hx hb d_law_356 rfl (lv_at hl 2 rfl) ?_
                            obtain ⟨u33, hu33, h⟩ := bd_some h
                            refine k_cis (rest := [.int u32.1]) (k_V C D (c_Mo_close l g hD u32.2 u33 hu33) wc_Mo_close wm_Law_62 wi_Mo_close wd_Mo_close (by decide) sh_66 kc_Mo.1 rfl rfl hl (Nat.le_of_ble_eq_true rfl) ⟨by decide, by decide⟩ hroom d_law_357) D (fun H locs D => ?_)
                            refine lv_icmp_eq hx hb d_law_360 rfl (fun z => ?_) (fun z => ?_)
                            · replace h := if_t z h
                              exact B451 _ hK18 _ _ _ _ _ h D (lv_sub hl [0, 1, 2, 3] rfl)
                            · replace h := if_f z h
                              refine lv_iconst (v := 0) hx hb d_law_363 (by decide) ?_
                              cases h
                          · replace h := if_f e31 h
                            by_cases e34 : ((xs a3.toNatClampNeg) &&& 31) = 11
                            · replace h := if_t e34 h
                              refine lv_tableIn (off := 333) hx hb d_law_32 (by rw [e34]; decide) (by rw [e34]; decide) (by rw [e34]; rfl) rfl ?_
                              refine lv_aload_n hx hb d_law_365 rfl (lv_at hl 1 rfl) ?_
                              obtain ⟨u35, hu35, h⟩ := bd_some h
                              refine k_cvs (rest := []) (k_V C D (c_TC_reset l g hD S u35 hu35) wc_TC_reset wm_Law_63 wi_TC_reset wd_TC_reset (by decide) sh_0 kc_TC.1 rfl rfl hl (Nat.le_of_ble_eq_true rfl) ⟨by decide, by decide⟩ hroom d_law_366) D (fun H locs D => ?_)
                              refine lv_aload_n hx hb d_law_369 rfl (lv_at hl 2 rfl) ?_
                              obtain ⟨u36, hu36, h⟩ := bd_some h
                              refine k_cvs (rest := []) (k_V C D (c_Mo_reset l g hD u35 u36 hu36) wc_Mo_reset wm_Law_66 wi_Mo_reset wd_Mo_reset (by decide) sh_66 kc_Mo.1 rfl rfl hl (Nat.le_of_ble_eq_true rfl) ⟨by decide, by decide⟩ hroom d_law_370) D (fun H locs D => ?_)
                              refine lv_goto hx hb d_law_373 rfl ?_
                              exact B451 _ hK18 _ _ _ _ _ h D (lv_sub hl [0, 1, 2, 3] rfl)
                            · replace h := if_f e34 h
                              by_cases e37 : ((xs a3.toNatClampNeg) &&& 31) = 12
                              · replace h := if_t e37 h
                                refine lv_tableIn (off := 344) hx hb d_law_32 (by rw [e37]; decide) (by rw [e37]; decide) (by rw [e37]; rfl) rfl ?_
                                refine lv_aload_n hx hb d_law_376 rfl (lv_at hl 1 rfl) ?_
                                obtain ⟨u38, hu38, h⟩ := bd_some h
                                refine k_cip (rest := []) (k_V C D (c_TC_state l g hD S u38 hu38) wc_TC_state wm_Law_67 wi_TC_state wd_TC_state (by decide) sh_0 kc_TC.1 rfl rfl hl (Nat.le_of_ble_eq_true rfl) ⟨by decide, by decide⟩ hroom d_law_377) D (fun H locs D => ?_)
                                refine lv_aload_n hx hb d_law_380 rfl (lv_at hl 2 rfl) ?_
                                obtain ⟨u39, hu39, h⟩ := bd_some h
                                refine k_cis (rest := [.int u38]) (k_V C D (c_Mo_state l g hD S u39 hu39) wc_Mo_state wm_Law_70 wi_Mo_state wd_Mo_state (by decide) sh_66 kc_Mo.1 rfl rfl hl (Nat.le_of_ble_eq_true rfl) ⟨by decide, by decide⟩ hroom d_law_381) D (fun H locs D => ?_)
                                refine lv_icmp_eq hx hb d_law_384 rfl (fun z => ?_) (fun z => ?_)
                                · replace h := if_t z h
                                  exact B451 _ hK18 _ _ _ _ _ h D (lv_sub hl [0, 1, 2, 3] rfl)
                                · replace h := if_f z h
                                  refine lv_iconst (v := 0) hx hb d_law_387 (by decide) ?_
                                  cases h
                              · replace h := if_f e37 h
                                by_cases e40 : ((xs a3.toNatClampNeg) &&& 31) = 13
                                · replace h := if_t e40 h
                                  refine lv_tableIn (off := 357) hx hb d_law_32 (by rw [e40]; decide) (by rw [e40]; decide) (by rw [e40]; rfl) rfl ?_
                                  refine lv_aload_n hx hb d_law_389 rfl (lv_at hl 1 rfl) ?_
                                  obtain ⟨u41, hu41, h⟩ := bd_some h
                                  refine k_cip (rest := []) (k_V C D (c_TC_status l g hD S u41 hu41) wc_TC_status wm_Law_71 wi_TC_status wd_TC_status (by decide) sh_0 kc_TC.1 rfl rfl hl (Nat.le_of_ble_eq_true rfl) ⟨by decide, by decide⟩ hroom d_law_390) D (fun H locs D => ?_)
                                  refine lv_aload_n hx hb d_law_393 rfl (lv_at hl 2 rfl) ?_
                                  obtain ⟨u42, hu42, h⟩ := bd_some h
                                  refine k_cis (rest := [.int u41]) (k_V C D (c_Mo_status l g hD S u42 hu42) wc_Mo_status wm_Law_74 wi_Mo_status wd_Mo_status (by decide) sh_66 kc_Mo.1 rfl rfl hl (Nat.le_of_ble_eq_true rfl) ⟨by decide, by decide⟩ hroom d_law_394) D (fun H locs D => ?_)
                                  refine lv_icmp_eq hx hb d_law_397 rfl (fun z => ?_) (fun z => ?_)
                                  · replace h := if_t z h
                                    exact B451 _ hK18 _ _ _ _ _ h D (lv_sub hl [0, 1, 2, 3] rfl)
                                  · replace h := if_f z h
                                    refine lv_iconst (v := 0) hx hb d_law_400 (by decide) ?_
                                    cases h
                                · replace h := if_f e40 h
                                  by_cases e43 : ((xs a3.toNatClampNeg) &&& 31) = 14
                                  · replace h := if_t e43 h
                                    refine lv_tableIn (off := 370) hx hb d_law_32 (by rw [e43]; decide) (by rw [e43]; decide) (by rw [e43]; rfl) rfl ?_
                                    refine lv_aload_n hx hb d_law_402 rfl (lv_at hl 1 rfl) ?_
                                    obtain ⟨u44, hu44, h⟩ := bd_some h
                                    refine k_cip (rest := []) (k_V C D (c_TC_fields l g hD S u44 hu44) wc_TC_fields wm_Law_75 wi_TC_fields wd_TC_fields (by decide) sh_0 kc_TC.1 rfl rfl hl (Nat.le_of_ble_eq_true rfl) ⟨by decide, by decide⟩ hroom d_law_403) D (fun H locs D => ?_)
                                    refine lv_aload_n hx hb d_law_406 rfl (lv_at hl 2 rfl) ?_
                                    obtain ⟨u45, hu45, h⟩ := bd_some h
                                    refine k_cis (rest := [.int u44]) (k_V C D (c_Mo_fields l g hD S u45 hu45) wc_Mo_fields wm_Law_78 wi_Mo_fields wd_Mo_fields (by decide) sh_66 kc_Mo.1 rfl rfl hl (Nat.le_of_ble_eq_true rfl) ⟨by decide, by decide⟩ hroom d_law_407) D (fun H locs D => ?_)
                                    refine lv_icmp_eq hx hb d_law_410 rfl (fun z => ?_) (fun z => ?_)
                                    · replace h := if_t z h
                                      exact B451 _ hK18 _ _ _ _ _ h D (lv_sub hl [0, 1, 2, 3] rfl)
                                    · replace h := if_f z h
                                      refine lv_iconst (v := 0) hx hb d_law_413 (by decide) ?_
                                      cases h
                                  · replace h := if_f e43 h
                                    by_cases e46 : ((xs a3.toNatClampNeg) &&& 31) = 15
                                    · replace h := if_t e46 h
                                      refine lv_tableIn (off := 383) hx hb d_law_32 (by rw [e46]; decide) (by rw [e46]; decide) (by rw [e46]; rfl) rfl ?_
                                      refine lv_aload_n hx hb d_law_415 rfl (lv_at hl 1 rfl) ?_
                                      obtain ⟨u47, hu47, h⟩ := bd_some h
                                      refine k_cip (rest := []) (k_V C D (c_TC_length l g hD S u47 hu47) wc_TC_length wm_Law_79 wi_TC_length wd_TC_length (by decide) sh_0 kc_TC.1 rfl rfl hl (Nat.le_of_ble_eq_true rfl) ⟨by decide, by decide⟩ hroom d_law_416) D (fun H locs D => ?_)
                                      refine lv_aload_n hx hb d_law_419 rfl (lv_at hl 2 rfl) ?_
                                      obtain ⟨u48, hu48, h⟩ := bd_some h
                                      refine k_cis (rest := [.int u47]) (k_V C D (c_Mo_length l g hD S u48 hu48) wc_Mo_length wm_Law_82 wi_Mo_length wd_Mo_length (by decide) sh_66 kc_Mo.1 rfl rfl hl (Nat.le_of_ble_eq_true rfl) ⟨by decide, by decide⟩ hroom d_law_420) D (fun H locs D => ?_)
                                      refine lv_icmp_eq hx hb d_law_423 rfl (fun z => ?_) (fun z => ?_)
                                      · replace h := if_t z h
                                        exact B451 _ hK18 _ _ _ _ _ h D (lv_sub hl [0, 1, 2, 3] rfl)
                                      · replace h := if_f z h
                                        refine lv_iconst (v := 0) hx hb d_law_426 (by decide) ?_
                                        cases h
                                    · replace h := if_f e46 h
                                      by_cases e49 : ((xs a3.toNatClampNeg) &&& 31) = 16
                                      · replace h := if_t e49 h
                                        refine lv_tableIn (off := 396) hx hb d_law_32 (by rw [e49]; decide) (by rw [e49]; decide) (by rw [e49]; rfl) rfl ?_
                                        refine lv_aload_n hx hb d_law_428 rfl (lv_at hl 1 rfl) ?_
                                        refine lv_aload_n hx hb d_law_429 rfl (lv_at hl 0 rfl) ?_
                                        refine lv_iload_n hx hb d_law_430 rfl (lv_at hl 3 rfl) ?_
                                        refine lv_iconst (v := 1) hx hb d_law_431 (by decide) ?_
                                        refine lv_iadd hx hb d_law_432 ?_
                                        refine x_sld C D hX hbl hbA d_law_433 h (fun _ h => ?_)
                                        obtain ⟨u50, hu50, h⟩ := bd_some h
                                        refine k_cip (rest := []) (k_V C D (c_TC_content l g hD (xs (a3 + 1).toNatClampNeg) S u50 hu50) wc_TC_content wm_Law_83 wi_TC_content wd_TC_content (by decide) sh_0 kc_TC.1 rfl rfl hl (Nat.le_of_ble_eq_true rfl) ⟨by decide, by decide⟩ hroom d_law_434) D (fun H locs D => ?_)
                                        refine lv_aload_n hx hb d_law_437 rfl (lv_at hl 2 rfl) ?_
                                        refine lv_aload_n hx hb d_law_438 rfl (lv_at hl 0 rfl) ?_
                                        refine lv_iload_n hx hb d_law_439 rfl (lv_at hl 3 rfl) ?_
                                        refine lv_iconst (v := 1) hx hb d_law_440 (by decide) ?_
                                        refine lv_iadd hx hb d_law_441 ?_
                                        refine x_sld C D hX hbl hbA d_law_442 h (fun _ h => ?_)
                                        obtain ⟨u51, hu51, h⟩ := bd_some h
                                        refine k_cis (rest := [.int u50]) (k_V C D (c_Mo_content l g hD (xs (a3 + 1).toNatClampNeg) S u51 hu51) wc_Mo_content wm_Law_86 wi_Mo_content wd_Mo_content (by decide) sh_66 kc_Mo.1 rfl rfl hl (Nat.le_of_ble_eq_true rfl) ⟨by decide, by decide⟩ hroom d_law_443) D (fun H locs D => ?_)
                                        refine lv_icmp_eq hx hb d_law_446 rfl (fun z => ?_) (fun z => ?_)
                                        · replace h := if_t z h
                                          exact B451 _ hK18 _ _ _ _ _ h D (lv_sub hl [0, 1, 2, 3] rfl)
                                        · replace h := if_f z h
                                          refine lv_iconst (v := 0) hx hb d_law_449 (by decide) ?_
                                          cases h
                                      · replace h := if_f e49 h
                                        have ne1 := lv_neT e1 (a := 0) (by decide)
                                        have ne4 := lv_neT e4 (a := 1) (by decide)
                                        have ne7 := lv_neT e7 (a := 2) (by decide)
                                        have ne10 := lv_neT e10 (a := 3) (by decide)
                                        have ne13 := lv_neT e13 (a := 4) (by decide)
                                        have ne16 := lv_neT e16 (a := 5) (by decide)
                                        have ne19 := lv_neT e19 (a := 6) (by decide)
                                        have ne22 := lv_neT e22 (a := 7) (by decide)
                                        have ne25 := lv_neT e25 (a := 8) (by decide)
                                        have ne28 := lv_neT e28 (a := 9) (by decide)
                                        have ne31 := lv_neT e31 (a := 10) (by decide)
                                        have ne34 := lv_neT e34 (a := 11) (by decide)
                                        have ne37 := lv_neT e37 (a := 12) (by decide)
                                        have ne40 := lv_neT e40 (a := 13) (by decide)
                                        have ne43 := lv_neT e43 (a := 14) (by decide)
                                        have ne46 := lv_neT e46 (a := 15) (by decide)
                                        have ne49 := lv_neT e49 (a := 16) (by decide)
                                        refine lv_tableOut hx hb d_law_32 (by omega) rfl ?_
                                        exact B451 _ hK18 _ _ _ _ _ h D (lv_sub hl [0, 1, 2, 3] rfl)
