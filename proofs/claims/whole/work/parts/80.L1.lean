/-! the law: rows of its script -/
theorem lz_Rc : 600000 ≤ room_1.cells := Nat.le_of_ble_eq_true rfl
theorem lz_Rs : 7290000 ≤ room_1.slots := Nat.le_of_ble_eq_true rfl
section LZS
variable {p : Program} {l : Launch} {e : Env} {R : Room} {s : State} {m : MethodId} {args : Array Value} {below : List Frame} {meth : Method} {c : Code} {H : Heap} {locs : List Loc} {cells slots : Nat} {Q : State → Prop} {A : Nat → Prop}
theorem lz_sld {cc : ByteArray} {b L k pc : Nat} {xs : Nat → Int32} {ls : Array Slot} {rest : List Value} (hx : p.tables.exec = Jvm.exec) (hb : c.code = cc) (hX : va_X b L xs s s.heap) (hbl : b < s.heap.size) (hbA : ¬ A b) (hS : va_S A s.heap H locs) (hk : k < L) (hk2 : k < 2 ^ 31) (hd : decode cc pc = .ok (.iaload, 1)) (kk : W p l e R s m args below meth c H locs cells slots Q (F0 m (pc + 1) ls (.int (xs k) :: rest))) : W p l e R s m args below meth c H locs cells slots Q (F0 m pc ls (.int (nI k) :: .ref b :: rest)) := by
  have e9 := nI_clamp (n := k) hk2
  refine va_sld hx hb hX hbl hbA hS ?_ hd ?_
  · intro h
    rcases h with h | h
    · rw [Int32.lt_iff_toInt_lt, nI_toInt hk2, show (0 : Int32).toInt = 0 by decide] at h; omega
    · rw [e9] at h; omega
  · rw [e9]; exact kk
theorem lz_slen {cc : ByteArray} {b L pc : Nat} {xs : Nat → Int32} {ls : Array Slot} {rest : List Value} (hx : p.tables.exec = Jvm.exec) (hb : c.code = cc) (hX : va_X b L xs s s.heap) (hbl : b < s.heap.size) (hbA : ¬ A b) (hS : va_S A s.heap H locs) (hd : decode cc pc = .ok (.arraylength, 1)) (kk : W p l e R s m args below meth c H locs cells slots Q (F0 m (pc + 1) ls (.int (nI L) :: rest))) : W p l e R s m args below meth c H locs cells slots Q (F0 m pc ls (.ref b :: rest)) :=
  va_slen hx hb hX hbl hbA hS hd kk
theorem lz_hh (hAd : ∀ q, A q → s.heap.size ≤ q) (hS : va_S A s.heap H locs) : ∀ (q : Nat) (cell : Cell), s.heap[q]? = some cell → cell.vm.isStatics = true → H[q]? = some cell := fun q cell h _ => by
  have hq : q < s.heap.size := vt_lt h
  rw [hS.2.1 q hq (fun a => absurd (hAd q a) (by omega))]
  exact h
end LZS
abbrev bb_L_law : ByteArray := code
def ww_L_law : List Cond := .initialized rr_L :: kx_T
theorem dd_L_law_0 : decode bb_L_law 0 = .ok (.new 8, 3) := by decide +kernel
theorem dd_L_law_3 : decode bb_L_law 3 = .ok (.dup, 1) := by decide +kernel
theorem dd_L_law_4 : decode bb_L_law 4 = .ok (.invokespecial 21, 3) := by decide +kernel
theorem dd_L_law_7 : decode bb_L_law 7 = .ok (.astore_n 1, 1) := by decide +kernel
theorem dd_L_law_8 : decode bb_L_law 8 = .ok (.new 22, 3) := by decide +kernel
theorem dd_L_law_11 : decode bb_L_law 11 = .ok (.dup, 1) := by decide +kernel
theorem dd_L_law_12 : decode bb_L_law 12 = .ok (.invokespecial 24, 3) := by decide +kernel
theorem dd_L_law_15 : decode bb_L_law 15 = .ok (.astore_n 2, 1) := by decide +kernel
theorem dd_L_law_16 : decode bb_L_law 16 = .ok (.iconst 1, 1) := by decide +kernel
theorem dd_L_law_17 : decode bb_L_law 17 = .ok (.newarray .long, 2) := by decide +kernel
theorem dd_L_law_19 : decode bb_L_law 19 = .ok (.astore_n 3, 1) := by decide +kernel
theorem dd_L_law_20 : decode bb_L_law 20 = .ok (.iconst 0, 1) := by decide +kernel
theorem dd_L_law_21 : decode bb_L_law 21 = .ok (.istore 4, 2) := by decide +kernel
theorem dd_L_law_23 : decode bb_L_law 23 = .ok (.iload 4, 2) := by decide +kernel
theorem dd_L_law_25 : decode bb_L_law 25 = .ok (.aload_n 0, 1) := by decide +kernel
theorem dd_L_law_26 : decode bb_L_law 26 = .ok (.arraylength, 1) := by decide +kernel
theorem dd_L_law_27 : decode bb_L_law 27 = .ok (.bipush (6), 2) := by decide +kernel
theorem dd_L_law_29 : decode bb_L_law 29 = .ok (.isub, 1) := by decide +kernel
theorem dd_L_law_30 : decode bb_L_law 30 = .ok (.if_icmp .gt (573), 3) := by decide +kernel
theorem dd_L_law_33 : decode bb_L_law 33 = .ok (.aload_n 0, 1) := by decide +kernel
theorem dd_L_law_34 : decode bb_L_law 34 = .ok (.iload 4, 2) := by decide +kernel
theorem dd_L_law_36 : decode bb_L_law 36 = .ok (.iaload, 1) := by decide +kernel
theorem dd_L_law_37 : decode bb_L_law 37 = .ok (.bipush (15), 2) := by decide +kernel
theorem dd_L_law_39 : decode bb_L_law 39 = .ok (.iand, 1) := by decide +kernel
theorem dd_L_law_40 : decode bb_L_law 40 = .ok (.tableswitch (557) (0) (11) #[64, 101, 138, 211, 236, 297, 322, 347, 408, 419, 463, 531], 64) := by decide +kernel
theorem dd_L_law_104 : decode bb_L_law 104 = .ok (.aload_n 1, 1) := by decide +kernel
theorem dd_L_law_105 : decode bb_L_law 105 = .ok (.aload_n 0, 1) := by decide +kernel
theorem dd_L_law_106 : decode bb_L_law 106 = .ok (.iload 4, 2) := by decide +kernel
theorem dd_L_law_108 : decode bb_L_law 108 = .ok (.iconst 1, 1) := by decide +kernel
theorem dd_L_law_109 : decode bb_L_law 109 = .ok (.iadd, 1) := by decide +kernel
theorem dd_L_law_110 : decode bb_L_law 110 = .ok (.iaload, 1) := by decide +kernel
theorem dd_L_law_111 : decode bb_L_law 111 = .ok (.aload_n 0, 1) := by decide +kernel
theorem dd_L_law_112 : decode bb_L_law 112 = .ok (.iload 4, 2) := by decide +kernel
theorem dd_L_law_114 : decode bb_L_law 114 = .ok (.iconst 2, 1) := by decide +kernel
theorem dd_L_law_115 : decode bb_L_law 115 = .ok (.iadd, 1) := by decide +kernel
theorem dd_L_law_116 : decode bb_L_law 116 = .ok (.iaload, 1) := by decide +kernel
theorem dd_L_law_117 : decode bb_L_law 117 = .ok (.invokevirtual 25, 3) := by decide +kernel
theorem dd_L_law_120 : decode bb_L_law 120 = .ok (.aload_n 2, 1) := by decide +kernel
theorem dd_L_law_121 : decode bb_L_law 121 = .ok (.aload_n 0, 1) := by decide +kernel
theorem dd_L_law_122 : decode bb_L_law 122 = .ok (.iload 4, 2) := by decide +kernel
theorem dd_L_law_124 : decode bb_L_law 124 = .ok (.iconst 1, 1) := by decide +kernel
theorem dd_L_law_125 : decode bb_L_law 125 = .ok (.iadd, 1) := by decide +kernel
theorem dd_L_law_126 : decode bb_L_law 126 = .ok (.iaload, 1) := by decide +kernel
theorem dd_L_law_127 : decode bb_L_law 127 = .ok (.aload_n 0, 1) := by decide +kernel
theorem dd_L_law_128 : decode bb_L_law 128 = .ok (.iload 4, 2) := by decide +kernel
theorem dd_L_law_130 : decode bb_L_law 130 = .ok (.iconst 2, 1) := by decide +kernel
theorem dd_L_law_131 : decode bb_L_law 131 = .ok (.iadd, 1) := by decide +kernel
theorem dd_L_law_132 : decode bb_L_law 132 = .ok (.iaload, 1) := by decide +kernel
theorem dd_L_law_133 : decode bb_L_law 133 = .ok (.invokevirtual 29, 3) := by decide +kernel
theorem dd_L_law_136 : decode bb_L_law 136 = .ok (.if_icmp .eq (461), 3) := by decide +kernel
theorem dd_L_law_139 : decode bb_L_law 139 = .ok (.iconst 0, 1) := by decide +kernel
theorem dd_L_law_140 : decode bb_L_law 140 = .ok (.ireturn, 1) := by decide +kernel
theorem dd_L_law_141 : decode bb_L_law 141 = .ok (.aload_n 1, 1) := by decide +kernel
theorem dd_L_law_142 : decode bb_L_law 142 = .ok (.aload_n 0, 1) := by decide +kernel
theorem dd_L_law_143 : decode bb_L_law 143 = .ok (.iload 4, 2) := by decide +kernel
theorem dd_L_law_145 : decode bb_L_law 145 = .ok (.iconst 1, 1) := by decide +kernel
theorem dd_L_law_146 : decode bb_L_law 146 = .ok (.iadd, 1) := by decide +kernel
theorem dd_L_law_147 : decode bb_L_law 147 = .ok (.iaload, 1) := by decide +kernel
theorem dd_L_law_148 : decode bb_L_law 148 = .ok (.aload_n 0, 1) := by decide +kernel
theorem dd_L_law_149 : decode bb_L_law 149 = .ok (.iload 4, 2) := by decide +kernel
theorem dd_L_law_151 : decode bb_L_law 151 = .ok (.iconst 2, 1) := by decide +kernel
theorem dd_L_law_152 : decode bb_L_law 152 = .ok (.iadd, 1) := by decide +kernel
theorem dd_L_law_153 : decode bb_L_law 153 = .ok (.iaload, 1) := by decide +kernel
theorem dd_L_law_154 : decode bb_L_law 154 = .ok (.invokevirtual 30, 3) := by decide +kernel
theorem dd_L_law_157 : decode bb_L_law 157 = .ok (.aload_n 2, 1) := by decide +kernel
theorem dd_L_law_158 : decode bb_L_law 158 = .ok (.aload_n 0, 1) := by decide +kernel
theorem dd_L_law_159 : decode bb_L_law 159 = .ok (.iload 4, 2) := by decide +kernel
theorem dd_L_law_161 : decode bb_L_law 161 = .ok (.iconst 1, 1) := by decide +kernel
theorem dd_L_law_162 : decode bb_L_law 162 = .ok (.iadd, 1) := by decide +kernel
theorem dd_L_law_163 : decode bb_L_law 163 = .ok (.iaload, 1) := by decide +kernel
theorem dd_L_law_164 : decode bb_L_law 164 = .ok (.aload_n 0, 1) := by decide +kernel
theorem dd_L_law_165 : decode bb_L_law 165 = .ok (.iload 4, 2) := by decide +kernel
theorem dd_L_law_167 : decode bb_L_law 167 = .ok (.iconst 2, 1) := by decide +kernel
theorem dd_L_law_168 : decode bb_L_law 168 = .ok (.iadd, 1) := by decide +kernel
theorem dd_L_law_169 : decode bb_L_law 169 = .ok (.iaload, 1) := by decide +kernel
theorem dd_L_law_170 : decode bb_L_law 170 = .ok (.invokevirtual 33, 3) := by decide +kernel
theorem dd_L_law_173 : decode bb_L_law 173 = .ok (.if_icmp .eq (424), 3) := by decide +kernel
theorem dd_L_law_176 : decode bb_L_law 176 = .ok (.iconst 0, 1) := by decide +kernel
theorem dd_L_law_177 : decode bb_L_law 177 = .ok (.ireturn, 1) := by decide +kernel
theorem dd_L_law_178 : decode bb_L_law 178 = .ok (.aload_n 1, 1) := by decide +kernel
theorem dd_L_law_179 : decode bb_L_law 179 = .ok (.aload_n 0, 1) := by decide +kernel
theorem dd_L_law_180 : decode bb_L_law 180 = .ok (.iload 4, 2) := by decide +kernel
theorem dd_L_law_182 : decode bb_L_law 182 = .ok (.iconst 1, 1) := by decide +kernel
theorem dd_L_law_183 : decode bb_L_law 183 = .ok (.iadd, 1) := by decide +kernel
theorem dd_L_law_184 : decode bb_L_law 184 = .ok (.iaload, 1) := by decide +kernel
theorem dd_L_law_185 : decode bb_L_law 185 = .ok (.aload_n 0, 1) := by decide +kernel
theorem dd_L_law_186 : decode bb_L_law 186 = .ok (.iload 4, 2) := by decide +kernel
theorem dd_L_law_188 : decode bb_L_law 188 = .ok (.iconst 2, 1) := by decide +kernel
theorem dd_L_law_189 : decode bb_L_law 189 = .ok (.iadd, 1) := by decide +kernel
theorem dd_L_law_190 : decode bb_L_law 190 = .ok (.iaload, 1) := by decide +kernel
theorem dd_L_law_191 : decode bb_L_law 191 = .ok (.aload_n 0, 1) := by decide +kernel
theorem dd_L_law_192 : decode bb_L_law 192 = .ok (.iload 4, 2) := by decide +kernel
theorem dd_L_law_194 : decode bb_L_law 194 = .ok (.iconst 3, 1) := by decide +kernel
theorem dd_L_law_195 : decode bb_L_law 195 = .ok (.iadd, 1) := by decide +kernel
theorem dd_L_law_196 : decode bb_L_law 196 = .ok (.iaload, 1) := by decide +kernel
theorem dd_L_law_197 : decode bb_L_law 197 = .ok (.aload_n 0, 1) := by decide +kernel
theorem dd_L_law_198 : decode bb_L_law 198 = .ok (.iload 4, 2) := by decide +kernel
theorem dd_L_law_200 : decode bb_L_law 200 = .ok (.iconst 4, 1) := by decide +kernel
theorem dd_L_law_201 : decode bb_L_law 201 = .ok (.iadd, 1) := by decide +kernel
theorem dd_L_law_202 : decode bb_L_law 202 = .ok (.iaload, 1) := by decide +kernel
theorem dd_L_law_203 : decode bb_L_law 203 = .ok (.aload_n 0, 1) := by decide +kernel
theorem dd_L_law_204 : decode bb_L_law 204 = .ok (.iload 4, 2) := by decide +kernel
theorem dd_L_law_206 : decode bb_L_law 206 = .ok (.iconst 5, 1) := by decide +kernel
theorem dd_L_law_207 : decode bb_L_law 207 = .ok (.iadd, 1) := by decide +kernel
theorem dd_L_law_208 : decode bb_L_law 208 = .ok (.iaload, 1) := by decide +kernel
theorem dd_L_law_209 : decode bb_L_law 209 = .ok (.invokevirtual 34, 3) := by decide +kernel
theorem dd_L_law_212 : decode bb_L_law 212 = .ok (.aload_n 2, 1) := by decide +kernel
theorem dd_L_law_213 : decode bb_L_law 213 = .ok (.aload_n 0, 1) := by decide +kernel
theorem dd_L_law_214 : decode bb_L_law 214 = .ok (.iload 4, 2) := by decide +kernel
theorem dd_L_law_216 : decode bb_L_law 216 = .ok (.iconst 1, 1) := by decide +kernel
theorem dd_L_law_217 : decode bb_L_law 217 = .ok (.iadd, 1) := by decide +kernel
theorem dd_L_law_218 : decode bb_L_law 218 = .ok (.iaload, 1) := by decide +kernel
theorem dd_L_law_219 : decode bb_L_law 219 = .ok (.aload_n 0, 1) := by decide +kernel
theorem dd_L_law_220 : decode bb_L_law 220 = .ok (.iload 4, 2) := by decide +kernel
theorem dd_L_law_222 : decode bb_L_law 222 = .ok (.iconst 2, 1) := by decide +kernel
theorem dd_L_law_223 : decode bb_L_law 223 = .ok (.iadd, 1) := by decide +kernel
theorem dd_L_law_224 : decode bb_L_law 224 = .ok (.iaload, 1) := by decide +kernel
theorem dd_L_law_225 : decode bb_L_law 225 = .ok (.aload_n 0, 1) := by decide +kernel
theorem dd_L_law_226 : decode bb_L_law 226 = .ok (.iload 4, 2) := by decide +kernel
theorem dd_L_law_228 : decode bb_L_law 228 = .ok (.iconst 3, 1) := by decide +kernel
theorem dd_L_law_229 : decode bb_L_law 229 = .ok (.iadd, 1) := by decide +kernel
theorem dd_L_law_230 : decode bb_L_law 230 = .ok (.iaload, 1) := by decide +kernel
theorem dd_L_law_231 : decode bb_L_law 231 = .ok (.aload_n 0, 1) := by decide +kernel
theorem dd_L_law_232 : decode bb_L_law 232 = .ok (.iload 4, 2) := by decide +kernel
theorem dd_L_law_234 : decode bb_L_law 234 = .ok (.iconst 4, 1) := by decide +kernel
theorem dd_L_law_235 : decode bb_L_law 235 = .ok (.iadd, 1) := by decide +kernel
theorem dd_L_law_236 : decode bb_L_law 236 = .ok (.iaload, 1) := by decide +kernel
theorem dd_L_law_237 : decode bb_L_law 237 = .ok (.aload_n 0, 1) := by decide +kernel
theorem dd_L_law_238 : decode bb_L_law 238 = .ok (.iload 4, 2) := by decide +kernel
theorem dd_L_law_240 : decode bb_L_law 240 = .ok (.iconst 5, 1) := by decide +kernel
theorem dd_L_law_241 : decode bb_L_law 241 = .ok (.iadd, 1) := by decide +kernel
theorem dd_L_law_242 : decode bb_L_law 242 = .ok (.iaload, 1) := by decide +kernel
theorem dd_L_law_243 : decode bb_L_law 243 = .ok (.invokevirtual 38, 3) := by decide +kernel
theorem dd_L_law_246 : decode bb_L_law 246 = .ok (.if_icmp .eq (351), 3) := by decide +kernel
theorem dd_L_law_249 : decode bb_L_law 249 = .ok (.iconst 0, 1) := by decide +kernel
theorem dd_L_law_250 : decode bb_L_law 250 = .ok (.ireturn, 1) := by decide +kernel
theorem dd_L_law_251 : decode bb_L_law 251 = .ok (.aload_n 1, 1) := by decide +kernel
theorem dd_L_law_252 : decode bb_L_law 252 = .ok (.aload_n 0, 1) := by decide +kernel
theorem dd_L_law_253 : decode bb_L_law 253 = .ok (.iload 4, 2) := by decide +kernel
theorem dd_L_law_255 : decode bb_L_law 255 = .ok (.iconst 1, 1) := by decide +kernel
theorem dd_L_law_256 : decode bb_L_law 256 = .ok (.iadd, 1) := by decide +kernel
theorem dd_L_law_257 : decode bb_L_law 257 = .ok (.iaload, 1) := by decide +kernel
theorem dd_L_law_258 : decode bb_L_law 258 = .ok (.invokevirtual 39, 3) := by decide +kernel
theorem dd_L_law_261 : decode bb_L_law 261 = .ok (.aload_n 2, 1) := by decide +kernel
theorem dd_L_law_262 : decode bb_L_law 262 = .ok (.aload_n 0, 1) := by decide +kernel
theorem dd_L_law_263 : decode bb_L_law 263 = .ok (.iload 4, 2) := by decide +kernel
theorem dd_L_law_265 : decode bb_L_law 265 = .ok (.iconst 1, 1) := by decide +kernel
theorem dd_L_law_266 : decode bb_L_law 266 = .ok (.iadd, 1) := by decide +kernel
theorem dd_L_law_267 : decode bb_L_law 267 = .ok (.iaload, 1) := by decide +kernel
theorem dd_L_law_268 : decode bb_L_law 268 = .ok (.invokevirtual 43, 3) := by decide +kernel
theorem dd_L_law_271 : decode bb_L_law 271 = .ok (.if_icmp .eq (326), 3) := by decide +kernel
theorem dd_L_law_274 : decode bb_L_law 274 = .ok (.iconst 0, 1) := by decide +kernel
theorem dd_L_law_275 : decode bb_L_law 275 = .ok (.ireturn, 1) := by decide +kernel
theorem dd_L_law_276 : decode bb_L_law 276 = .ok (.aload_n 1, 1) := by decide +kernel
theorem dd_L_law_277 : decode bb_L_law 277 = .ok (.aload_n 0, 1) := by decide +kernel
theorem dd_L_law_278 : decode bb_L_law 278 = .ok (.iload 4, 2) := by decide +kernel
theorem dd_L_law_280 : decode bb_L_law 280 = .ok (.iconst 1, 1) := by decide +kernel
theorem dd_L_law_281 : decode bb_L_law 281 = .ok (.iadd, 1) := by decide +kernel
theorem dd_L_law_282 : decode bb_L_law 282 = .ok (.iaload, 1) := by decide +kernel
theorem dd_L_law_283 : decode bb_L_law 283 = .ok (.aload_n 0, 1) := by decide +kernel
theorem dd_L_law_284 : decode bb_L_law 284 = .ok (.iload 4, 2) := by decide +kernel
theorem dd_L_law_286 : decode bb_L_law 286 = .ok (.iconst 2, 1) := by decide +kernel
theorem dd_L_law_287 : decode bb_L_law 287 = .ok (.iadd, 1) := by decide +kernel
theorem dd_L_law_288 : decode bb_L_law 288 = .ok (.iaload, 1) := by decide +kernel
theorem dd_L_law_289 : decode bb_L_law 289 = .ok (.aload_n 0, 1) := by decide +kernel
theorem dd_L_law_290 : decode bb_L_law 290 = .ok (.iload 4, 2) := by decide +kernel
theorem dd_L_law_292 : decode bb_L_law 292 = .ok (.iconst 3, 1) := by decide +kernel
theorem dd_L_law_293 : decode bb_L_law 293 = .ok (.iadd, 1) := by decide +kernel
theorem dd_L_law_294 : decode bb_L_law 294 = .ok (.iaload, 1) := by decide +kernel
theorem dd_L_law_295 : decode bb_L_law 295 = .ok (.aload_n 0, 1) := by decide +kernel
theorem dd_L_law_296 : decode bb_L_law 296 = .ok (.iload 4, 2) := by decide +kernel
theorem dd_L_law_298 : decode bb_L_law 298 = .ok (.iconst 4, 1) := by decide +kernel
theorem dd_L_law_299 : decode bb_L_law 299 = .ok (.iadd, 1) := by decide +kernel
theorem dd_L_law_300 : decode bb_L_law 300 = .ok (.iaload, 1) := by decide +kernel
theorem dd_L_law_301 : decode bb_L_law 301 = .ok (.invokevirtual 44, 3) := by decide +kernel
theorem dd_L_law_304 : decode bb_L_law 304 = .ok (.aload_n 2, 1) := by decide +kernel
theorem dd_L_law_305 : decode bb_L_law 305 = .ok (.aload_n 0, 1) := by decide +kernel
theorem dd_L_law_306 : decode bb_L_law 306 = .ok (.iload 4, 2) := by decide +kernel
theorem dd_L_law_308 : decode bb_L_law 308 = .ok (.iconst 1, 1) := by decide +kernel
theorem dd_L_law_309 : decode bb_L_law 309 = .ok (.iadd, 1) := by decide +kernel
theorem dd_L_law_310 : decode bb_L_law 310 = .ok (.iaload, 1) := by decide +kernel
theorem dd_L_law_311 : decode bb_L_law 311 = .ok (.aload_n 0, 1) := by decide +kernel
theorem dd_L_law_312 : decode bb_L_law 312 = .ok (.iload 4, 2) := by decide +kernel
theorem dd_L_law_314 : decode bb_L_law 314 = .ok (.iconst 2, 1) := by decide +kernel
theorem dd_L_law_315 : decode bb_L_law 315 = .ok (.iadd, 1) := by decide +kernel
theorem dd_L_law_316 : decode bb_L_law 316 = .ok (.iaload, 1) := by decide +kernel
theorem dd_L_law_317 : decode bb_L_law 317 = .ok (.aload_n 0, 1) := by decide +kernel
theorem dd_L_law_318 : decode bb_L_law 318 = .ok (.iload 4, 2) := by decide +kernel
theorem dd_L_law_320 : decode bb_L_law 320 = .ok (.iconst 3, 1) := by decide +kernel
theorem dd_L_law_321 : decode bb_L_law 321 = .ok (.iadd, 1) := by decide +kernel
theorem dd_L_law_322 : decode bb_L_law 322 = .ok (.iaload, 1) := by decide +kernel
theorem dd_L_law_323 : decode bb_L_law 323 = .ok (.aload_n 0, 1) := by decide +kernel
theorem dd_L_law_324 : decode bb_L_law 324 = .ok (.iload 4, 2) := by decide +kernel
theorem dd_L_law_326 : decode bb_L_law 326 = .ok (.iconst 4, 1) := by decide +kernel
theorem dd_L_law_327 : decode bb_L_law 327 = .ok (.iadd, 1) := by decide +kernel
theorem dd_L_law_328 : decode bb_L_law 328 = .ok (.iaload, 1) := by decide +kernel
theorem dd_L_law_329 : decode bb_L_law 329 = .ok (.invokevirtual 48, 3) := by decide +kernel
theorem dd_L_law_332 : decode bb_L_law 332 = .ok (.if_icmp .eq (265), 3) := by decide +kernel
theorem dd_L_law_335 : decode bb_L_law 335 = .ok (.iconst 0, 1) := by decide +kernel
theorem dd_L_law_336 : decode bb_L_law 336 = .ok (.ireturn, 1) := by decide +kernel
theorem dd_L_law_337 : decode bb_L_law 337 = .ok (.aload_n 1, 1) := by decide +kernel
theorem dd_L_law_338 : decode bb_L_law 338 = .ok (.aload_n 0, 1) := by decide +kernel
theorem dd_L_law_339 : decode bb_L_law 339 = .ok (.iload 4, 2) := by decide +kernel
theorem dd_L_law_341 : decode bb_L_law 341 = .ok (.iconst 1, 1) := by decide +kernel
theorem dd_L_law_342 : decode bb_L_law 342 = .ok (.iadd, 1) := by decide +kernel
theorem dd_L_law_343 : decode bb_L_law 343 = .ok (.iaload, 1) := by decide +kernel
theorem dd_L_law_344 : decode bb_L_law 344 = .ok (.invokevirtual 49, 3) := by decide +kernel
theorem dd_L_law_347 : decode bb_L_law 347 = .ok (.aload_n 2, 1) := by decide +kernel
theorem dd_L_law_348 : decode bb_L_law 348 = .ok (.aload_n 0, 1) := by decide +kernel
theorem dd_L_law_349 : decode bb_L_law 349 = .ok (.iload 4, 2) := by decide +kernel
theorem dd_L_law_351 : decode bb_L_law 351 = .ok (.iconst 1, 1) := by decide +kernel
theorem dd_L_law_352 : decode bb_L_law 352 = .ok (.iadd, 1) := by decide +kernel
theorem dd_L_law_353 : decode bb_L_law 353 = .ok (.iaload, 1) := by decide +kernel
theorem dd_L_law_354 : decode bb_L_law 354 = .ok (.invokevirtual 52, 3) := by decide +kernel
theorem dd_L_law_357 : decode bb_L_law 357 = .ok (.if_icmp .eq (240), 3) := by decide +kernel
theorem dd_L_law_360 : decode bb_L_law 360 = .ok (.iconst 0, 1) := by decide +kernel
theorem dd_L_law_361 : decode bb_L_law 361 = .ok (.ireturn, 1) := by decide +kernel
theorem dd_L_law_362 : decode bb_L_law 362 = .ok (.aload_n 1, 1) := by decide +kernel
theorem dd_L_law_363 : decode bb_L_law 363 = .ok (.aload_n 0, 1) := by decide +kernel
theorem dd_L_law_364 : decode bb_L_law 364 = .ok (.iload 4, 2) := by decide +kernel
theorem dd_L_law_366 : decode bb_L_law 366 = .ok (.iconst 1, 1) := by decide +kernel
theorem dd_L_law_367 : decode bb_L_law 367 = .ok (.iadd, 1) := by decide +kernel
theorem dd_L_law_368 : decode bb_L_law 368 = .ok (.iaload, 1) := by decide +kernel
theorem dd_L_law_369 : decode bb_L_law 369 = .ok (.invokevirtual 53, 3) := by decide +kernel
theorem dd_L_law_372 : decode bb_L_law 372 = .ok (.aload_n 2, 1) := by decide +kernel
theorem dd_L_law_373 : decode bb_L_law 373 = .ok (.aload_n 0, 1) := by decide +kernel
theorem dd_L_law_374 : decode bb_L_law 374 = .ok (.iload 4, 2) := by decide +kernel
theorem dd_L_law_376 : decode bb_L_law 376 = .ok (.iconst 1, 1) := by decide +kernel
theorem dd_L_law_377 : decode bb_L_law 377 = .ok (.iadd, 1) := by decide +kernel
theorem dd_L_law_378 : decode bb_L_law 378 = .ok (.iaload, 1) := by decide +kernel
theorem dd_L_law_379 : decode bb_L_law 379 = .ok (.invokevirtual 56, 3) := by decide +kernel
theorem dd_L_law_382 : decode bb_L_law 382 = .ok (.if_icmp .eq (215), 3) := by decide +kernel
theorem dd_L_law_385 : decode bb_L_law 385 = .ok (.iconst 0, 1) := by decide +kernel
theorem dd_L_law_386 : decode bb_L_law 386 = .ok (.ireturn, 1) := by decide +kernel
theorem dd_L_law_387 : decode bb_L_law 387 = .ok (.aload_n 1, 1) := by decide +kernel
theorem dd_L_law_388 : decode bb_L_law 388 = .ok (.aload_n 0, 1) := by decide +kernel
theorem dd_L_law_389 : decode bb_L_law 389 = .ok (.iload 4, 2) := by decide +kernel
theorem dd_L_law_391 : decode bb_L_law 391 = .ok (.iconst 1, 1) := by decide +kernel
theorem dd_L_law_392 : decode bb_L_law 392 = .ok (.iadd, 1) := by decide +kernel
theorem dd_L_law_393 : decode bb_L_law 393 = .ok (.iaload, 1) := by decide +kernel
theorem dd_L_law_394 : decode bb_L_law 394 = .ok (.aload_n 0, 1) := by decide +kernel
theorem dd_L_law_395 : decode bb_L_law 395 = .ok (.iload 4, 2) := by decide +kernel
theorem dd_L_law_397 : decode bb_L_law 397 = .ok (.iconst 2, 1) := by decide +kernel
theorem dd_L_law_398 : decode bb_L_law 398 = .ok (.iadd, 1) := by decide +kernel
theorem dd_L_law_399 : decode bb_L_law 399 = .ok (.iaload, 1) := by decide +kernel
theorem dd_L_law_400 : decode bb_L_law 400 = .ok (.aload_n 0, 1) := by decide +kernel
theorem dd_L_law_401 : decode bb_L_law 401 = .ok (.iload 4, 2) := by decide +kernel
theorem dd_L_law_403 : decode bb_L_law 403 = .ok (.iconst 3, 1) := by decide +kernel
theorem dd_L_law_404 : decode bb_L_law 404 = .ok (.iadd, 1) := by decide +kernel
theorem dd_L_law_405 : decode bb_L_law 405 = .ok (.iaload, 1) := by decide +kernel
theorem dd_L_law_406 : decode bb_L_law 406 = .ok (.aload_n 0, 1) := by decide +kernel
theorem dd_L_law_407 : decode bb_L_law 407 = .ok (.iload 4, 2) := by decide +kernel
theorem dd_L_law_409 : decode bb_L_law 409 = .ok (.iconst 4, 1) := by decide +kernel
theorem dd_L_law_410 : decode bb_L_law 410 = .ok (.iadd, 1) := by decide +kernel
theorem dd_L_law_411 : decode bb_L_law 411 = .ok (.iaload, 1) := by decide +kernel
theorem dd_L_law_412 : decode bb_L_law 412 = .ok (.invokevirtual 57, 3) := by decide +kernel
theorem dd_L_law_415 : decode bb_L_law 415 = .ok (.aload_n 2, 1) := by decide +kernel
theorem dd_L_law_416 : decode bb_L_law 416 = .ok (.aload_n 0, 1) := by decide +kernel
theorem dd_L_law_417 : decode bb_L_law 417 = .ok (.iload 4, 2) := by decide +kernel
theorem dd_L_law_419 : decode bb_L_law 419 = .ok (.iconst 1, 1) := by decide +kernel
theorem dd_L_law_420 : decode bb_L_law 420 = .ok (.iadd, 1) := by decide +kernel
theorem dd_L_law_421 : decode bb_L_law 421 = .ok (.iaload, 1) := by decide +kernel
theorem dd_L_law_422 : decode bb_L_law 422 = .ok (.aload_n 0, 1) := by decide +kernel
theorem dd_L_law_423 : decode bb_L_law 423 = .ok (.iload 4, 2) := by decide +kernel
theorem dd_L_law_425 : decode bb_L_law 425 = .ok (.iconst 2, 1) := by decide +kernel
theorem dd_L_law_426 : decode bb_L_law 426 = .ok (.iadd, 1) := by decide +kernel
theorem dd_L_law_427 : decode bb_L_law 427 = .ok (.iaload, 1) := by decide +kernel
theorem dd_L_law_428 : decode bb_L_law 428 = .ok (.aload_n 0, 1) := by decide +kernel
theorem dd_L_law_429 : decode bb_L_law 429 = .ok (.iload 4, 2) := by decide +kernel
theorem dd_L_law_431 : decode bb_L_law 431 = .ok (.iconst 3, 1) := by decide +kernel
theorem dd_L_law_432 : decode bb_L_law 432 = .ok (.iadd, 1) := by decide +kernel
theorem dd_L_law_433 : decode bb_L_law 433 = .ok (.iaload, 1) := by decide +kernel
theorem dd_L_law_434 : decode bb_L_law 434 = .ok (.aload_n 0, 1) := by decide +kernel
theorem dd_L_law_435 : decode bb_L_law 435 = .ok (.iload 4, 2) := by decide +kernel
theorem dd_L_law_437 : decode bb_L_law 437 = .ok (.iconst 4, 1) := by decide +kernel
theorem dd_L_law_438 : decode bb_L_law 438 = .ok (.iadd, 1) := by decide +kernel
theorem dd_L_law_439 : decode bb_L_law 439 = .ok (.iaload, 1) := by decide +kernel
theorem dd_L_law_440 : decode bb_L_law 440 = .ok (.invokevirtual 60, 3) := by decide +kernel
theorem dd_L_law_443 : decode bb_L_law 443 = .ok (.if_icmp .eq (154), 3) := by decide +kernel
theorem dd_L_law_446 : decode bb_L_law 446 = .ok (.iconst 0, 1) := by decide +kernel
theorem dd_L_law_447 : decode bb_L_law 447 = .ok (.ireturn, 1) := by decide +kernel
theorem dd_L_law_448 : decode bb_L_law 448 = .ok (.aload_n 1, 1) := by decide +kernel
theorem dd_L_law_449 : decode bb_L_law 449 = .ok (.invokevirtual 61, 3) := by decide +kernel
theorem dd_L_law_452 : decode bb_L_law 452 = .ok (.aload_n 2, 1) := by decide +kernel
theorem dd_L_law_453 : decode bb_L_law 453 = .ok (.invokevirtual 64, 3) := by decide +kernel
theorem dd_L_law_456 : decode bb_L_law 456 = .ok (.goto (141), 3) := by decide +kernel
theorem dd_L_law_459 : decode bb_L_law 459 = .ok (.aload_n 1, 1) := by decide +kernel
theorem dd_L_law_460 : decode bb_L_law 460 = .ok (.aload_n 3, 1) := by decide +kernel
theorem dd_L_law_461 : decode bb_L_law 461 = .ok (.invokestatic 65, 3) := by decide +kernel
theorem dd_L_law_464 : decode bb_L_law 464 = .ok (.istore 5, 2) := by decide +kernel
theorem dd_L_law_466 : decode bb_L_law 466 = .ok (.aload_n 2, 1) := by decide +kernel
theorem dd_L_law_467 : decode bb_L_law 467 = .ok (.invokevirtual 70, 3) := by decide +kernel
theorem dd_L_law_470 : decode bb_L_law 470 = .ok (.istore 6, 2) := by decide +kernel
theorem dd_L_law_472 : decode bb_L_law 472 = .ok (.aload_n 2, 1) := by decide +kernel
theorem dd_L_law_473 : decode bb_L_law 473 = .ok (.invokevirtual 71, 3) := by decide +kernel
theorem dd_L_law_476 : decode bb_L_law 476 = .ok (.iload 5, 2) := by decide +kernel
theorem dd_L_law_478 : decode bb_L_law 478 = .ok (.if_icmp .eq (5), 3) := by decide +kernel
theorem dd_L_law_481 : decode bb_L_law 481 = .ok (.iconst 0, 1) := by decide +kernel
theorem dd_L_law_482 : decode bb_L_law 482 = .ok (.ireturn, 1) := by decide +kernel
theorem dd_L_law_483 : decode bb_L_law 483 = .ok (.iload 5, 2) := by decide +kernel
theorem dd_L_law_485 : decode bb_L_law 485 = .ok (.ifCond .ne (15), 3) := by decide +kernel
theorem dd_L_law_488 : decode bb_L_law 488 = .ok (.aload_n 3, 1) := by decide +kernel
theorem dd_L_law_489 : decode bb_L_law 489 = .ok (.iconst 0, 1) := by decide +kernel
theorem dd_L_law_490 : decode bb_L_law 490 = .ok (.laload, 1) := by decide +kernel
theorem dd_L_law_491 : decode bb_L_law 491 = .ok (.iload 6, 2) := by decide +kernel
theorem dd_L_law_493 : decode bb_L_law 493 = .ok (.i2l, 1) := by decide +kernel
theorem dd_L_law_494 : decode bb_L_law 494 = .ok (.lcmp, 1) := by decide +kernel
theorem dd_L_law_495 : decode bb_L_law 495 = .ok (.ifCond .eq (5), 3) := by decide +kernel
theorem dd_L_law_498 : decode bb_L_law 498 = .ok (.iconst 0, 1) := by decide +kernel
theorem dd_L_law_499 : decode bb_L_law 499 = .ok (.ireturn, 1) := by decide +kernel
theorem dd_L_law_500 : decode bb_L_law 500 = .ok (.goto (97), 3) := by decide +kernel
theorem dd_L_law_503 : decode bb_L_law 503 = .ok (.aload_n 1, 1) := by decide +kernel
theorem dd_L_law_504 : decode bb_L_law 504 = .ok (.aload_n 0, 1) := by decide +kernel
theorem dd_L_law_505 : decode bb_L_law 505 = .ok (.iload 4, 2) := by decide +kernel
theorem dd_L_law_507 : decode bb_L_law 507 = .ok (.iconst 1, 1) := by decide +kernel
theorem dd_L_law_508 : decode bb_L_law 508 = .ok (.iadd, 1) := by decide +kernel
theorem dd_L_law_509 : decode bb_L_law 509 = .ok (.iaload, 1) := by decide +kernel
theorem dd_L_law_510 : decode bb_L_law 510 = .ok (.aload_n 0, 1) := by decide +kernel
theorem dd_L_law_511 : decode bb_L_law 511 = .ok (.iload 4, 2) := by decide +kernel
theorem dd_L_law_513 : decode bb_L_law 513 = .ok (.iconst 2, 1) := by decide +kernel
theorem dd_L_law_514 : decode bb_L_law 514 = .ok (.iadd, 1) := by decide +kernel
theorem dd_L_law_515 : decode bb_L_law 515 = .ok (.iaload, 1) := by decide +kernel
theorem dd_L_law_516 : decode bb_L_law 516 = .ok (.aload_n 3, 1) := by decide +kernel
theorem dd_L_law_517 : decode bb_L_law 517 = .ok (.invokestatic 74, 3) := by decide +kernel
theorem dd_L_law_520 : decode bb_L_law 520 = .ok (.istore 5, 2) := by decide +kernel
theorem dd_L_law_522 : decode bb_L_law 522 = .ok (.aload_n 2, 1) := by decide +kernel
theorem dd_L_law_523 : decode bb_L_law 523 = .ok (.aload_n 0, 1) := by decide +kernel
theorem dd_L_law_524 : decode bb_L_law 524 = .ok (.iload 4, 2) := by decide +kernel
theorem dd_L_law_526 : decode bb_L_law 526 = .ok (.iconst 1, 1) := by decide +kernel
theorem dd_L_law_527 : decode bb_L_law 527 = .ok (.iadd, 1) := by decide +kernel
theorem dd_L_law_528 : decode bb_L_law 528 = .ok (.iaload, 1) := by decide +kernel
theorem dd_L_law_529 : decode bb_L_law 529 = .ok (.aload_n 0, 1) := by decide +kernel
theorem dd_L_law_530 : decode bb_L_law 530 = .ok (.iload 4, 2) := by decide +kernel
theorem dd_L_law_532 : decode bb_L_law 532 = .ok (.iconst 2, 1) := by decide +kernel
theorem dd_L_law_533 : decode bb_L_law 533 = .ok (.iadd, 1) := by decide +kernel
theorem dd_L_law_534 : decode bb_L_law 534 = .ok (.iaload, 1) := by decide +kernel
theorem dd_L_law_535 : decode bb_L_law 535 = .ok (.invokevirtual 77, 3) := by decide +kernel
theorem dd_L_law_538 : decode bb_L_law 538 = .ok (.istore 6, 2) := by decide +kernel
theorem dd_L_law_540 : decode bb_L_law 540 = .ok (.aload_n 2, 1) := by decide +kernel
theorem dd_L_law_541 : decode bb_L_law 541 = .ok (.invokevirtual 71, 3) := by decide +kernel
theorem dd_L_law_544 : decode bb_L_law 544 = .ok (.iload 5, 2) := by decide +kernel
theorem dd_L_law_546 : decode bb_L_law 546 = .ok (.if_icmp .eq (5), 3) := by decide +kernel
theorem dd_L_law_549 : decode bb_L_law 549 = .ok (.iconst 0, 1) := by decide +kernel
theorem dd_L_law_550 : decode bb_L_law 550 = .ok (.ireturn, 1) := by decide +kernel
theorem dd_L_law_551 : decode bb_L_law 551 = .ok (.iload 5, 2) := by decide +kernel
theorem dd_L_law_553 : decode bb_L_law 553 = .ok (.ifCond .ne (15), 3) := by decide +kernel
theorem dd_L_law_556 : decode bb_L_law 556 = .ok (.aload_n 3, 1) := by decide +kernel
theorem dd_L_law_557 : decode bb_L_law 557 = .ok (.iconst 0, 1) := by decide +kernel
theorem dd_L_law_558 : decode bb_L_law 558 = .ok (.laload, 1) := by decide +kernel
theorem dd_L_law_559 : decode bb_L_law 559 = .ok (.iload 6, 2) := by decide +kernel
theorem dd_L_law_561 : decode bb_L_law 561 = .ok (.i2l, 1) := by decide +kernel
theorem dd_L_law_562 : decode bb_L_law 562 = .ok (.lcmp, 1) := by decide +kernel
theorem dd_L_law_563 : decode bb_L_law 563 = .ok (.ifCond .eq (5), 3) := by decide +kernel
theorem dd_L_law_566 : decode bb_L_law 566 = .ok (.iconst 0, 1) := by decide +kernel
theorem dd_L_law_567 : decode bb_L_law 567 = .ok (.ireturn, 1) := by decide +kernel
theorem dd_L_law_568 : decode bb_L_law 568 = .ok (.goto (29), 3) := by decide +kernel
theorem dd_L_law_571 : decode bb_L_law 571 = .ok (.aload_n 1, 1) := by decide +kernel
theorem dd_L_law_572 : decode bb_L_law 572 = .ok (.aload_n 0, 1) := by decide +kernel
theorem dd_L_law_573 : decode bb_L_law 573 = .ok (.iload 4, 2) := by decide +kernel
theorem dd_L_law_575 : decode bb_L_law 575 = .ok (.iconst 1, 1) := by decide +kernel
theorem dd_L_law_576 : decode bb_L_law 576 = .ok (.iadd, 1) := by decide +kernel
theorem dd_L_law_577 : decode bb_L_law 577 = .ok (.iaload, 1) := by decide +kernel
theorem dd_L_law_578 : decode bb_L_law 578 = .ok (.invokevirtual 78, 3) := by decide +kernel
theorem dd_L_law_581 : decode bb_L_law 581 = .ok (.aload_n 2, 1) := by decide +kernel
theorem dd_L_law_582 : decode bb_L_law 582 = .ok (.aload_n 0, 1) := by decide +kernel
theorem dd_L_law_583 : decode bb_L_law 583 = .ok (.iload 4, 2) := by decide +kernel
theorem dd_L_law_585 : decode bb_L_law 585 = .ok (.iconst 1, 1) := by decide +kernel
theorem dd_L_law_586 : decode bb_L_law 586 = .ok (.iadd, 1) := by decide +kernel
theorem dd_L_law_587 : decode bb_L_law 587 = .ok (.iaload, 1) := by decide +kernel
theorem dd_L_law_588 : decode bb_L_law 588 = .ok (.invokevirtual 82, 3) := by decide +kernel
theorem dd_L_law_591 : decode bb_L_law 591 = .ok (.lcmp, 1) := by decide +kernel
theorem dd_L_law_592 : decode bb_L_law 592 = .ok (.ifCond .eq (5), 3) := by decide +kernel
theorem dd_L_law_595 : decode bb_L_law 595 = .ok (.iconst 0, 1) := by decide +kernel
theorem dd_L_law_596 : decode bb_L_law 596 = .ok (.ireturn, 1) := by decide +kernel
theorem dd_L_law_597 : decode bb_L_law 597 = .ok (.iinc 4 (6), 3) := by decide +kernel
theorem dd_L_law_600 : decode bb_L_law 600 = .ok (.goto (-577), 3) := by decide +kernel
theorem dd_L_law_603 : decode bb_L_law 603 = .ok (.iconst 1, 1) := by decide +kernel
theorem dd_L_law_604 : decode bb_L_law 604 = .ok (.ireturn, 1) := by decide +kernel
def lz_E (p : Program) (l : Launch) (s : State) (m : MethodId) (c : Code) (b L : Nat) (xs : Nat → Int32) (D : va_G) (cI cJ cZ : ClassId) (A : Nat → Prop) : Prop := (p.tables.exec = Jvm.exec) ∧ (c.code = bb_L_law) ∧ (c.maxLocals = 7) ∧ (s.vm.findClass rr_L = some m.cls) ∧ (∀ w ∈ ww_L_law, w.before #[Value.ref b] s = true) ∧ (va_K D vwCl (kx_ty cI cJ cZ) s) ∧ (kx_N s) ∧ (vt_S s) ∧ (∀ q, s.heap.size ≤ q → A q) ∧ (∀ q, A q → s.heap.size ≤ q) ∧ (va_X b L xs s s.heap) ∧ (b < s.heap.size) ∧ (¬ A b) ∧ (l.flags = flags0) ∧ (L ≤ 3072)
def lz_K (p : Program) (l : Launch) (e : Env) (s : State) (m : MethodId) (below : List Frame) (meth : Method) (c : Code) (b : Nat) (D : va_G) (cI cJ cZ : ClassId) (A : Nat → Prop) (Q : State → Prop) (x oM ob n : Nat) : Prop := ∀ (g : Nat) (t : Nat) (h : Nat) (o : Nat) (v1 : Nat) (v2 : Nat) (v3 : Nat) (v4 : Nat) (v5 : Nat) (v6 : Nat) (v7 : Nat) (ps : Nat) (ly : Nat) (op : Int32) (pl : Nat) (wl : Nat) (wc : Nat) (cn : Nat) (i1 : Nat) (i2 : Nat) (i3 : Nat) (i4 : Nat) (i5 : Nat) (i6 : Nat) (i7 : Nat) (i8 : Nat) (i9 : Nat) (ln : Nat) (ik : Nat → Int32) (ic : Nat → Int32) (ia : Nat → Int32) (ib : Nat → Int32) (if_ : Nat → Int32) (iw : Nat → Int64) (is_ : Nat → Int64) (ih : Nat → Int64) (ij : Nat → Int64) (k : Nat) (bn : Nat) (lf : Nat) (j1 : Nat) (j2 : Nat) (j3 : Nat) (j4 : Nat) (j5 : Nat) (j6 : Nat) (j7 : Nat) (lk : Nat) (bi : Nat → Int32) (bo : Nat → Int32) (ba : Nat → Int32) (bb : Nat → Int32) (bg : Nat → Int32) (bl : Nat → Int32) (bh : Nat → Int32) (g0 : Nat) (g1 : Nat) (g2 : Nat) (g3 : Nat) (mc : Nat) (ru : Nat → Int32) (lm : Nat) (ms : Nat → Int32) (l0 : Int64) (l1 : Int64) (l2 : Int64) (l3 : Int64) (r0 : Int64) (r1 : Int64) (r2 : Int64) (r3 : Int64) (f : Nat) (fb : Int32) (fc : Nat) (fo : Int64) (qb0 : Nat) (qb1 : Nat) (qb2 : Nat) (qb3 : Nat) (zb : Nat) (anb : Int32) (rob : Nat → Int64) (rvb : Nat → Int32) (rdb : Nat → Int64) (rcb : Nat → Int32) (qn0 : Nat) (qn1 : Nat) (qn2 : Nat) (qn3 : Nat) (zn : Nat) (ann : Int32) (ron : Nat → Int64) (rvn : Nat → Int32) (rdn : Nat → Int64) (rcn : Nat → Int32) (lw : Nat) (bk : Nat → Int32) (ql0 : Nat) (ql1 : Nat) (ql2 : Nat) (ql3 : Nat) (zl : Nat) (anl : Int32) (rol : Nat → Int64) (rvl : Nat → Int32) (rdl : Nat → Int64) (rcl : Nat → Int32) (qs0 : Nat) (qs1 : Nat) (qs2 : Nat) (qs3 : Nat) (zs : Nat) (ans : Int32) (ros : Nat → Int64) (rvs : Nat → Int32) (rds : Nat → Int64) (rcs : Nat → Int32) (lt : Nat) (ec : Nat → Int32) (tr : Nat → Int32) (mp : Nat) (ml : Nat) (mv : Int32) (md : Int64) (mo : Int64) (y0 : Nat) (y1 : Nat) (y2 : Nat) (y3 : Nat) (y4 : Nat) (ld : Nat) (f0 : Nat → Int32) (f1 : Nat → Int32) (f2 : Nat → Int32) (f3 : Nat → Int32) (f4 : Nat → Int32) (thM : Nat) (cnM : Nat) (a0M : Nat) (a1M : Nat) (a2M : Nat) (a3M : Nat) (a4M : Nat) (a5M : Nat) (mnM : Nat) (a6M : Nat) (a7M : Nat) (psM : Nat) (bkM : Nat) (a8M : Nat) (a9M : Nat) (a10M : Nat) (a11M : Nat) (a12M : Nat) (a13M : Nat) (a14M : Nat) (a15M : Nat) (kfM : Nat) (lbM : Int32) (lcM : Nat) (loM : Int64) (elM : Nat) (ecM : Nat) (eoM : Int64) (ebM : Int32) (edM : Int64) (mpM : Nat) (mlM : Nat) (mdM : Int64) (moM : Int64) (mbM : Int32) (a16M : Nat) (a17M : Nat) (kdM : Nat → Int32) (wdM : Nat → Int32) (srM : Nat → Int32) (odM : Nat → Int32) (skM : Nat → Int32) (ruM : Nat → Int32) (meM : Nat → Int32) (siM : Nat → Int32) (itM : Nat → Int32) (izM : Nat → Int32) (ouM : Nat → Int64) (baM : Nat → Int32) (deM : Nat → Int64) (bcM : Nat → Int64) (suM : Nat → Int64) (keM : Nat → Int64) (mrM : Nat → Int32) (mqM : Nat → Int64) (ov : Nat → Int64), lz_i cn ln ik ic ia ib if_ iw is_ ih ij cnM kdM wdM srM odM skM → lz_m mc lm ms mnM meM → lz_r ru ruM → lz_s l0 l1 l2 l3 r0 r1 r2 r3 siM → lz_o mp ml mv md mo ld f0 f1 f2 f3 f4 mpM mlM mbM mdM moM mrM mqM → lz_q lk lt lw zb zn zs zl bg bb bh → ∀ (H : Heap) (locs : List Loc), va_P D vwCl [(x, .inr (1, [.ref g, .ref t, .ref h, .ref o])), (h, .inr (7, [.ref g, .ref t, .ref k, .ref f, .ref v1, .ref v2, .ref v3, .ref v4, .int (nI ps), .int (nI ly), .int op, .int (nI pl), .int (nI wl), .int (nI wc), .ref v5, .ref v6, .ref v7])), (t, .inr (4, [.int (nI cn), .ref i1, .ref i2, .ref i3, .ref i4, .ref i5, .ref i6, .ref i7, .ref i8, .ref i9])), (i1, .inl (cI, ln, .inl ik)), (i2, .inl (cI, ln, .inl ic)), (i3, .inl (cI, ln, .inl ia)), (i4, .inl (cI, ln, .inl ib)), (i5, .inl (cI, ln, .inl if_)), (i6, .inl (cJ, (ln + 1), .inr (.inl iw))), (i7, .inl (cJ, (ln + 1), .inr (.inl is_))), (i8, .inl (cJ, (ln + 1), .inr (.inl ih))), (i9, .inl (cJ, (ln + 1), .inr (.inl ij))), (k, .inr (2, [.int (nI bn), .int (nI lf), .ref j1, .ref j2, .ref j3, .ref j4, .ref j5, .ref j6, .ref j7])), (j1, .inl (cI, lk, .inl bi)), (j2, .inl (cI, lk, .inl bo)), (j3, .inl (cI, lk, .inl ba)), (j4, .inl (cI, lk, .inl bb)), (j5, .inl (cI, lk, .inl bg)), (j6, .inl (cI, lk, .inl bl)), (j7, .inl (cZ, lk, .inl bh)), (g, .inr (8, [.ref g0, .ref g1, .ref g2, .ref g3, .int (nI mc)])), (g0, .inl (cI, 9, .inl ru)), (g3, .inl (cI, lm, .inl ms)), (g1, .inr (9, [.long l0, .long l1, .long l2, .long l3])), (g2, .inr (9, [.long r0, .long r1, .long r2, .long r3])), (f, .inr (3, [.int fb, .int (nI fc), .long fo])), (v3, .inr (6, [.int anb, .ref qb0, .ref qb1, .ref qb2, .ref qb3])), (qb0, .inl (cJ, zb, .inr (.inl rob))), (qb1, .inl (cI, zb, .inl rvb)), (qb2, .inl (cJ, zb, .inr (.inl rdb))), (qb3, .inl (cI, zb, .inl rcb)), (v4, .inr (6, [.int ann, .ref qn0, .ref qn1, .ref qn2, .ref qn3])), (qn0, .inl (cJ, zn, .inr (.inl ron))), (qn1, .inl (cI, zn, .inl rvn)), (qn2, .inl (cJ, zn, .inr (.inl rdn))), (qn3, .inl (cI, zn, .inl rcn)), (v7, .inl (cI, lw, .inl bk)), (v1, .inr (6, [.int anl, .ref ql0, .ref ql1, .ref ql2, .ref ql3])), (ql0, .inl (cJ, zl, .inr (.inl rol))), (ql1, .inl (cI, zl, .inl rvl)), (ql2, .inl (cJ, zl, .inr (.inl rdl))), (ql3, .inl (cI, zl, .inl rcl)), (v2, .inr (6, [.int ans, .ref qs0, .ref qs1, .ref qs2, .ref qs3])), (qs0, .inl (cJ, zs, .inr (.inl ros))), (qs1, .inl (cI, zs, .inl rvs)), (qs2, .inl (cJ, zs, .inr (.inl rds))), (qs3, .inl (cI, zs, .inl rcs)), (v5, .inl (cI, lt, .inl ec)), (v6, .inl (cI, lt, .inl tr)), (o, .inr (5, [.int (nI mp), .int (nI ml), .int mv, .long md, .long mo, .ref y0, .ref y1, .ref y2, .ref y3, .ref y4])), (y0, .inl (cI, ld, .inl f0)), (y1, .inl (cI, ld, .inl f1)), (y2, .inl (cI, ld, .inl f2)), (y3, .inl (cI, ld, .inl f3)), (y4, .inl (cI, ld, .inl f4)), (oM, .inr (0, [.int (nI thM), .int (nI cnM), .ref a0M, .ref a1M, .ref a2M, .ref a3M, .ref a4M, .ref a5M, .int (nI mnM), .ref a6M, .ref a7M, .int (nI psM), .int (nI bkM), .ref a8M, .ref a9M, .ref a10M, .ref a11M, .ref a12M, .ref a13M, .ref a14M, .ref a15M, .int (nI kfM), .int lbM, .int (nI lcM), .long loM, .int (nI elM), .int (nI ecM), .long eoM, .int ebM, .long edM, .int (nI mpM), .int (nI mlM), .long mdM, .long moM, .int mbM, .ref a16M, .ref a17M])), (a0M, .inl (cI, 4097, .inl kdM)), (a1M, .inl (cI, 4097, .inl wdM)), (a2M, .inl (cI, 4097, .inl srM)), (a3M, .inl (cI, 4097, .inl odM)), (a4M, .inl (cI, 4097, .inl skM)), (a5M, .inl (cI, 9, .inl ruM)), (a6M, .inl (cI, 258, .inl meM)), (a7M, .inl (cI, 8, .inl siM)), (a8M, .inl (cI, 402, .inl itM)), (a9M, .inl (cZ, 3216, .inl izM)), (a10M, .inl (cJ, 3216, .inr (.inl ouM))), (a11M, .inl (cI, 3216, .inl baM)), (a12M, .inl (cJ, 3216, .inr (.inl deM))), (a13M, .inl (cJ, 161604, .inr (.inl bcM))), (a14M, .inl (cJ, 6, .inr (.inl suM))), (a15M, .inl (cJ, 6, .inr (.inl keM))), (a16M, .inl (cI, 1612, .inl mrM)), (a17M, .inl (cJ, 403, .inr (.inl mqM))), (ob, .inl (cJ, 1, .inr (.inl ov)))] H → va_D A [(x, .inr (1, [.ref g, .ref t, .ref h, .ref o])), (h, .inr (7, [.ref g, .ref t, .ref k, .ref f, .ref v1, .ref v2, .ref v3, .ref v4, .int (nI ps), .int (nI ly), .int op, .int (nI pl), .int (nI wl), .int (nI wc), .ref v5, .ref v6, .ref v7])), (t, .inr (4, [.int (nI cn), .ref i1, .ref i2, .ref i3, .ref i4, .ref i5, .ref i6, .ref i7, .ref i8, .ref i9])), (i1, .inl (cI, ln, .inl ik)), (i2, .inl (cI, ln, .inl ic)), (i3, .inl (cI, ln, .inl ia)), (i4, .inl (cI, ln, .inl ib)), (i5, .inl (cI, ln, .inl if_)), (i6, .inl (cJ, (ln + 1), .inr (.inl iw))), (i7, .inl (cJ, (ln + 1), .inr (.inl is_))), (i8, .inl (cJ, (ln + 1), .inr (.inl ih))), (i9, .inl (cJ, (ln + 1), .inr (.inl ij))), (k, .inr (2, [.int (nI bn), .int (nI lf), .ref j1, .ref j2, .ref j3, .ref j4, .ref j5, .ref j6, .ref j7])), (j1, .inl (cI, lk, .inl bi)), (j2, .inl (cI, lk, .inl bo)), (j3, .inl (cI, lk, .inl ba)), (j4, .inl (cI, lk, .inl bb)), (j5, .inl (cI, lk, .inl bg)), (j6, .inl (cI, lk, .inl bl)), (j7, .inl (cZ, lk, .inl bh)), (g, .inr (8, [.ref g0, .ref g1, .ref g2, .ref g3, .int (nI mc)])), (g0, .inl (cI, 9, .inl ru)), (g3, .inl (cI, lm, .inl ms)), (g1, .inr (9, [.long l0, .long l1, .long l2, .long l3])), (g2, .inr (9, [.long r0, .long r1, .long r2, .long r3])), (f, .inr (3, [.int fb, .int (nI fc), .long fo])), (v3, .inr (6, [.int anb, .ref qb0, .ref qb1, .ref qb2, .ref qb3])), (qb0, .inl (cJ, zb, .inr (.inl rob))), (qb1, .inl (cI, zb, .inl rvb)), (qb2, .inl (cJ, zb, .inr (.inl rdb))), (qb3, .inl (cI, zb, .inl rcb)), (v4, .inr (6, [.int ann, .ref qn0, .ref qn1, .ref qn2, .ref qn3])), (qn0, .inl (cJ, zn, .inr (.inl ron))), (qn1, .inl (cI, zn, .inl rvn)), (qn2, .inl (cJ, zn, .inr (.inl rdn))), (qn3, .inl (cI, zn, .inl rcn)), (v7, .inl (cI, lw, .inl bk)), (v1, .inr (6, [.int anl, .ref ql0, .ref ql1, .ref ql2, .ref ql3])), (ql0, .inl (cJ, zl, .inr (.inl rol))), (ql1, .inl (cI, zl, .inl rvl)), (ql2, .inl (cJ, zl, .inr (.inl rdl))), (ql3, .inl (cI, zl, .inl rcl)), (v2, .inr (6, [.int ans, .ref qs0, .ref qs1, .ref qs2, .ref qs3])), (qs0, .inl (cJ, zs, .inr (.inl ros))), (qs1, .inl (cI, zs, .inl rvs)), (qs2, .inl (cJ, zs, .inr (.inl rds))), (qs3, .inl (cI, zs, .inl rcs)), (v5, .inl (cI, lt, .inl ec)), (v6, .inl (cI, lt, .inl tr)), (o, .inr (5, [.int (nI mp), .int (nI ml), .int mv, .long md, .long mo, .ref y0, .ref y1, .ref y2, .ref y3, .ref y4])), (y0, .inl (cI, ld, .inl f0)), (y1, .inl (cI, ld, .inl f1)), (y2, .inl (cI, ld, .inl f2)), (y3, .inl (cI, ld, .inl f3)), (y4, .inl (cI, ld, .inl f4)), (oM, .inr (0, [.int (nI thM), .int (nI cnM), .ref a0M, .ref a1M, .ref a2M, .ref a3M, .ref a4M, .ref a5M, .int (nI mnM), .ref a6M, .ref a7M, .int (nI psM), .int (nI bkM), .ref a8M, .ref a9M, .ref a10M, .ref a11M, .ref a12M, .ref a13M, .ref a14M, .ref a15M, .int (nI kfM), .int lbM, .int (nI lcM), .long loM, .int (nI elM), .int (nI ecM), .long eoM, .int ebM, .long edM, .int (nI mpM), .int (nI mlM), .long mdM, .long moM, .int mbM, .ref a16M, .ref a17M])), (a0M, .inl (cI, 4097, .inl kdM)), (a1M, .inl (cI, 4097, .inl wdM)), (a2M, .inl (cI, 4097, .inl srM)), (a3M, .inl (cI, 4097, .inl odM)), (a4M, .inl (cI, 4097, .inl skM)), (a5M, .inl (cI, 9, .inl ruM)), (a6M, .inl (cI, 258, .inl meM)), (a7M, .inl (cI, 8, .inl siM)), (a8M, .inl (cI, 402, .inl itM)), (a9M, .inl (cZ, 3216, .inl izM)), (a10M, .inl (cJ, 3216, .inr (.inl ouM))), (a11M, .inl (cI, 3216, .inl baM)), (a12M, .inl (cJ, 3216, .inr (.inl deM))), (a13M, .inl (cJ, 161604, .inr (.inl bcM))), (a14M, .inl (cJ, 6, .inr (.inl suM))), (a15M, .inl (cJ, 6, .inr (.inl keM))), (a16M, .inl (cI, 1612, .inl mrM)), (a17M, .inl (cJ, 403, .inr (.inl mqM))), (ob, .inl (cJ, 1, .inr (.inl ov)))] → va_S A s.heap H locs → ∀ (ls : Array Slot), lv_has ls 7 [(4, .int (nI (6 * n))), (3, .ref ob), (2, .ref oM), (1, .ref x), (0, .ref b)] → W p l e room_1 s m #[Value.ref b] below meth c H locs (lz_C (n + 1)) (lz_S lk lt lw zb zn ln lm ld (n + 1)) Q (F0 m 597 ls [])
