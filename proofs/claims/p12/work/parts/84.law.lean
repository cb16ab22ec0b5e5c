/-! THE CLAIM OUT OF ONE WALK OF THE LAW'S BODY. Your part is whole_start (and what it stands on); all else here is the same for every law, but numbers. -/
def R_law : String := "CodeGateLaw"
def lw_P (b : Addr) (xs : List Int32) (args : Array Value) (s : State) : Prop := args = #[.ref b] ∧ s.IntsAt b xs ∧ xs.length ≤ 3072 ∧ (Jvm.Cond.and given_1 narrow_1).before args s = true
def lw_Q (_ : Array Value) (s : State) (o : Outcome) (t : State) : Prop := o = .returned (some (.int 1)) ∧ Framed s o t [] 35 17844
def lw_Z (below : List Frame) (a : Array Value) (s : State) : State → Prop := fun t => ∃ o, t.status = .running ∧ Ended t below o ∧ lw_Q a s o t
/-- the law's own end, with 1 on the stack, nothing written that was there before, its room as the claim has it -/
theorem lw_ret {p : Program} {l : Launch} {e : Env} {s : State} {m : MethodId} {below : List Frame} {meth : Method} {c : Code} {b : Nat} (hx : p.tables.exec = Jvm.exec) (hb : c.code = code) (hr : meth.sig.returnType = ret) (hlocks : meth.locks = false) {pc : Nat} {H : Heap} {ls : Array Slot} (hdg : decode code pc = .ok (.ireturn, 1)) : W p l e room_1 s m #[Value.ref b] below meth c H [] 35 17844 (lw_Z below #[Value.ref b] s) (F0 m pc ls [.int 1]) := by
  intro T hT X
  obtain ⟨fs, hret, hrun, hended, hW, hframe⟩ := X.leave (v := some (.int 1)) (hlocks := hlocks) (fun h => by rw [hr] at h; cases h)
  have hmeth' : T.vm.method? m = some meth := X.method'
  refine ⟨T.setFrames fs, ?_, .returned (some (.int 1)), hrun, hended, rfl, ⟨_, rfl⟩, hW, hframe⟩
  jvm_step X.here [X.here.top, hx, hb, hdg, hmeth', hr, ret, narrow_b1]
  (try refine ⟨rfl, ?_⟩); (try refine ⟨rfl, ?_⟩)
  first | (intro acts; rw [hret _ acts rfl rfl rfl]) | rw [hret _ _ rfl rfl rfl]
  exact Steps.refl _
/-- what holds at the law's entry: the machine, the code, the tables' words (any of lw_tbl by 'hts w (by decide +kernel)'), the script of L ints xs at the cell b, what the Statement gives of the start (any of its parts by flat_of_before) -/
def lw_At (p : Program) (s : State) (m : MethodId) (meth : Method) (c : Code) (b L : Nat) (xs : Nat → Int32) : Prop :=
  p.tables.exec = Jvm.exec ∧ c.code = code ∧ meth.sig.returnType = ret ∧ c.maxLocals = 4 ∧ s.vm.findClass R_law = some m.cls ∧ (∀ w ∈ lw_tbl, w.before #[Value.ref b] s = true) ∧ va_X b L xs s s.heap ∧ b < s.heap.size ∧ meth.locks = false ∧ (Jvm.Cond.and given_1 narrow_1).before #[Value.ref b] s = true
theorem d_L_0 : decode code 0 = .ok (.new 7, 3) := by decide +kernel
theorem d_L_3 : decode code 3 = .ok (.dup, 1) := by decide +kernel
theorem d_L_4 : decode code 4 = .ok (.invokespecial 9, 3) := by decide +kernel
theorem d_L_7 : decode code 7 = .ok (.astore_n 1, 1) := by decide +kernel
theorem d_L_8 : decode code 8 = .ok (.new 10, 3) := by decide +kernel
theorem d_L_11 : decode code 11 = .ok (.dup, 1) := by decide +kernel
theorem d_L_12 : decode code 12 = .ok (.invokespecial 12, 3) := by decide +kernel
theorem d_L_15 : decode code 15 = .ok (.astore_n 2, 1) := by decide +kernel
theorem d_L_16 : decode code 16 = .ok (.iconst 0, 1) := by decide +kernel
theorem d_L_17 : decode code 17 = .ok (.istore_n 3, 1) := by decide +kernel
theorem d_L_18 : decode code 18 = .ok (.iload_n 3, 1) := by decide +kernel
theorem d_L_19 : decode code 19 = .ok (.aload_n 0, 1) := by decide +kernel
theorem d_L_20 : decode code 20 = .ok (.arraylength, 1) := by decide +kernel
theorem d_L_21 : decode code 21 = .ok (.bipush 6, 2) := by decide +kernel
theorem d_L_23 : decode code 23 = .ok (.isub, 1) := by decide +kernel
theorem d_L_24 : decode code 24 = .ok (.if_icmp .gt 357, 3) := by decide +kernel
theorem d_L_27 : decode code 27 = .ok (.aload_n 0, 1) := by decide +kernel
theorem d_L_28 : decode code 28 = .ok (.iload_n 3, 1) := by decide +kernel
theorem d_L_29 : decode code 29 = .ok (.iaload, 1) := by decide +kernel
theorem d_L_30 : decode code 30 = .ok (.bipush 15, 2) := by decide +kernel
theorem d_L_32 : decode code 32 = .ok (.iand, 1) := by decide +kernel
theorem d_L_33 : decode code 33 = .ok (.tableswitch 342 0 10 #[59, 122, 145, 178, 201, 214, 227, 250, 283, 306, 329], 59) := by decide +kernel
theorem d_L_92 : decode code 92 = .ok (.aload_n 1, 1) := by decide +kernel
theorem d_L_93 : decode code 93 = .ok (.aload_n 0, 1) := by decide +kernel
theorem d_L_94 : decode code 94 = .ok (.iload_n 3, 1) := by decide +kernel
theorem d_L_95 : decode code 95 = .ok (.iconst 1, 1) := by decide +kernel
theorem d_L_96 : decode code 96 = .ok (.iadd, 1) := by decide +kernel
theorem d_L_97 : decode code 97 = .ok (.iaload, 1) := by decide +kernel
theorem d_L_98 : decode code 98 = .ok (.aload_n 0, 1) := by decide +kernel
theorem d_L_99 : decode code 99 = .ok (.iload_n 3, 1) := by decide +kernel
theorem d_L_100 : decode code 100 = .ok (.iconst 2, 1) := by decide +kernel
theorem d_L_101 : decode code 101 = .ok (.iadd, 1) := by decide +kernel
theorem d_L_102 : decode code 102 = .ok (.iaload, 1) := by decide +kernel
theorem d_L_103 : decode code 103 = .ok (.aload_n 0, 1) := by decide +kernel
theorem d_L_104 : decode code 104 = .ok (.iload_n 3, 1) := by decide +kernel
theorem d_L_105 : decode code 105 = .ok (.iconst 3, 1) := by decide +kernel
theorem d_L_106 : decode code 106 = .ok (.iadd, 1) := by decide +kernel
theorem d_L_107 : decode code 107 = .ok (.iaload, 1) := by decide +kernel
theorem d_L_108 : decode code 108 = .ok (.aload_n 0, 1) := by decide +kernel
theorem d_L_109 : decode code 109 = .ok (.iload_n 3, 1) := by decide +kernel
theorem d_L_110 : decode code 110 = .ok (.iconst 4, 1) := by decide +kernel
theorem d_L_111 : decode code 111 = .ok (.iadd, 1) := by decide +kernel
theorem d_L_112 : decode code 112 = .ok (.iaload, 1) := by decide +kernel
theorem d_L_113 : decode code 113 = .ok (.aload_n 0, 1) := by decide +kernel
theorem d_L_114 : decode code 114 = .ok (.iload_n 3, 1) := by decide +kernel
theorem d_L_115 : decode code 115 = .ok (.iconst 5, 1) := by decide +kernel
theorem d_L_116 : decode code 116 = .ok (.iadd, 1) := by decide +kernel
theorem d_L_117 : decode code 117 = .ok (.iaload, 1) := by decide +kernel
theorem d_L_118 : decode code 118 = .ok (.invokevirtual 13, 3) := by decide +kernel
theorem d_L_121 : decode code 121 = .ok (.pop, 1) := by decide +kernel
theorem d_L_122 : decode code 122 = .ok (.aload_n 2, 1) := by decide +kernel
theorem d_L_123 : decode code 123 = .ok (.aload_n 0, 1) := by decide +kernel
theorem d_L_124 : decode code 124 = .ok (.iload_n 3, 1) := by decide +kernel
theorem d_L_125 : decode code 125 = .ok (.iconst 1, 1) := by decide +kernel
theorem d_L_126 : decode code 126 = .ok (.iadd, 1) := by decide +kernel
theorem d_L_127 : decode code 127 = .ok (.iaload, 1) := by decide +kernel
theorem d_L_128 : decode code 128 = .ok (.aload_n 0, 1) := by decide +kernel
theorem d_L_129 : decode code 129 = .ok (.iload_n 3, 1) := by decide +kernel
theorem d_L_130 : decode code 130 = .ok (.iconst 2, 1) := by decide +kernel
theorem d_L_131 : decode code 131 = .ok (.iadd, 1) := by decide +kernel
theorem d_L_132 : decode code 132 = .ok (.iaload, 1) := by decide +kernel
theorem d_L_133 : decode code 133 = .ok (.aload_n 0, 1) := by decide +kernel
theorem d_L_134 : decode code 134 = .ok (.iload_n 3, 1) := by decide +kernel
theorem d_L_135 : decode code 135 = .ok (.iconst 3, 1) := by decide +kernel
theorem d_L_136 : decode code 136 = .ok (.iadd, 1) := by decide +kernel
theorem d_L_137 : decode code 137 = .ok (.iaload, 1) := by decide +kernel
theorem d_L_138 : decode code 138 = .ok (.aload_n 0, 1) := by decide +kernel
theorem d_L_139 : decode code 139 = .ok (.iload_n 3, 1) := by decide +kernel
theorem d_L_140 : decode code 140 = .ok (.iconst 4, 1) := by decide +kernel
theorem d_L_141 : decode code 141 = .ok (.iadd, 1) := by decide +kernel
theorem d_L_142 : decode code 142 = .ok (.iaload, 1) := by decide +kernel
theorem d_L_143 : decode code 143 = .ok (.aload_n 0, 1) := by decide +kernel
theorem d_L_144 : decode code 144 = .ok (.iload_n 3, 1) := by decide +kernel
theorem d_L_145 : decode code 145 = .ok (.iconst 5, 1) := by decide +kernel
theorem d_L_146 : decode code 146 = .ok (.iadd, 1) := by decide +kernel
theorem d_L_147 : decode code 147 = .ok (.iaload, 1) := by decide +kernel
theorem d_L_148 : decode code 148 = .ok (.invokevirtual 17, 3) := by decide +kernel
theorem d_L_151 : decode code 151 = .ok (.pop, 1) := by decide +kernel
theorem d_L_152 : decode code 152 = .ok (.goto 223, 3) := by decide +kernel
theorem d_L_155 : decode code 155 = .ok (.aload_n 1, 1) := by decide +kernel
theorem d_L_156 : decode code 156 = .ok (.aload_n 0, 1) := by decide +kernel
theorem d_L_157 : decode code 157 = .ok (.iload_n 3, 1) := by decide +kernel
theorem d_L_158 : decode code 158 = .ok (.iconst 1, 1) := by decide +kernel
theorem d_L_159 : decode code 159 = .ok (.iadd, 1) := by decide +kernel
theorem d_L_160 : decode code 160 = .ok (.iaload, 1) := by decide +kernel
theorem d_L_161 : decode code 161 = .ok (.invokevirtual 18, 3) := by decide +kernel
theorem d_L_164 : decode code 164 = .ok (.pop, 1) := by decide +kernel
theorem d_L_165 : decode code 165 = .ok (.aload_n 2, 1) := by decide +kernel
theorem d_L_166 : decode code 166 = .ok (.aload_n 0, 1) := by decide +kernel
theorem d_L_167 : decode code 167 = .ok (.iload_n 3, 1) := by decide +kernel
theorem d_L_168 : decode code 168 = .ok (.iconst 1, 1) := by decide +kernel
theorem d_L_169 : decode code 169 = .ok (.iadd, 1) := by decide +kernel
theorem d_L_170 : decode code 170 = .ok (.iaload, 1) := by decide +kernel
theorem d_L_171 : decode code 171 = .ok (.invokevirtual 22, 3) := by decide +kernel
theorem d_L_174 : decode code 174 = .ok (.pop, 1) := by decide +kernel
theorem d_L_175 : decode code 175 = .ok (.goto 200, 3) := by decide +kernel
theorem d_L_178 : decode code 178 = .ok (.aload_n 1, 1) := by decide +kernel
theorem d_L_179 : decode code 179 = .ok (.aload_n 0, 1) := by decide +kernel
theorem d_L_180 : decode code 180 = .ok (.iload_n 3, 1) := by decide +kernel
theorem d_L_181 : decode code 181 = .ok (.iconst 1, 1) := by decide +kernel
theorem d_L_182 : decode code 182 = .ok (.iadd, 1) := by decide +kernel
theorem d_L_183 : decode code 183 = .ok (.iaload, 1) := by decide +kernel
theorem d_L_184 : decode code 184 = .ok (.aload_n 0, 1) := by decide +kernel
theorem d_L_185 : decode code 185 = .ok (.iload_n 3, 1) := by decide +kernel
theorem d_L_186 : decode code 186 = .ok (.iconst 2, 1) := by decide +kernel
theorem d_L_187 : decode code 187 = .ok (.iadd, 1) := by decide +kernel
theorem d_L_188 : decode code 188 = .ok (.iaload, 1) := by decide +kernel
theorem d_L_189 : decode code 189 = .ok (.invokevirtual 23, 3) := by decide +kernel
theorem d_L_192 : decode code 192 = .ok (.pop, 1) := by decide +kernel
theorem d_L_193 : decode code 193 = .ok (.aload_n 2, 1) := by decide +kernel
theorem d_L_194 : decode code 194 = .ok (.aload_n 0, 1) := by decide +kernel
theorem d_L_195 : decode code 195 = .ok (.iload_n 3, 1) := by decide +kernel
theorem d_L_196 : decode code 196 = .ok (.iconst 1, 1) := by decide +kernel
theorem d_L_197 : decode code 197 = .ok (.iadd, 1) := by decide +kernel
theorem d_L_198 : decode code 198 = .ok (.iaload, 1) := by decide +kernel
theorem d_L_199 : decode code 199 = .ok (.aload_n 0, 1) := by decide +kernel
theorem d_L_200 : decode code 200 = .ok (.iload_n 3, 1) := by decide +kernel
theorem d_L_201 : decode code 201 = .ok (.iconst 2, 1) := by decide +kernel
theorem d_L_202 : decode code 202 = .ok (.iadd, 1) := by decide +kernel
theorem d_L_203 : decode code 203 = .ok (.iaload, 1) := by decide +kernel
theorem d_L_204 : decode code 204 = .ok (.invokevirtual 27, 3) := by decide +kernel
theorem d_L_207 : decode code 207 = .ok (.pop, 1) := by decide +kernel
theorem d_L_208 : decode code 208 = .ok (.goto 167, 3) := by decide +kernel
theorem d_L_211 : decode code 211 = .ok (.aload_n 1, 1) := by decide +kernel
theorem d_L_212 : decode code 212 = .ok (.aload_n 0, 1) := by decide +kernel
theorem d_L_213 : decode code 213 = .ok (.iload_n 3, 1) := by decide +kernel
theorem d_L_214 : decode code 214 = .ok (.iconst 1, 1) := by decide +kernel
theorem d_L_215 : decode code 215 = .ok (.iadd, 1) := by decide +kernel
theorem d_L_216 : decode code 216 = .ok (.iaload, 1) := by decide +kernel
theorem d_L_217 : decode code 217 = .ok (.invokevirtual 28, 3) := by decide +kernel
theorem d_L_220 : decode code 220 = .ok (.pop, 1) := by decide +kernel
theorem d_L_221 : decode code 221 = .ok (.aload_n 2, 1) := by decide +kernel
theorem d_L_222 : decode code 222 = .ok (.aload_n 0, 1) := by decide +kernel
theorem d_L_223 : decode code 223 = .ok (.iload_n 3, 1) := by decide +kernel
theorem d_L_224 : decode code 224 = .ok (.iconst 1, 1) := by decide +kernel
theorem d_L_225 : decode code 225 = .ok (.iadd, 1) := by decide +kernel
theorem d_L_226 : decode code 226 = .ok (.iaload, 1) := by decide +kernel
theorem d_L_227 : decode code 227 = .ok (.invokevirtual 31, 3) := by decide +kernel
theorem d_L_230 : decode code 230 = .ok (.pop, 1) := by decide +kernel
theorem d_L_231 : decode code 231 = .ok (.goto 144, 3) := by decide +kernel
theorem d_L_234 : decode code 234 = .ok (.aload_n 1, 1) := by decide +kernel
theorem d_L_235 : decode code 235 = .ok (.invokevirtual 32, 3) := by decide +kernel
theorem d_L_238 : decode code 238 = .ok (.pop, 1) := by decide +kernel
theorem d_L_239 : decode code 239 = .ok (.aload_n 2, 1) := by decide +kernel
theorem d_L_240 : decode code 240 = .ok (.invokevirtual 36, 3) := by decide +kernel
theorem d_L_243 : decode code 243 = .ok (.pop, 1) := by decide +kernel
theorem d_L_244 : decode code 244 = .ok (.goto 131, 3) := by decide +kernel
theorem d_L_247 : decode code 247 = .ok (.aload_n 1, 1) := by decide +kernel
theorem d_L_248 : decode code 248 = .ok (.invokevirtual 37, 3) := by decide +kernel
theorem d_L_251 : decode code 251 = .ok (.pop, 1) := by decide +kernel
theorem d_L_252 : decode code 252 = .ok (.aload_n 2, 1) := by decide +kernel
theorem d_L_253 : decode code 253 = .ok (.invokevirtual 40, 3) := by decide +kernel
theorem d_L_256 : decode code 256 = .ok (.pop, 1) := by decide +kernel
theorem d_L_257 : decode code 257 = .ok (.goto 118, 3) := by decide +kernel
theorem d_L_260 : decode code 260 = .ok (.aload_n 1, 1) := by decide +kernel
theorem d_L_261 : decode code 261 = .ok (.aload_n 0, 1) := by decide +kernel
theorem d_L_262 : decode code 262 = .ok (.iload_n 3, 1) := by decide +kernel
theorem d_L_263 : decode code 263 = .ok (.iconst 1, 1) := by decide +kernel
theorem d_L_264 : decode code 264 = .ok (.iadd, 1) := by decide +kernel
theorem d_L_265 : decode code 265 = .ok (.iaload, 1) := by decide +kernel
theorem d_L_266 : decode code 266 = .ok (.invokevirtual 41, 3) := by decide +kernel
theorem d_L_269 : decode code 269 = .ok (.pop, 1) := by decide +kernel
theorem d_L_270 : decode code 270 = .ok (.aload_n 2, 1) := by decide +kernel
theorem d_L_271 : decode code 271 = .ok (.aload_n 0, 1) := by decide +kernel
theorem d_L_272 : decode code 272 = .ok (.iload_n 3, 1) := by decide +kernel
theorem d_L_273 : decode code 273 = .ok (.iconst 1, 1) := by decide +kernel
theorem d_L_274 : decode code 274 = .ok (.iadd, 1) := by decide +kernel
theorem d_L_275 : decode code 275 = .ok (.iaload, 1) := by decide +kernel
theorem d_L_276 : decode code 276 = .ok (.invokevirtual 44, 3) := by decide +kernel
theorem d_L_279 : decode code 279 = .ok (.pop, 1) := by decide +kernel
theorem d_L_280 : decode code 280 = .ok (.goto 95, 3) := by decide +kernel
theorem d_L_283 : decode code 283 = .ok (.aload_n 1, 1) := by decide +kernel
theorem d_L_284 : decode code 284 = .ok (.aload_n 0, 1) := by decide +kernel
theorem d_L_285 : decode code 285 = .ok (.iload_n 3, 1) := by decide +kernel
theorem d_L_286 : decode code 286 = .ok (.iconst 1, 1) := by decide +kernel
theorem d_L_287 : decode code 287 = .ok (.iadd, 1) := by decide +kernel
theorem d_L_288 : decode code 288 = .ok (.iaload, 1) := by decide +kernel
theorem d_L_289 : decode code 289 = .ok (.aload_n 0, 1) := by decide +kernel
theorem d_L_290 : decode code 290 = .ok (.iload_n 3, 1) := by decide +kernel
theorem d_L_291 : decode code 291 = .ok (.iconst 2, 1) := by decide +kernel
theorem d_L_292 : decode code 292 = .ok (.iadd, 1) := by decide +kernel
theorem d_L_293 : decode code 293 = .ok (.iaload, 1) := by decide +kernel
theorem d_L_294 : decode code 294 = .ok (.invokevirtual 45, 3) := by decide +kernel
theorem d_L_297 : decode code 297 = .ok (.pop, 1) := by decide +kernel
theorem d_L_298 : decode code 298 = .ok (.aload_n 2, 1) := by decide +kernel
theorem d_L_299 : decode code 299 = .ok (.aload_n 0, 1) := by decide +kernel
theorem d_L_300 : decode code 300 = .ok (.iload_n 3, 1) := by decide +kernel
theorem d_L_301 : decode code 301 = .ok (.iconst 1, 1) := by decide +kernel
theorem d_L_302 : decode code 302 = .ok (.iadd, 1) := by decide +kernel
theorem d_L_303 : decode code 303 = .ok (.iaload, 1) := by decide +kernel
theorem d_L_304 : decode code 304 = .ok (.aload_n 0, 1) := by decide +kernel
theorem d_L_305 : decode code 305 = .ok (.iload_n 3, 1) := by decide +kernel
theorem d_L_306 : decode code 306 = .ok (.iconst 2, 1) := by decide +kernel
theorem d_L_307 : decode code 307 = .ok (.iadd, 1) := by decide +kernel
theorem d_L_308 : decode code 308 = .ok (.iaload, 1) := by decide +kernel
theorem d_L_309 : decode code 309 = .ok (.invokevirtual 48, 3) := by decide +kernel
theorem d_L_312 : decode code 312 = .ok (.pop, 1) := by decide +kernel
theorem d_L_313 : decode code 313 = .ok (.goto 62, 3) := by decide +kernel
theorem d_L_316 : decode code 316 = .ok (.aload_n 1, 1) := by decide +kernel
theorem d_L_317 : decode code 317 = .ok (.aload_n 0, 1) := by decide +kernel
theorem d_L_318 : decode code 318 = .ok (.iload_n 3, 1) := by decide +kernel
theorem d_L_319 : decode code 319 = .ok (.iconst 1, 1) := by decide +kernel
theorem d_L_320 : decode code 320 = .ok (.iadd, 1) := by decide +kernel
theorem d_L_321 : decode code 321 = .ok (.iaload, 1) := by decide +kernel
theorem d_L_322 : decode code 322 = .ok (.invokevirtual 49, 3) := by decide +kernel
theorem d_L_325 : decode code 325 = .ok (.pop, 1) := by decide +kernel
theorem d_L_326 : decode code 326 = .ok (.aload_n 2, 1) := by decide +kernel
theorem d_L_327 : decode code 327 = .ok (.aload_n 0, 1) := by decide +kernel
theorem d_L_328 : decode code 328 = .ok (.iload_n 3, 1) := by decide +kernel
theorem d_L_329 : decode code 329 = .ok (.iconst 1, 1) := by decide +kernel
theorem d_L_330 : decode code 330 = .ok (.iadd, 1) := by decide +kernel
theorem d_L_331 : decode code 331 = .ok (.iaload, 1) := by decide +kernel
theorem d_L_332 : decode code 332 = .ok (.invokevirtual 52, 3) := by decide +kernel
theorem d_L_335 : decode code 335 = .ok (.pop, 1) := by decide +kernel
theorem d_L_336 : decode code 336 = .ok (.goto 39, 3) := by decide +kernel
theorem d_L_339 : decode code 339 = .ok (.aload_n 1, 1) := by decide +kernel
theorem d_L_340 : decode code 340 = .ok (.aload_n 0, 1) := by decide +kernel
theorem d_L_341 : decode code 341 = .ok (.iload_n 3, 1) := by decide +kernel
theorem d_L_342 : decode code 342 = .ok (.iconst 1, 1) := by decide +kernel
theorem d_L_343 : decode code 343 = .ok (.iadd, 1) := by decide +kernel
theorem d_L_344 : decode code 344 = .ok (.iaload, 1) := by decide +kernel
theorem d_L_345 : decode code 345 = .ok (.invokevirtual 53, 3) := by decide +kernel
theorem d_L_348 : decode code 348 = .ok (.pop, 1) := by decide +kernel
theorem d_L_349 : decode code 349 = .ok (.aload_n 2, 1) := by decide +kernel
theorem d_L_350 : decode code 350 = .ok (.aload_n 0, 1) := by decide +kernel
theorem d_L_351 : decode code 351 = .ok (.iload_n 3, 1) := by decide +kernel
theorem d_L_352 : decode code 352 = .ok (.iconst 1, 1) := by decide +kernel
theorem d_L_353 : decode code 353 = .ok (.iadd, 1) := by decide +kernel
theorem d_L_354 : decode code 354 = .ok (.iaload, 1) := by decide +kernel
theorem d_L_355 : decode code 355 = .ok (.invokevirtual 56, 3) := by decide +kernel
theorem d_L_358 : decode code 358 = .ok (.pop, 1) := by decide +kernel
theorem d_L_359 : decode code 359 = .ok (.goto 16, 3) := by decide +kernel
theorem d_L_362 : decode code 362 = .ok (.aload_n 1, 1) := by decide +kernel
theorem d_L_363 : decode code 363 = .ok (.invokevirtual 57, 3) := by decide +kernel
theorem d_L_366 : decode code 366 = .ok (.aload_n 2, 1) := by decide +kernel
theorem d_L_367 : decode code 367 = .ok (.invokevirtual 60, 3) := by decide +kernel
theorem d_L_370 : decode code 370 = .ok (.if_icmp .eq 5, 3) := by decide +kernel
theorem d_L_373 : decode code 373 = .ok (.iconst 0, 1) := by decide +kernel
theorem d_L_374 : decode code 374 = .ok (.ireturn, 1) := by decide +kernel
theorem d_L_375 : decode code 375 = .ok (.iinc 3 6, 3) := by decide +kernel
theorem d_L_378 : decode code 378 = .ok (.goto (-360), 3) := by decide +kernel
theorem d_L_381 : decode code 381 = .ok (.iconst 1, 1) := by decide +kernel
theorem d_L_382 : decode code 382 = .ok (.ireturn, 1) := by decide +kernel
section LAWC
variable {cc : ByteArray} {nL : Nat} {own : String} {D : va_G} {cs : Nat → ClassId} {w1 w2 : St → va_W} {Z : zT} {l : Launch} {y : MethodName} {rm : Room} {u u' v : St}
variable {p : Program} {e : Env} {R : Room} {s : State} {m : MethodId} {args : Array Value} {below : List Frame} {meth : Method} {c : Code} {H : Heap} {locs : List Loc} {Q : State → Prop} {cells slots : Nat}
variable {bytes : ByteArray} {maxL n idx : Nat} {rt : Option FieldType} {As rest st : List Value} {b pc : Nat} {ls : Array Slot} {r : Int32}
/-- a call of one of the two, the other's cells stay -/
theorem law_call (hfix : p.tables.exec = Jvm.exec ∧ c.code = cc ∧ c.maxLocals = nL ∧ s.vm.findClass own = some m.cls) (hts : ∀ x ∈ tb, x.before args s = true) (hK : va_K D clA (tyA cs) s) (hw1 : wD w1) (hz : zOK Z) (hZ : Z (fun q => s.heap.size ≤ q) s s.heap) (hin : ∀ (u : St) (k : Nat) (q : Nat × va_E), (w1 u)[k]? = some q → s.heap.size ≤ q.1) (hdis : ∀ (u v : St) (k j : Nat) (q1 q2 : Nat × va_E), (w1 u)[k]? = some q1 → (w2 v)[j]? = some q2 → q1.1 ≠ q2.1) (hP : va_P D clA (w1 u) H) (hP2 : va_P D clA (w2 v) H) (hS : va_S (fun q => s.heap.size ≤ q) s.heap H locs) (hM : KI clA D cs w1 Z l y (.code y bytes maxL rt) rm (.ref b :: As) u r u') (hW : wdV y bytes maxL rt n) {q0 ci : Nat} {fs : List Value} {T : u_T} {N : Nat} (he : (w1 u)[q0]? = some (b, .inr (ci, fs))) (hc : clA[ci]? = some (y.cls, T, N)) (hl : Cond.methodLink own idx y ∈ tb) (hrc : rm.cells = 0 ∧ rm.slots = 0) (hR : rm.frames + 1 ≤ R.frames ∧ 8 + (maxL + 11) + rm.locals ≤ R.locals) (hcs : cells + 0 ≤ R.cells ∧ slots + 0 ≤ R.slots) (hn : As.length = n) (hls : ls.size = nL) (hst : st = As.reverse ++ .ref b :: rest) (hr : (rest.map fun v => v.category).sum ≤ 8) (hdg : decode cc pc = .ok (.invokevirtual idx, 3))
    (kk : ∀ (H : Heap) (locs : List Loc), va_P D clA (w1 u') H → va_P D clA (w2 v) H → va_S (fun q => s.heap.size ≤ q) s.heap H locs → W p l e R s m args below meth c H locs cells slots Q (F0 m (pc + 3) ls (.int r :: rest))) : W p l e R s m args below meth c H locs cells slots Q (F0 m pc ls st) := by
  have hup : ∀ q, wA w1 H.size q → s.heap.size ≤ q := by
    intro q h
    rcases h with ⟨u2, k, e2, h⟩ | h
    · exact hin u2 k _ h
    · exact Nat.le_trans hS.1 h
  have hpay : ∀ U : State, U.heap = H → s.WarmedH U.vm → PcW clA D cs w1 Z (.ref b :: As) u H.size (Value.ref b :: As).toArray U := by
    intro U hU hW
    refine ⟨rfl, by rw [hU], by rw [hU]; exact hP, va_K.moved hW.alike hK, ?_⟩
    rw [hU]
    exact hz.1 _ s _ _ hW (hz.2.2.2 _ _ _ _ hup (hz.2.2.1 _ _ s.heap _ (fun q hq hnA => hS.2.1 q hq hnA) hZ))
  have hcb : CallB R s args own idx y bytes maxL rt (.code y bytes maxL rt :: tb) rm 0 0 n := callB_of (Ts := tb) n hts (fun x hx => (List.mem_cons.mp hx).elim (fun e => by subst e; exact ⟨hW.1, tb_good hW.1⟩) (fun hx => ⟨hx, tb_good hx⟩)) rfl hrc.1 hrc.2 (hts _ hW.2.2.2.1) (hts _ hl) ⟨hW.2.2.2.2.1, hW.2.2.2.2.2.1, hW.2.2.2.2.2.2⟩ hR
  refine va_calli (A0 := fun q => s.heap.size ≤ q) (va_runV (Ts := tb) (own := own) (C := y.cls) (As := As) (rest := rest) ⟨hfix.1, hfix.2.1, hfix.2.2.1, hfix.2.2.2, hts⟩ (hM H.size) ⟨hcb, hts _ hW.2.1, hts _ hW.2.2.1⟩ ⟨PcW.blind hz _, va_recv hK hP hc he, hpay⟩ rfl hn hls hst (lv_room hr) hdg hcs) hS (fun q _ h => hup q h) (fun q h => hup q h) (fun r1 u1 t H1 locs1 ht hvm hw hB hz1 hk1 hS1 => ?_)
  obtain ⟨rfl, rfl⟩ := hw
  refine kk H1 locs1 (by rw [← ht]; exact hB) (hP2.kept fun k q hk => hk1 q.1 (hP2 k q hk).lt ?_) hS1
  intro h
  rcases h with ⟨u2, k2, e2, h⟩ | h
  · exact hdis u2 v k2 k _ _ h hk rfl
  · exact absurd (hP2 k q hk).lt (Nat.not_lt.mpr h)
end LAWC
theorem lw_le {L i : Nat} (hL : L ≤ 3072) (hi : i ≤ L) (h : ¬ Int32.ofNat L - 6 < nI i) : i + 6 ≤ L := by
  have e1 : (nI L - nI 6).toInt = (L : Int) - 6 := pk_sub_toInt (by omega) (by omega)
  have h2 := Int32.le_iff_toInt_le.mp (Int32.not_lt.mp h)
  rw [show Int32.ofNat L - 6 = nI L - nI 6 from rfl, e1, nI_toInt (by omega)] at h2
  omega
set_option maxHeartbeats 4000000 in
set_option maxRecDepth 100000 in
theorem law_loop {p : Program} {l : Launch} {e : Env} {s : State} {m : MethodId} {below : List Frame} {meth : Method} {c : Code} {D : va_G} {cs : Nat → ClassId} {a b : Nat → Nat} {sk sv9 st : Nat → Nat} {bs L : Nat} {xs : Nat → Int32} {Rel : St → St → Prop} (hRel : RelOK Rel) (hL : L ≤ 3072) (C0 : lw_At p s m meth c bs L xs) (hK : va_K D clA (tyA cs) s) (hwX : wD (xW a cs)) (hwM : wD (mW b cs)) (hZ : xZ sk sv9 st (fun q => s.heap.size ≤ q) s s.heap) (hinX : ∀ (u : St) (k : Nat) (q : Nat × va_E), (xW a cs u)[k]? = some q → s.heap.size ≤ q.1) (hinM : ∀ (u : St) (k : Nat) (q : Nat × va_E), (mW b cs u)[k]? = some q → s.heap.size ≤ q.1) (hdis : ∀ (u v : St) (k j : Nat) (q1 q2 : Nat × va_E), (xW a cs u)[k]? = some q1 → (mW b cs v)[j]? = some q2 → q1.1 ≠ q2.1) :
    ∀ (n i : Nat) (u v : St) (H : Heap) (locs : List Loc) (ls : Array Slot), i ≤ L → L + 1 ≤ i + n → (i = 0 → u = u0 ∧ v = u0) → Rel u v → va_P D clA (xW a cs u) H → va_P D clA (mW b cs v) H → va_S (fun q => s.heap.size ≤ q) s.heap H locs → lv_has ls 4 [(0, .ref bs), (1, .ref (a 6)), (2, .ref (b 0)), (3, .int (nI i))] → W p l e room_1 s m #[Value.ref bs] below meth c H locs 35 17844 (lw_Z below #[Value.ref bs] s) (F0 m 18 ls []) := by
  obtain ⟨hx, hb, hr, hml, hown, hts0, hX, hbl, hlocks, hgv⟩ := C0
  have hts : ∀ x ∈ tb, x.before #[Value.ref bs] s = true := fun x hx => hts0 x (tb_tbl hx)
  have hfix : p.tables.exec = Jvm.exec ∧ c.code = code ∧ c.maxLocals = 4 ∧ s.vm.findClass R_law = some m.cls := ⟨hx, hb, hml, hown⟩
  have hbA : ¬ (fun q : Nat => s.heap.size ≤ q) bs := Nat.not_le.mpr hbl
  have hdis' : ∀ (u v : St) (k j : Nat) (q1 q2 : Nat × va_E), (mW b cs u)[k]? = some q1 → (xW a cs v)[j]? = some q2 → q1.1 ≠ q2.1 := fun u v k j q1 q2 h1 h2 h => hdis v u j k q2 q1 h2 h1 h.symm
  intro n
  induction n with
  | zero =>
    intro i u v H locs ls h1 h2
    exact absurd h2 (by omega)
  | succ n ih =>
    intro i u v H locs ls hi hin h00 hrel hP hP2 hS hl
    have hrs := hRel.2 u v hrel
    refine lv_iload_n hx hb d_L_18 rfl (lv_at hl 3 rfl) ?_
    refine lv_aload_n hx hb d_L_19 rfl (lv_at hl 0 rfl) ?_
    refine va_slen hx hb hX hbl hbA hS d_L_20 ?_
    refine lv_bipush (v := 6) hx hb d_L_21 (by decide) ?_
    refine lv_isub hx hb d_L_23 ?_
    refine lv_icmp_gt (tgt := 381) hx hb d_L_24 (by decide) (fun hc => ?_) (fun hc => ?_)
    · refine lv_iconst (v := 1) hx hb d_L_381 (by decide) ?_
      refine va_forget (fun q hq => hS.2.2 q hq) ?_
      exact lw_ret hx hb hr hlocks d_L_382
    have hle := lw_le hL hi hc
    have h0 : vp_in (nI i) L := vp_in_nI (by omega) (by omega)
    have h1 : vp_in (nI i + 1) L := by rw [show nI i + 1 = nI (i + 1) from nI_add i 1]; exact vp_in_nI (by omega) (by omega)
    have h2 : vp_in (nI i + 2) L := by rw [show nI i + 2 = nI (i + 2) from nI_add i 2]; exact vp_in_nI (by omega) (by omega)
    have h3 : vp_in (nI i + 3) L := by rw [show nI i + 3 = nI (i + 3) from nI_add i 3]; exact vp_in_nI (by omega) (by omega)
    have h4 : vp_in (nI i + 4) L := by rw [show nI i + 4 = nI (i + 4) from nI_add i 4]; exact vp_in_nI (by omega) (by omega)
    have h5 : vp_in (nI i + 5) L := by rw [show nI i + 5 = nI (i + 5) from nI_add i 5]; exact vp_in_nI (by omega) (by omega)
    have hnext : ∀ (u v : St) (H : Heap) (locs : List Loc), Rel u v → va_P D clA (xW a cs u) H → va_P D clA (mW b cs v) H → va_S (fun q => s.heap.size ≤ q) s.heap H locs → W p l e room_1 s m #[Value.ref bs] below meth c H locs 35 17844 (lw_Z below #[Value.ref bs] s) (F0 m 375 ls []) := by
      intro u v H locs hrel hP hP2 hS
      refine lv_iinc (v := nI (i + 6)) (lv' := [(3, .int (nI (i + 6))), (0, .ref bs), (1, .ref (a 6)), (2, .ref (b 0))]) hx hb d_L_375 hl (k := 3) rfl (nI_add i 6) (by decide) rfl (fun ls hl => ?_)
      refine lv_goto (tgt := 18) hx hb d_L_378 (by decide) ?_
      exact ih (i + 6) u v H locs ls hle (by omega) (fun h => by omega) hrel hP hP2 hS (lv_sub hl [1, 2, 3, 0] rfl)
    refine lv_aload_n hx hb d_L_27 rfl (lv_at hl 0 rfl) ?_
    refine lv_iload_n hx hb d_L_28 rfl (lv_at hl 3 rfl) ?_
    refine va_sld hx hb hX hbl hbA hS h0 d_L_29 ?_
    refine lv_bipush (v := 15) hx hb d_L_30 (by decide) ?_
    refine lv_iand hx hb d_L_32 ?_
    obtain ⟨j, hj, ej⟩ := pk_andE (xs (nI i).toNatClampNeg) (m := 15) 4 (by decide)
    rw [ej]
    by_cases hj0 : j = 0
    · subst hj0
      refine lv_tableIn (tgt := 92) (off := 59) hx hb d_L_33 (by decide) (by decide) (by decide) (by decide) ?_
      obtain ⟨r, u', v', e1, e2, hrel'⟩ := hrs.1 (xs (nI i + 1).toNatClampNeg) (xs (nI i + 2).toNatClampNeg) (xs (nI i + 3).toNatClampNeg) (xs (nI i + 4).toNatClampNeg) (xs (nI i + 5).toNatClampNeg)
      refine lv_aload_n hx hb d_L_92 rfl (lv_at hl 1 rfl) ?_
      refine lv_aload_n hx hb d_L_93 rfl (lv_at hl 0 rfl) ?_
      refine lv_iload_n hx hb d_L_94 rfl (lv_at hl 3 rfl) ?_
      refine lv_iconst (v := 1) hx hb d_L_95 (by decide) ?_
      refine lv_iadd hx hb d_L_96 ?_
      refine va_sld hx hb hX hbl hbA hS h1 d_L_97 ?_
      refine lv_aload_n hx hb d_L_98 rfl (lv_at hl 0 rfl) ?_
      refine lv_iload_n hx hb d_L_99 rfl (lv_at hl 3 rfl) ?_
      refine lv_iconst (v := 2) hx hb d_L_100 (by decide) ?_
      refine lv_iadd hx hb d_L_101 ?_
      refine va_sld hx hb hX hbl hbA hS h2 d_L_102 ?_
      refine lv_aload_n hx hb d_L_103 rfl (lv_at hl 0 rfl) ?_
      refine lv_iload_n hx hb d_L_104 rfl (lv_at hl 3 rfl) ?_
      refine lv_iconst (v := 3) hx hb d_L_105 (by decide) ?_
      refine lv_iadd hx hb d_L_106 ?_
      refine va_sld hx hb hX hbl hbA hS h3 d_L_107 ?_
      refine lv_aload_n hx hb d_L_108 rfl (lv_at hl 0 rfl) ?_
      refine lv_iload_n hx hb d_L_109 rfl (lv_at hl 3 rfl) ?_
      refine lv_iconst (v := 4) hx hb d_L_110 (by decide) ?_
      refine lv_iadd hx hb d_L_111 ?_
      refine va_sld hx hb hX hbl hbA hS h4 d_L_112 ?_
      refine lv_aload_n hx hb d_L_113 rfl (lv_at hl 0 rfl) ?_
      refine lv_iload_n hx hb d_L_114 rfl (lv_at hl 3 rfl) ?_
      refine lv_iconst (v := 5) hx hb d_L_115 (by decide) ?_
      refine lv_iadd hx hb d_L_116 ?_
      refine va_sld hx hb hX hbl hbA hS h5 d_L_117 ?_
      refine law_call (rest := []) (q0 := 6) (ci := 6) (w2 := mW b cs) (v := v) hfix hts hK hwX (xZ_ok sk sv9 st) hZ hinX hdis hP hP2 hS (c_X_feed hwX (xZ_ok sk sv9 st) l e1) wd_X_feed rfl rfl k_239 ⟨rfl, rfl⟩ ⟨by decide, by decide⟩ ⟨by decide, by decide⟩ rfl hl.1 rfl (Nat.le_of_ble_eq_true rfl) d_L_118 (fun H locs hP hP2 hS => ?_)
      refine lv_pop hx hb d_L_121 rfl ?_
      refine lv_aload_n hx hb d_L_122 rfl (lv_at hl 2 rfl) ?_
      refine lv_aload_n hx hb d_L_123 rfl (lv_at hl 0 rfl) ?_
      refine lv_iload_n hx hb d_L_124 rfl (lv_at hl 3 rfl) ?_
      refine lv_iconst (v := 1) hx hb d_L_125 (by decide) ?_
      refine lv_iadd hx hb d_L_126 ?_
      refine va_sld hx hb hX hbl hbA hS h1 d_L_127 ?_
      refine lv_aload_n hx hb d_L_128 rfl (lv_at hl 0 rfl) ?_
      refine lv_iload_n hx hb d_L_129 rfl (lv_at hl 3 rfl) ?_
      refine lv_iconst (v := 2) hx hb d_L_130 (by decide) ?_
      refine lv_iadd hx hb d_L_131 ?_
      refine va_sld hx hb hX hbl hbA hS h2 d_L_132 ?_
      refine lv_aload_n hx hb d_L_133 rfl (lv_at hl 0 rfl) ?_
      refine lv_iload_n hx hb d_L_134 rfl (lv_at hl 3 rfl) ?_
      refine lv_iconst (v := 3) hx hb d_L_135 (by decide) ?_
      refine lv_iadd hx hb d_L_136 ?_
      refine va_sld hx hb hX hbl hbA hS h3 d_L_137 ?_
      refine lv_aload_n hx hb d_L_138 rfl (lv_at hl 0 rfl) ?_
      refine lv_iload_n hx hb d_L_139 rfl (lv_at hl 3 rfl) ?_
      refine lv_iconst (v := 4) hx hb d_L_140 (by decide) ?_
      refine lv_iadd hx hb d_L_141 ?_
      refine va_sld hx hb hX hbl hbA hS h4 d_L_142 ?_
      refine lv_aload_n hx hb d_L_143 rfl (lv_at hl 0 rfl) ?_
      refine lv_iload_n hx hb d_L_144 rfl (lv_at hl 3 rfl) ?_
      refine lv_iconst (v := 5) hx hb d_L_145 (by decide) ?_
      refine lv_iadd hx hb d_L_146 ?_
      refine va_sld hx hb hX hbl hbA hS h5 d_L_147 ?_
      refine law_call (Z := fun _ _ _ => True) (rest := []) (q0 := 0) (ci := 7) (w2 := xW a cs) (v := u') hfix hts hK hwM zT_ok trivial hinM hdis' hP2 hP hS (c_M_feed hwM zT_ok l e2) wd_M_feed rfl rfl k_798 ⟨rfl, rfl⟩ ⟨by decide, by decide⟩ ⟨by decide, by decide⟩ rfl hl.1 rfl (Nat.le_of_ble_eq_true rfl) d_L_148 (fun H locs hP2 hP hS => ?_)
      refine lv_pop hx hb d_L_151 rfl ?_
      refine lv_goto (tgt := 375) hx hb d_L_152 (by decide) ?_
      exact hnext u' v' H locs hrel' hP hP2 hS
    by_cases hj1 : j = 1
    · subst hj1
      refine lv_tableIn (tgt := 155) (off := 122) hx hb d_L_33 (by decide) (by decide) (by decide) (by decide) ?_
      obtain ⟨r, u', v', e1, e2, hrel'⟩ := hrs.2.1 (xs (nI i + 1).toNatClampNeg)
      refine lv_aload_n hx hb d_L_155 rfl (lv_at hl 1 rfl) ?_
      refine lv_aload_n hx hb d_L_156 rfl (lv_at hl 0 rfl) ?_
      refine lv_iload_n hx hb d_L_157 rfl (lv_at hl 3 rfl) ?_
      refine lv_iconst (v := 1) hx hb d_L_158 (by decide) ?_
      refine lv_iadd hx hb d_L_159 ?_
      refine va_sld hx hb hX hbl hbA hS h1 d_L_160 ?_
      refine law_call (rest := []) (q0 := 6) (ci := 6) (w2 := mW b cs) (v := v) hfix hts hK hwX (xZ_ok sk sv9 st) hZ hinX hdis hP hP2 hS (c_X_cut hwX (xZ_ok sk sv9 st) l e1) wd_X_cut rfl rfl k_247 ⟨rfl, rfl⟩ ⟨by decide, by decide⟩ ⟨by decide, by decide⟩ rfl hl.1 rfl (Nat.le_of_ble_eq_true rfl) d_L_161 (fun H locs hP hP2 hS => ?_)
      refine lv_pop hx hb d_L_164 rfl ?_
      refine lv_aload_n hx hb d_L_165 rfl (lv_at hl 2 rfl) ?_
      refine lv_aload_n hx hb d_L_166 rfl (lv_at hl 0 rfl) ?_
      refine lv_iload_n hx hb d_L_167 rfl (lv_at hl 3 rfl) ?_
      refine lv_iconst (v := 1) hx hb d_L_168 (by decide) ?_
      refine lv_iadd hx hb d_L_169 ?_
      refine va_sld hx hb hX hbl hbA hS h1 d_L_170 ?_
      refine law_call (Z := fun _ _ _ => True) (rest := []) (q0 := 0) (ci := 7) (w2 := xW a cs) (v := u') hfix hts hK hwM zT_ok trivial hinM hdis' hP2 hP hS (c_M_cut hwM zT_ok l e2) wd_M_cut rfl rfl k_802 ⟨rfl, rfl⟩ ⟨by decide, by decide⟩ ⟨by decide, by decide⟩ rfl hl.1 rfl (Nat.le_of_ble_eq_true rfl) d_L_171 (fun H locs hP2 hP hS => ?_)
      refine lv_pop hx hb d_L_174 rfl ?_
      refine lv_goto (tgt := 375) hx hb d_L_175 (by decide) ?_
      exact hnext u' v' H locs hrel' hP hP2 hS
    by_cases hj2 : j = 2
    · subst hj2
      refine lv_tableIn (tgt := 178) (off := 145) hx hb d_L_33 (by decide) (by decide) (by decide) (by decide) ?_
      obtain ⟨r, u', v', e1, e2, hrel'⟩ := hrs.2.2.1 (xs (nI i + 1).toNatClampNeg) (xs (nI i + 2).toNatClampNeg)
      refine lv_aload_n hx hb d_L_178 rfl (lv_at hl 1 rfl) ?_
      refine lv_aload_n hx hb d_L_179 rfl (lv_at hl 0 rfl) ?_
      refine lv_iload_n hx hb d_L_180 rfl (lv_at hl 3 rfl) ?_
      refine lv_iconst (v := 1) hx hb d_L_181 (by decide) ?_
      refine lv_iadd hx hb d_L_182 ?_
      refine va_sld hx hb hX hbl hbA hS h1 d_L_183 ?_
      refine lv_aload_n hx hb d_L_184 rfl (lv_at hl 0 rfl) ?_
      refine lv_iload_n hx hb d_L_185 rfl (lv_at hl 3 rfl) ?_
      refine lv_iconst (v := 2) hx hb d_L_186 (by decide) ?_
      refine lv_iadd hx hb d_L_187 ?_
      refine va_sld hx hb hX hbl hbA hS h2 d_L_188 ?_
      refine law_call (rest := []) (q0 := 6) (ci := 6) (w2 := mW b cs) (v := v) hfix hts hK hwX (xZ_ok sk sv9 st) hZ hinX hdis hP hP2 hS (c_X_turn hwX (xZ_ok sk sv9 st) l e1) wd_X_turn rfl rfl k_251 ⟨rfl, rfl⟩ ⟨by decide, by decide⟩ ⟨by decide, by decide⟩ rfl hl.1 rfl (Nat.le_of_ble_eq_true rfl) d_L_189 (fun H locs hP hP2 hS => ?_)
      refine lv_pop hx hb d_L_192 rfl ?_
      refine lv_aload_n hx hb d_L_193 rfl (lv_at hl 2 rfl) ?_
      refine lv_aload_n hx hb d_L_194 rfl (lv_at hl 0 rfl) ?_
      refine lv_iload_n hx hb d_L_195 rfl (lv_at hl 3 rfl) ?_
      refine lv_iconst (v := 1) hx hb d_L_196 (by decide) ?_
      refine lv_iadd hx hb d_L_197 ?_
      refine va_sld hx hb hX hbl hbA hS h1 d_L_198 ?_
      refine lv_aload_n hx hb d_L_199 rfl (lv_at hl 0 rfl) ?_
      refine lv_iload_n hx hb d_L_200 rfl (lv_at hl 3 rfl) ?_
      refine lv_iconst (v := 2) hx hb d_L_201 (by decide) ?_
      refine lv_iadd hx hb d_L_202 ?_
      refine va_sld hx hb hX hbl hbA hS h2 d_L_203 ?_
      refine law_call (Z := fun _ _ _ => True) (rest := []) (q0 := 0) (ci := 7) (w2 := xW a cs) (v := u') hfix hts hK hwM zT_ok trivial hinM hdis' hP2 hP hS (c_M_turn hwM zT_ok l e2) wd_M_turn rfl rfl k_806 ⟨rfl, rfl⟩ ⟨by decide, by decide⟩ ⟨by decide, by decide⟩ rfl hl.1 rfl (Nat.le_of_ble_eq_true rfl) d_L_204 (fun H locs hP2 hP hS => ?_)
      refine lv_pop hx hb d_L_207 rfl ?_
      refine lv_goto (tgt := 375) hx hb d_L_208 (by decide) ?_
      exact hnext u' v' H locs hrel' hP hP2 hS
    by_cases hj3 : j = 3
    · subst hj3
      refine lv_tableIn (tgt := 211) (off := 178) hx hb d_L_33 (by decide) (by decide) (by decide) (by decide) ?_
      obtain ⟨r, u', v', e1, e2, hrel'⟩ := hrs.2.2.2.1 (xs (nI i + 1).toNatClampNeg)
      refine lv_aload_n hx hb d_L_211 rfl (lv_at hl 1 rfl) ?_
      refine lv_aload_n hx hb d_L_212 rfl (lv_at hl 0 rfl) ?_
      refine lv_iload_n hx hb d_L_213 rfl (lv_at hl 3 rfl) ?_
      refine lv_iconst (v := 1) hx hb d_L_214 (by decide) ?_
      refine lv_iadd hx hb d_L_215 ?_
      refine va_sld hx hb hX hbl hbA hS h1 d_L_216 ?_
      refine law_call (rest := []) (q0 := 6) (ci := 6) (w2 := mW b cs) (v := v) hfix hts hK hwX (xZ_ok sk sv9 st) hZ hinX hdis hP hP2 hS (c_X_byteAt hwX (xZ_ok sk sv9 st) l e1) wd_X_byteAt rfl rfl k_263 ⟨rfl, rfl⟩ ⟨by decide, by decide⟩ ⟨by decide, by decide⟩ rfl hl.1 rfl (Nat.le_of_ble_eq_true rfl) d_L_217 (fun H locs hP hP2 hS => ?_)
      refine lv_pop hx hb d_L_220 rfl ?_
      refine lv_aload_n hx hb d_L_221 rfl (lv_at hl 2 rfl) ?_
      refine lv_aload_n hx hb d_L_222 rfl (lv_at hl 0 rfl) ?_
      refine lv_iload_n hx hb d_L_223 rfl (lv_at hl 3 rfl) ?_
      refine lv_iconst (v := 1) hx hb d_L_224 (by decide) ?_
      refine lv_iadd hx hb d_L_225 ?_
      refine va_sld hx hb hX hbl hbA hS h1 d_L_226 ?_
      refine law_call (Z := fun _ _ _ => True) (rest := []) (q0 := 0) (ci := 7) (w2 := xW a cs) (v := u') hfix hts hK hwM zT_ok trivial hinM hdis' hP2 hP hS (c_M_byteAt hwM zT_ok l e2) wd_M_byteAt rfl rfl k_810 ⟨rfl, rfl⟩ ⟨by decide, by decide⟩ ⟨by decide, by decide⟩ rfl hl.1 rfl (Nat.le_of_ble_eq_true rfl) d_L_227 (fun H locs hP2 hP hS => ?_)
      refine lv_pop hx hb d_L_230 rfl ?_
      refine lv_goto (tgt := 375) hx hb d_L_231 (by decide) ?_
      exact hnext u' v' H locs hrel' hP hP2 hS
    by_cases hj4 : j = 4
    · subst hj4
      refine lv_tableIn (tgt := 234) (off := 201) hx hb d_L_33 (by decide) (by decide) (by decide) (by decide) ?_
      obtain ⟨r, u', v', e1, e2, hrel'⟩ := hrs.2.2.2.2.1
      refine lv_aload_n hx hb d_L_234 rfl (lv_at hl 1 rfl) ?_
      refine law_call (rest := []) (q0 := 6) (ci := 6) (w2 := mW b cs) (v := v) hfix hts hK hwX (xZ_ok sk sv9 st) hZ hinX hdis hP hP2 hS (c_X_judge hwX (xZ_ok sk sv9 st) l e1) wd_X_judge rfl rfl k_267 ⟨rfl, rfl⟩ ⟨by decide, by decide⟩ ⟨by decide, by decide⟩ rfl hl.1 rfl (Nat.le_of_ble_eq_true rfl) d_L_235 (fun H locs hP hP2 hS => ?_)
      refine lv_pop hx hb d_L_238 rfl ?_
      refine lv_aload_n hx hb d_L_239 rfl (lv_at hl 2 rfl) ?_
      refine law_call (Z := fun _ _ _ => True) (rest := []) (q0 := 0) (ci := 7) (w2 := xW a cs) (v := u') hfix hts hK hwM zT_ok trivial hinM hdis' hP2 hP hS (c_M_judge hwM zT_ok l e2) wd_M_judge rfl rfl k_814 ⟨rfl, rfl⟩ ⟨by decide, by decide⟩ ⟨by decide, by decide⟩ rfl hl.1 rfl (Nat.le_of_ble_eq_true rfl) d_L_240 (fun H locs hP2 hP hS => ?_)
      refine lv_pop hx hb d_L_243 rfl ?_
      refine lv_goto (tgt := 375) hx hb d_L_244 (by decide) ?_
      exact hnext u' v' H locs hrel' hP hP2 hS
    by_cases hj5 : j = 5
    · subst hj5
      refine lv_tableIn (tgt := 247) (off := 214) hx hb d_L_33 (by decide) (by decide) (by decide) (by decide) ?_
      obtain ⟨r, r', u', v', e1, e2, hrel'⟩ := hrs.2.2.2.2.2.1
      refine lv_aload_n hx hb d_L_247 rfl (lv_at hl 1 rfl) ?_
      refine law_call (rest := []) (q0 := 6) (ci := 6) (w2 := mW b cs) (v := v) hfix hts hK hwX (xZ_ok sk sv9 st) hZ hinX hdis hP hP2 hS (c_X_rule hwX (xZ_ok sk sv9 st) l e1) wd_X_rule rfl rfl k_664 ⟨rfl, rfl⟩ ⟨by decide, by decide⟩ ⟨by decide, by decide⟩ rfl hl.1 rfl (Nat.le_of_ble_eq_true rfl) d_L_248 (fun H locs hP hP2 hS => ?_)
      refine lv_pop hx hb d_L_251 rfl ?_
      refine lv_aload_n hx hb d_L_252 rfl (lv_at hl 2 rfl) ?_
      refine law_call (Z := fun _ _ _ => True) (rest := []) (q0 := 0) (ci := 7) (w2 := xW a cs) (v := u') hfix hts hK hwM zT_ok trivial hinM hdis' hP2 hP hS (c_M_rule hwM zT_ok l e2) wd_M_rule rfl rfl k_1045 ⟨rfl, rfl⟩ ⟨by decide, by decide⟩ ⟨by decide, by decide⟩ rfl hl.1 rfl (Nat.le_of_ble_eq_true rfl) d_L_253 (fun H locs hP2 hP hS => ?_)
      refine lv_pop hx hb d_L_256 rfl ?_
      refine lv_goto (tgt := 375) hx hb d_L_257 (by decide) ?_
      exact hnext u' v' H locs hrel' hP hP2 hS
    by_cases hj6 : j = 6
    · subst hj6
      refine lv_tableIn (tgt := 260) (off := 227) hx hb d_L_33 (by decide) (by decide) (by decide) (by decide) ?_
      obtain ⟨r, u', v', e1, e2, hrel'⟩ := hrs.2.2.2.2.2.2.1 (xs (nI i + 1).toNatClampNeg)
      refine lv_aload_n hx hb d_L_260 rfl (lv_at hl 1 rfl) ?_
      refine lv_aload_n hx hb d_L_261 rfl (lv_at hl 0 rfl) ?_
      refine lv_iload_n hx hb d_L_262 rfl (lv_at hl 3 rfl) ?_
      refine lv_iconst (v := 1) hx hb d_L_263 (by decide) ?_
      refine lv_iadd hx hb d_L_264 ?_
      refine va_sld hx hb hX hbl hbA hS h1 d_L_265 ?_
      refine law_call (rest := []) (q0 := 6) (ci := 6) (w2 := mW b cs) (v := v) hfix hts hK hwX (xZ_ok sk sv9 st) hZ hinX hdis hP hP2 hS (c_X_told hwX (xZ_ok sk sv9 st) l e1) wd_X_told rfl rfl k_668 ⟨rfl, rfl⟩ ⟨by decide, by decide⟩ ⟨by decide, by decide⟩ rfl hl.1 rfl (Nat.le_of_ble_eq_true rfl) d_L_266 (fun H locs hP hP2 hS => ?_)
      refine lv_pop hx hb d_L_269 rfl ?_
      refine lv_aload_n hx hb d_L_270 rfl (lv_at hl 2 rfl) ?_
      refine lv_aload_n hx hb d_L_271 rfl (lv_at hl 0 rfl) ?_
      refine lv_iload_n hx hb d_L_272 rfl (lv_at hl 3 rfl) ?_
      refine lv_iconst (v := 1) hx hb d_L_273 (by decide) ?_
      refine lv_iadd hx hb d_L_274 ?_
      refine va_sld hx hb hX hbl hbA hS h1 d_L_275 ?_
      refine law_call (Z := fun _ _ _ => True) (rest := []) (q0 := 0) (ci := 7) (w2 := xW a cs) (v := u') hfix hts hK hwM zT_ok trivial hinM hdis' hP2 hP hS (c_M_told hwM zT_ok l e2) wd_M_told rfl rfl k_1049 ⟨rfl, rfl⟩ ⟨by decide, by decide⟩ ⟨by decide, by decide⟩ rfl hl.1 rfl (Nat.le_of_ble_eq_true rfl) d_L_276 (fun H locs hP2 hP hS => ?_)
      refine lv_pop hx hb d_L_279 rfl ?_
      refine lv_goto (tgt := 375) hx hb d_L_280 (by decide) ?_
      exact hnext u' v' H locs hrel' hP hP2 hS
    by_cases hj7 : j = 7
    · subst hj7
      refine lv_tableIn (tgt := 283) (off := 250) hx hb d_L_33 (by decide) (by decide) (by decide) (by decide) ?_
      obtain ⟨r, u', v', e1, e2, hrel'⟩ := hrs.2.2.2.2.2.2.2.1 (xs (nI i + 1).toNatClampNeg) (xs (nI i + 2).toNatClampNeg)
      refine lv_aload_n hx hb d_L_283 rfl (lv_at hl 1 rfl) ?_
      refine lv_aload_n hx hb d_L_284 rfl (lv_at hl 0 rfl) ?_
      refine lv_iload_n hx hb d_L_285 rfl (lv_at hl 3 rfl) ?_
      refine lv_iconst (v := 1) hx hb d_L_286 (by decide) ?_
      refine lv_iadd hx hb d_L_287 ?_
      refine va_sld hx hb hX hbl hbA hS h1 d_L_288 ?_
      refine lv_aload_n hx hb d_L_289 rfl (lv_at hl 0 rfl) ?_
      refine lv_iload_n hx hb d_L_290 rfl (lv_at hl 3 rfl) ?_
      refine lv_iconst (v := 2) hx hb d_L_291 (by decide) ?_
      refine lv_iadd hx hb d_L_292 ?_
      refine va_sld hx hb hX hbl hbA hS h2 d_L_293 ?_
      refine law_call (rest := []) (q0 := 6) (ci := 6) (w2 := mW b cs) (v := v) hfix hts hK hwX (xZ_ok sk sv9 st) hZ hinX hdis hP hP2 hS (c_X_method hwX (xZ_ok sk sv9 st) l e1) wd_X_method rfl rfl k_672 ⟨rfl, rfl⟩ ⟨by decide, by decide⟩ ⟨by decide, by decide⟩ rfl hl.1 rfl (Nat.le_of_ble_eq_true rfl) d_L_294 (fun H locs hP hP2 hS => ?_)
      refine lv_pop hx hb d_L_297 rfl ?_
      refine lv_aload_n hx hb d_L_298 rfl (lv_at hl 2 rfl) ?_
      refine lv_aload_n hx hb d_L_299 rfl (lv_at hl 0 rfl) ?_
      refine lv_iload_n hx hb d_L_300 rfl (lv_at hl 3 rfl) ?_
      refine lv_iconst (v := 1) hx hb d_L_301 (by decide) ?_
      refine lv_iadd hx hb d_L_302 ?_
      refine va_sld hx hb hX hbl hbA hS h1 d_L_303 ?_
      refine lv_aload_n hx hb d_L_304 rfl (lv_at hl 0 rfl) ?_
      refine lv_iload_n hx hb d_L_305 rfl (lv_at hl 3 rfl) ?_
      refine lv_iconst (v := 2) hx hb d_L_306 (by decide) ?_
      refine lv_iadd hx hb d_L_307 ?_
      refine va_sld hx hb hX hbl hbA hS h2 d_L_308 ?_
      refine law_call (Z := fun _ _ _ => True) (rest := []) (q0 := 0) (ci := 7) (w2 := xW a cs) (v := u') hfix hts hK hwM zT_ok trivial hinM hdis' hP2 hP hS (c_M_method hwM zT_ok l e2) wd_M_method rfl rfl k_1053 ⟨rfl, rfl⟩ ⟨by decide, by decide⟩ ⟨by decide, by decide⟩ rfl hl.1 rfl (Nat.le_of_ble_eq_true rfl) d_L_309 (fun H locs hP2 hP hS => ?_)
      refine lv_pop hx hb d_L_312 rfl ?_
      refine lv_goto (tgt := 375) hx hb d_L_313 (by decide) ?_
      exact hnext u' v' H locs hrel' hP hP2 hS
    by_cases hj8 : j = 8
    · subst hj8
      refine lv_tableIn (tgt := 316) (off := 283) hx hb d_L_33 (by decide) (by decide) (by decide) (by decide) ?_
      obtain ⟨r, u', v', e1, e2, hrel'⟩ := hrs.2.2.2.2.2.2.2.2.1 (xs (nI i + 1).toNatClampNeg)
      refine lv_aload_n hx hb d_L_316 rfl (lv_at hl 1 rfl) ?_
      refine lv_aload_n hx hb d_L_317 rfl (lv_at hl 0 rfl) ?_
      refine lv_iload_n hx hb d_L_318 rfl (lv_at hl 3 rfl) ?_
      refine lv_iconst (v := 1) hx hb d_L_319 (by decide) ?_
      refine lv_iadd hx hb d_L_320 ?_
      refine va_sld hx hb hX hbl hbA hS h1 d_L_321 ?_
      refine law_call (rest := []) (q0 := 6) (ci := 6) (w2 := mW b cs) (v := v) hfix hts hK hwX (xZ_ok sk sv9 st) hZ hinX hdis hP hP2 hS (c_X_entry hwX (xZ_ok sk sv9 st) l e1) wd_X_entry rfl rfl k_676 ⟨rfl, rfl⟩ ⟨by decide, by decide⟩ ⟨by decide, by decide⟩ rfl hl.1 rfl (Nat.le_of_ble_eq_true rfl) d_L_322 (fun H locs hP hP2 hS => ?_)
      refine lv_pop hx hb d_L_325 rfl ?_
      refine lv_aload_n hx hb d_L_326 rfl (lv_at hl 2 rfl) ?_
      refine lv_aload_n hx hb d_L_327 rfl (lv_at hl 0 rfl) ?_
      refine lv_iload_n hx hb d_L_328 rfl (lv_at hl 3 rfl) ?_
      refine lv_iconst (v := 1) hx hb d_L_329 (by decide) ?_
      refine lv_iadd hx hb d_L_330 ?_
      refine va_sld hx hb hX hbl hbA hS h1 d_L_331 ?_
      refine law_call (Z := fun _ _ _ => True) (rest := []) (q0 := 0) (ci := 7) (w2 := xW a cs) (v := u') hfix hts hK hwM zT_ok trivial hinM hdis' hP2 hP hS (c_M_entry hwM zT_ok l e2) wd_M_entry rfl rfl k_1057 ⟨rfl, rfl⟩ ⟨by decide, by decide⟩ ⟨by decide, by decide⟩ rfl hl.1 rfl (Nat.le_of_ble_eq_true rfl) d_L_332 (fun H locs hP2 hP hS => ?_)
      refine lv_pop hx hb d_L_335 rfl ?_
      refine lv_goto (tgt := 375) hx hb d_L_336 (by decide) ?_
      exact hnext u' v' H locs hrel' hP hP2 hS
    by_cases hj9 : j = 9
    · subst hj9
      refine lv_tableIn (tgt := 339) (off := 306) hx hb d_L_33 (by decide) (by decide) (by decide) (by decide) ?_
      obtain ⟨r, u', v', e1, e2, hrel'⟩ := hrs.2.2.2.2.2.2.2.2.2.1 (xs (nI i + 1).toNatClampNeg)
      refine lv_aload_n hx hb d_L_339 rfl (lv_at hl 1 rfl) ?_
      refine lv_aload_n hx hb d_L_340 rfl (lv_at hl 0 rfl) ?_
      refine lv_iload_n hx hb d_L_341 rfl (lv_at hl 3 rfl) ?_
      refine lv_iconst (v := 1) hx hb d_L_342 (by decide) ?_
      refine lv_iadd hx hb d_L_343 ?_
      refine va_sld hx hb hX hbl hbA hS h1 d_L_344 ?_
      refine law_call (rest := []) (q0 := 6) (ci := 6) (w2 := mW b cs) (v := v) hfix hts hK hwX (xZ_ok sk sv9 st) hZ hinX hdis hP hP2 hS (c_X_guarded hwX (xZ_ok sk sv9 st) l e1) wd_X_guarded rfl rfl k_680 ⟨rfl, rfl⟩ ⟨by decide, by decide⟩ ⟨by decide, by decide⟩ rfl hl.1 rfl (Nat.le_of_ble_eq_true rfl) d_L_345 (fun H locs hP hP2 hS => ?_)
      refine lv_pop hx hb d_L_348 rfl ?_
      refine lv_aload_n hx hb d_L_349 rfl (lv_at hl 2 rfl) ?_
      refine lv_aload_n hx hb d_L_350 rfl (lv_at hl 0 rfl) ?_
      refine lv_iload_n hx hb d_L_351 rfl (lv_at hl 3 rfl) ?_
      refine lv_iconst (v := 1) hx hb d_L_352 (by decide) ?_
      refine lv_iadd hx hb d_L_353 ?_
      refine va_sld hx hb hX hbl hbA hS h1 d_L_354 ?_
      refine law_call (Z := fun _ _ _ => True) (rest := []) (q0 := 0) (ci := 7) (w2 := xW a cs) (v := u') hfix hts hK hwM zT_ok trivial hinM hdis' hP2 hP hS (c_M_guarded hwM zT_ok l e2) wd_M_guarded rfl rfl k_1061 ⟨rfl, rfl⟩ ⟨by decide, by decide⟩ ⟨by decide, by decide⟩ rfl hl.1 rfl (Nat.le_of_ble_eq_true rfl) d_L_355 (fun H locs hP2 hP hS => ?_)
      refine lv_pop hx hb d_L_358 rfl ?_
      refine lv_goto (tgt := 375) hx hb d_L_359 (by decide) ?_
      exact hnext u' v' H locs hrel' hP hP2 hS
    by_cases hj10 : j = 10
    · subst hj10
      refine lv_tableIn (tgt := 362) (off := 329) hx hb d_L_33 (by decide) (by decide) (by decide) (by decide) ?_
      obtain ⟨r, u', v', e1, e2, hrel'⟩ := hrs.2.2.2.2.2.2.2.2.2.2
      refine lv_aload_n hx hb d_L_362 rfl (lv_at hl 1 rfl) ?_
      refine law_call (rest := []) (q0 := 6) (ci := 6) (w2 := mW b cs) (v := v) hfix hts hK hwX (xZ_ok sk sv9 st) hZ hinX hdis hP hP2 hS (c_X_beginnings hwX (xZ_ok sk sv9 st) l e1) wd_X_beginnings rfl rfl k_684 ⟨rfl, rfl⟩ ⟨by decide, by decide⟩ ⟨by decide, by decide⟩ rfl hl.1 rfl (Nat.le_of_ble_eq_true rfl) d_L_363 (fun H locs hP hP2 hS => ?_)
      refine lv_aload_n hx hb d_L_366 rfl (lv_at hl 2 rfl) ?_
      refine law_call (Z := fun _ _ _ => True) (rest := [.int r]) (q0 := 0) (ci := 7) (w2 := xW a cs) (v := u') hfix hts hK hwM zT_ok trivial hinM hdis' hP2 hP hS (c_M_beginnings hwM zT_ok l e2) wd_M_beginnings rfl rfl k_1065 ⟨rfl, rfl⟩ ⟨by decide, by decide⟩ ⟨by decide, by decide⟩ rfl hl.1 rfl (Nat.le_of_ble_eq_true rfl) d_L_367 (fun H locs hP2 hP hS => ?_)
      refine lv_icmp_eq (tgt := 375) hx hb d_L_370 (by decide) (fun hc => ?_) (fun hc => absurd rfl hc)
      exact hnext u' v' H locs hrel' hP hP2 hS
    refine lv_tableOut (tgt := 375) hx hb d_L_33 (Or.inr ?_) (by decide) ?_
    · rw [nI_toInt (by omega)]
      omega
    exact hnext u v H locs hrel hP hP2 hS
