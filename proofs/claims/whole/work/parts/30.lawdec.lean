/-! THE CLAIM OUT OF ONE WALK OF THE LAW'S BODY. Your part is whole_start (and what it stands on); all else here is the same for every law, but numbers. -/
def R_law : String := "ModelDeskLaw"
def lw_P (b : Addr) (xs : List Int32) (args : Array Value) (s : State) : Prop := args = #[.ref b] ∧ s.IntsAt b xs ∧ xs.length ≤ 2048 ∧ (Jvm.Cond.and given_1 narrow_1).before args s = true
def lw_Q (_ : Array Value) (s : State) (o : Outcome) (t : State) : Prop := o = .returned (some (.int 1)) ∧ Framed s o t [] 21 4453
def lw_Z (below : List Frame) (a : Array Value) (s : State) : State → Prop := fun t => ∃ o, t.status = .running ∧ Ended t below o ∧ lw_Q a s o t
/-- the law's own end, with 1 on the stack, nothing written that was there before, its room as the claim has it -/
theorem lw_ret {p : Program} {l : Launch} {e : Env} {s : State} {m : MethodId} {below : List Frame} {meth : Method} {c : Code} {b : Nat} (hx : p.tables.exec = Jvm.exec) (hb : c.code = code) (hr : meth.sig.returnType = ret) (hlocks : meth.locks = false) {pc : Nat} {H : Heap} {ls : Array Slot} (hdg : decode code pc = .ok (.ireturn, 1)) : W p l e room_1 s m #[Value.ref b] below meth c H [] 21 4453 (lw_Z below #[Value.ref b] s) (F0 m pc ls [.int 1]) := by
  intro T hT X
  obtain ⟨fs, hret, hrun, hended, hW, hframe⟩ := X.leave (v := some (.int 1)) (hlocks := hlocks) (fun h => by rw [hr] at h; cases h)
  have hmeth' : T.vm.method? m = some meth := X.method'
  refine ⟨T.setFrames fs, ?_, .returned (some (.int 1)), hrun, hended, rfl, ⟨_, rfl⟩, hW, hframe⟩
  jvm_step X.here [X.here.top, hx, hb, hdg, hmeth', hr, ret, narrow_b1]
  (try refine ⟨rfl, ?_⟩); (try refine ⟨rfl, ?_⟩)
  first | (intro acts; rw [hret _ acts rfl rfl rfl]) | rw [hret _ _ rfl rfl rfl]
  exact Steps.refl _
/-- what holds at the law's entry: the machine, the code, the tables' words (any of lw_tbl by 'hts w (by decide +kernel)'), the script of L ints xs at the cell b, what the Statement gives of the start (any of its parts by flat_of_before) -/
def lw_At (p : Program) (s : State) (m : MethodId) (meth : Method) (c : Code) (b L : Nat) (xs : Nat → Int32) : Prop :=
  p.tables.exec = Jvm.exec ∧ c.code = code ∧ meth.sig.returnType = ret ∧ c.maxLocals = 4 ∧ s.vm.findClass R_law = some m.cls ∧ (∀ w ∈ lw_tbl, w.before #[Value.ref b] s = true) ∧ va_X b L xs s s.heap ∧ b < s.heap.size ∧ meth.locks = false ∧ (Jvm.Cond.and given_1 narrow_1).before #[Value.ref b] s = true

theorem dL_law_0 : decode code 0 = .ok (.new 7, 3) := by decide +kernel
theorem dL_law_3 : decode code 3 = .ok (.dup, 1) := by decide +kernel
theorem dL_law_4 : decode code 4 = .ok (.invokespecial 9, 3) := by decide +kernel
theorem dL_law_7 : decode code 7 = .ok (.astore_n 1, 1) := by decide +kernel
theorem dL_law_8 : decode code 8 = .ok (.new 10, 3) := by decide +kernel
theorem dL_law_11 : decode code 11 = .ok (.dup, 1) := by decide +kernel
theorem dL_law_12 : decode code 12 = .ok (.invokespecial 12, 3) := by decide +kernel
theorem dL_law_15 : decode code 15 = .ok (.astore_n 2, 1) := by decide +kernel
theorem dL_law_16 : decode code 16 = .ok (.iconst 0, 1) := by decide +kernel
theorem dL_law_17 : decode code 17 = .ok (.istore_n 3, 1) := by decide +kernel
theorem dL_law_18 : decode code 18 = .ok (.iload_n 3, 1) := by decide +kernel
theorem dL_law_19 : decode code 19 = .ok (.aload_n 0, 1) := by decide +kernel
theorem dL_law_20 : decode code 20 = .ok (.arraylength, 1) := by decide +kernel
theorem dL_law_21 : decode code 21 = .ok (.iconst 4, 1) := by decide +kernel
theorem dL_law_22 : decode code 22 = .ok (.isub, 1) := by decide +kernel
theorem dL_law_23 : decode code 23 = .ok (.if_icmp .gt 335, 3) := by decide +kernel
theorem dL_law_26 : decode code 26 = .ok (.aload_n 0, 1) := by decide +kernel
theorem dL_law_27 : decode code 27 = .ok (.iload_n 3, 1) := by decide +kernel
theorem dL_law_28 : decode code 28 = .ok (.iaload, 1) := by decide +kernel
theorem dL_law_29 : decode code 29 = .ok (.bipush 15, 2) := by decide +kernel
theorem dL_law_31 : decode code 31 = .ok (.iand, 1) := by decide +kernel
theorem dL_law_32 : decode code 32 = .ok (.tableswitch 320 0 12 #[68, 131, 144, 157, 170, 183, 197, 221, 235, 258, 281, 294, 307], 68) := by decide +kernel
theorem dL_law_100 : decode code 100 = .ok (.aload_n 1, 1) := by decide +kernel
theorem dL_law_101 : decode code 101 = .ok (.aload_n 0, 1) := by decide +kernel
theorem dL_law_102 : decode code 102 = .ok (.iload_n 3, 1) := by decide +kernel
theorem dL_law_103 : decode code 103 = .ok (.iconst 1, 1) := by decide +kernel
theorem dL_law_104 : decode code 104 = .ok (.iadd, 1) := by decide +kernel
theorem dL_law_105 : decode code 105 = .ok (.iaload, 1) := by decide +kernel
theorem dL_law_106 : decode code 106 = .ok (.i2l, 1) := by decide +kernel
theorem dL_law_107 : decode code 107 = .ok (.bipush 32, 2) := by decide +kernel
theorem dL_law_109 : decode code 109 = .ok (.lshl, 1) := by decide +kernel
theorem dL_law_110 : decode code 110 = .ok (.aload_n 0, 1) := by decide +kernel
theorem dL_law_111 : decode code 111 = .ok (.iload_n 3, 1) := by decide +kernel
theorem dL_law_112 : decode code 112 = .ok (.iconst 2, 1) := by decide +kernel
theorem dL_law_113 : decode code 113 = .ok (.iadd, 1) := by decide +kernel
theorem dL_law_114 : decode code 114 = .ok (.iaload, 1) := by decide +kernel
theorem dL_law_115 : decode code 115 = .ok (.i2l, 1) := by decide +kernel
theorem dL_law_116 : decode code 116 = .ok (.ldc2_w 13, 3) := by decide +kernel
theorem dL_law_119 : decode code 119 = .ok (.land, 1) := by decide +kernel
theorem dL_law_120 : decode code 120 = .ok (.lor, 1) := by decide +kernel
theorem dL_law_121 : decode code 121 = .ok (.aload_n 0, 1) := by decide +kernel
theorem dL_law_122 : decode code 122 = .ok (.iload_n 3, 1) := by decide +kernel
theorem dL_law_123 : decode code 123 = .ok (.iconst 3, 1) := by decide +kernel
theorem dL_law_124 : decode code 124 = .ok (.iadd, 1) := by decide +kernel
theorem dL_law_125 : decode code 125 = .ok (.iaload, 1) := by decide +kernel
theorem dL_law_126 : decode code 126 = .ok (.invokevirtual 15, 3) := by decide +kernel
theorem dL_law_129 : decode code 129 = .ok (.aload_n 2, 1) := by decide +kernel
theorem dL_law_130 : decode code 130 = .ok (.aload_n 0, 1) := by decide +kernel
theorem dL_law_131 : decode code 131 = .ok (.iload_n 3, 1) := by decide +kernel
theorem dL_law_132 : decode code 132 = .ok (.iconst 1, 1) := by decide +kernel
theorem dL_law_133 : decode code 133 = .ok (.iadd, 1) := by decide +kernel
theorem dL_law_134 : decode code 134 = .ok (.iaload, 1) := by decide +kernel
theorem dL_law_135 : decode code 135 = .ok (.i2l, 1) := by decide +kernel
theorem dL_law_136 : decode code 136 = .ok (.bipush 32, 2) := by decide +kernel
theorem dL_law_138 : decode code 138 = .ok (.lshl, 1) := by decide +kernel
theorem dL_law_139 : decode code 139 = .ok (.aload_n 0, 1) := by decide +kernel
theorem dL_law_140 : decode code 140 = .ok (.iload_n 3, 1) := by decide +kernel
theorem dL_law_141 : decode code 141 = .ok (.iconst 2, 1) := by decide +kernel
theorem dL_law_142 : decode code 142 = .ok (.iadd, 1) := by decide +kernel
theorem dL_law_143 : decode code 143 = .ok (.iaload, 1) := by decide +kernel
theorem dL_law_144 : decode code 144 = .ok (.i2l, 1) := by decide +kernel
theorem dL_law_145 : decode code 145 = .ok (.ldc2_w 13, 3) := by decide +kernel
theorem dL_law_148 : decode code 148 = .ok (.land, 1) := by decide +kernel
theorem dL_law_149 : decode code 149 = .ok (.lor, 1) := by decide +kernel
theorem dL_law_150 : decode code 150 = .ok (.aload_n 0, 1) := by decide +kernel
theorem dL_law_151 : decode code 151 = .ok (.iload_n 3, 1) := by decide +kernel
theorem dL_law_152 : decode code 152 = .ok (.iconst 3, 1) := by decide +kernel
theorem dL_law_153 : decode code 153 = .ok (.iadd, 1) := by decide +kernel
theorem dL_law_154 : decode code 154 = .ok (.iaload, 1) := by decide +kernel
theorem dL_law_155 : decode code 155 = .ok (.invokevirtual 19, 3) := by decide +kernel
theorem dL_law_158 : decode code 158 = .ok (.if_icmp .eq 194, 3) := by decide +kernel
theorem dL_law_161 : decode code 161 = .ok (.iconst 0, 1) := by decide +kernel
theorem dL_law_162 : decode code 162 = .ok (.ireturn, 1) := by decide +kernel
theorem dL_law_163 : decode code 163 = .ok (.aload_n 1, 1) := by decide +kernel
theorem dL_law_164 : decode code 164 = .ok (.invokevirtual 20, 3) := by decide +kernel
theorem dL_law_167 : decode code 167 = .ok (.aload_n 2, 1) := by decide +kernel
theorem dL_law_168 : decode code 168 = .ok (.invokevirtual 24, 3) := by decide +kernel
theorem dL_law_171 : decode code 171 = .ok (.if_icmp .eq 181, 3) := by decide +kernel
theorem dL_law_174 : decode code 174 = .ok (.iconst 0, 1) := by decide +kernel
theorem dL_law_175 : decode code 175 = .ok (.ireturn, 1) := by decide +kernel
theorem dL_law_176 : decode code 176 = .ok (.aload_n 1, 1) := by decide +kernel
theorem dL_law_177 : decode code 177 = .ok (.invokevirtual 25, 3) := by decide +kernel
theorem dL_law_180 : decode code 180 = .ok (.aload_n 2, 1) := by decide +kernel
theorem dL_law_181 : decode code 181 = .ok (.invokevirtual 29, 3) := by decide +kernel
theorem dL_law_184 : decode code 184 = .ok (.if_icmp .eq 168, 3) := by decide +kernel
theorem dL_law_187 : decode code 187 = .ok (.iconst 0, 1) := by decide +kernel
theorem dL_law_188 : decode code 188 = .ok (.ireturn, 1) := by decide +kernel
theorem dL_law_189 : decode code 189 = .ok (.aload_n 1, 1) := by decide +kernel
theorem dL_law_190 : decode code 190 = .ok (.invokevirtual 30, 3) := by decide +kernel
theorem dL_law_193 : decode code 193 = .ok (.aload_n 2, 1) := by decide +kernel
theorem dL_law_194 : decode code 194 = .ok (.invokevirtual 33, 3) := by decide +kernel
theorem dL_law_197 : decode code 197 = .ok (.if_icmp .eq 155, 3) := by decide +kernel
theorem dL_law_200 : decode code 200 = .ok (.iconst 0, 1) := by decide +kernel
theorem dL_law_201 : decode code 201 = .ok (.ireturn, 1) := by decide +kernel
theorem dL_law_202 : decode code 202 = .ok (.aload_n 1, 1) := by decide +kernel
theorem dL_law_203 : decode code 203 = .ok (.invokevirtual 34, 3) := by decide +kernel
theorem dL_law_206 : decode code 206 = .ok (.aload_n 2, 1) := by decide +kernel
theorem dL_law_207 : decode code 207 = .ok (.invokevirtual 37, 3) := by decide +kernel
theorem dL_law_210 : decode code 210 = .ok (.if_icmp .eq 142, 3) := by decide +kernel
theorem dL_law_213 : decode code 213 = .ok (.iconst 0, 1) := by decide +kernel
theorem dL_law_214 : decode code 214 = .ok (.ireturn, 1) := by decide +kernel
theorem dL_law_215 : decode code 215 = .ok (.aload_n 1, 1) := by decide +kernel
theorem dL_law_216 : decode code 216 = .ok (.invokevirtual 38, 3) := by decide +kernel
theorem dL_law_219 : decode code 219 = .ok (.aload_n 2, 1) := by decide +kernel
theorem dL_law_220 : decode code 220 = .ok (.invokevirtual 42, 3) := by decide +kernel
theorem dL_law_223 : decode code 223 = .ok (.lcmp, 1) := by decide +kernel
theorem dL_law_224 : decode code 224 = .ok (.ifCond .eq 128, 3) := by decide +kernel
theorem dL_law_227 : decode code 227 = .ok (.iconst 0, 1) := by decide +kernel
theorem dL_law_228 : decode code 228 = .ok (.ireturn, 1) := by decide +kernel
theorem dL_law_229 : decode code 229 = .ok (.aload_n 1, 1) := by decide +kernel
theorem dL_law_230 : decode code 230 = .ok (.aload_n 0, 1) := by decide +kernel
theorem dL_law_231 : decode code 231 = .ok (.iload_n 3, 1) := by decide +kernel
theorem dL_law_232 : decode code 232 = .ok (.iconst 1, 1) := by decide +kernel
theorem dL_law_233 : decode code 233 = .ok (.iadd, 1) := by decide +kernel
theorem dL_law_234 : decode code 234 = .ok (.iaload, 1) := by decide +kernel
theorem dL_law_235 : decode code 235 = .ok (.invokevirtual 43, 3) := by decide +kernel
theorem dL_law_238 : decode code 238 = .ok (.aload_n 2, 1) := by decide +kernel
theorem dL_law_239 : decode code 239 = .ok (.aload_n 0, 1) := by decide +kernel
theorem dL_law_240 : decode code 240 = .ok (.iload_n 3, 1) := by decide +kernel
theorem dL_law_241 : decode code 241 = .ok (.iconst 1, 1) := by decide +kernel
theorem dL_law_242 : decode code 242 = .ok (.iadd, 1) := by decide +kernel
theorem dL_law_243 : decode code 243 = .ok (.iaload, 1) := by decide +kernel
theorem dL_law_244 : decode code 244 = .ok (.invokevirtual 47, 3) := by decide +kernel
theorem dL_law_247 : decode code 247 = .ok (.lcmp, 1) := by decide +kernel
theorem dL_law_248 : decode code 248 = .ok (.ifCond .eq 104, 3) := by decide +kernel
theorem dL_law_251 : decode code 251 = .ok (.iconst 0, 1) := by decide +kernel
theorem dL_law_252 : decode code 252 = .ok (.ireturn, 1) := by decide +kernel
theorem dL_law_253 : decode code 253 = .ok (.aload_n 1, 1) := by decide +kernel
theorem dL_law_254 : decode code 254 = .ok (.invokevirtual 48, 3) := by decide +kernel
theorem dL_law_257 : decode code 257 = .ok (.aload_n 2, 1) := by decide +kernel
theorem dL_law_258 : decode code 258 = .ok (.invokevirtual 51, 3) := by decide +kernel
theorem dL_law_261 : decode code 261 = .ok (.lcmp, 1) := by decide +kernel
theorem dL_law_262 : decode code 262 = .ok (.ifCond .eq 90, 3) := by decide +kernel
theorem dL_law_265 : decode code 265 = .ok (.iconst 0, 1) := by decide +kernel
theorem dL_law_266 : decode code 266 = .ok (.ireturn, 1) := by decide +kernel
theorem dL_law_267 : decode code 267 = .ok (.aload_n 1, 1) := by decide +kernel
theorem dL_law_268 : decode code 268 = .ok (.aload_n 0, 1) := by decide +kernel
theorem dL_law_269 : decode code 269 = .ok (.iload_n 3, 1) := by decide +kernel
theorem dL_law_270 : decode code 270 = .ok (.iconst 1, 1) := by decide +kernel
theorem dL_law_271 : decode code 271 = .ok (.iadd, 1) := by decide +kernel
theorem dL_law_272 : decode code 272 = .ok (.iaload, 1) := by decide +kernel
theorem dL_law_273 : decode code 273 = .ok (.invokevirtual 52, 3) := by decide +kernel
theorem dL_law_276 : decode code 276 = .ok (.aload_n 2, 1) := by decide +kernel
theorem dL_law_277 : decode code 277 = .ok (.aload_n 0, 1) := by decide +kernel
theorem dL_law_278 : decode code 278 = .ok (.iload_n 3, 1) := by decide +kernel
theorem dL_law_279 : decode code 279 = .ok (.iconst 1, 1) := by decide +kernel
theorem dL_law_280 : decode code 280 = .ok (.iadd, 1) := by decide +kernel
theorem dL_law_281 : decode code 281 = .ok (.iaload, 1) := by decide +kernel
theorem dL_law_282 : decode code 282 = .ok (.invokevirtual 56, 3) := by decide +kernel
theorem dL_law_285 : decode code 285 = .ok (.if_icmp .eq 67, 3) := by decide +kernel
theorem dL_law_288 : decode code 288 = .ok (.iconst 0, 1) := by decide +kernel
theorem dL_law_289 : decode code 289 = .ok (.ireturn, 1) := by decide +kernel
theorem dL_law_290 : decode code 290 = .ok (.aload_n 1, 1) := by decide +kernel
theorem dL_law_291 : decode code 291 = .ok (.aload_n 0, 1) := by decide +kernel
theorem dL_law_292 : decode code 292 = .ok (.iload_n 3, 1) := by decide +kernel
theorem dL_law_293 : decode code 293 = .ok (.iconst 1, 1) := by decide +kernel
theorem dL_law_294 : decode code 294 = .ok (.iadd, 1) := by decide +kernel
theorem dL_law_295 : decode code 295 = .ok (.iaload, 1) := by decide +kernel
theorem dL_law_296 : decode code 296 = .ok (.invokevirtual 57, 3) := by decide +kernel
theorem dL_law_299 : decode code 299 = .ok (.aload_n 2, 1) := by decide +kernel
theorem dL_law_300 : decode code 300 = .ok (.aload_n 0, 1) := by decide +kernel
theorem dL_law_301 : decode code 301 = .ok (.iload_n 3, 1) := by decide +kernel
theorem dL_law_302 : decode code 302 = .ok (.iconst 1, 1) := by decide +kernel
theorem dL_law_303 : decode code 303 = .ok (.iadd, 1) := by decide +kernel
theorem dL_law_304 : decode code 304 = .ok (.iaload, 1) := by decide +kernel
theorem dL_law_305 : decode code 305 = .ok (.invokevirtual 61, 3) := by decide +kernel
theorem dL_law_308 : decode code 308 = .ok (.if_icmp .eq 44, 3) := by decide +kernel
theorem dL_law_311 : decode code 311 = .ok (.iconst 0, 1) := by decide +kernel
theorem dL_law_312 : decode code 312 = .ok (.ireturn, 1) := by decide +kernel
theorem dL_law_313 : decode code 313 = .ok (.aload_n 1, 1) := by decide +kernel
theorem dL_law_314 : decode code 314 = .ok (.invokevirtual 62, 3) := by decide +kernel
theorem dL_law_317 : decode code 317 = .ok (.aload_n 2, 1) := by decide +kernel
theorem dL_law_318 : decode code 318 = .ok (.invokevirtual 65, 3) := by decide +kernel
theorem dL_law_321 : decode code 321 = .ok (.if_icmp .eq 31, 3) := by decide +kernel
theorem dL_law_324 : decode code 324 = .ok (.iconst 0, 1) := by decide +kernel
theorem dL_law_325 : decode code 325 = .ok (.ireturn, 1) := by decide +kernel
theorem dL_law_326 : decode code 326 = .ok (.aload_n 1, 1) := by decide +kernel
theorem dL_law_327 : decode code 327 = .ok (.invokevirtual 66, 3) := by decide +kernel
theorem dL_law_330 : decode code 330 = .ok (.aload_n 2, 1) := by decide +kernel
theorem dL_law_331 : decode code 331 = .ok (.invokevirtual 69, 3) := by decide +kernel
theorem dL_law_334 : decode code 334 = .ok (.if_icmp .eq 18, 3) := by decide +kernel
theorem dL_law_337 : decode code 337 = .ok (.iconst 0, 1) := by decide +kernel
theorem dL_law_338 : decode code 338 = .ok (.ireturn, 1) := by decide +kernel
theorem dL_law_339 : decode code 339 = .ok (.aload_n 1, 1) := by decide +kernel
theorem dL_law_340 : decode code 340 = .ok (.invokevirtual 70, 3) := by decide +kernel
theorem dL_law_343 : decode code 343 = .ok (.aload_n 2, 1) := by decide +kernel
theorem dL_law_344 : decode code 344 = .ok (.invokevirtual 73, 3) := by decide +kernel
theorem dL_law_347 : decode code 347 = .ok (.if_icmp .eq 5, 3) := by decide +kernel
theorem dL_law_350 : decode code 350 = .ok (.iconst 0, 1) := by decide +kernel
theorem dL_law_351 : decode code 351 = .ok (.ireturn, 1) := by decide +kernel
theorem dL_law_352 : decode code 352 = .ok (.iinc 3 4, 3) := by decide +kernel
theorem dL_law_355 : decode code 355 = .ok (.goto (-337), 3) := by decide +kernel
theorem dL_law_358 : decode code 358 = .ok (.iconst 1, 1) := by decide +kernel
theorem dL_law_359 : decode code 359 = .ok (.ireturn, 1) := by decide +kernel
