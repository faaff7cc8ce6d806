/-! PHModel.schedules(II)V -/
theorem dd264_0 : decode cX13_schedules_ 0 = .ok (.iconst 2, 1) := by decide +kernel
theorem dd264_1 : decode cX13_schedules_ 1 = .ok (.aload_n 0, 1) := by decide +kernel
theorem dd264_2 : decode cX13_schedules_ 2 = .ok (.getfield 20, 3) := by decide +kernel
theorem dd264_5 : decode cX13_schedules_ 5 = .ok (.getfield 544, 3) := by decide +kernel
theorem dd264_8 : decode cX13_schedules_ 8 = .ok (.aload_n 0, 1) := by decide +kernel
theorem dd264_9 : decode cX13_schedules_ 9 = .ok (.getfield 20, 3) := by decide +kernel
theorem dd264_12 : decode cX13_schedules_ 12 = .ok (.getfield 441, 3) := by decide +kernel
theorem dd264_15 : decode cX13_schedules_ 15 = .ok (.iload_n 2, 1) := by decide +kernel
theorem dd264_16 : decode cX13_schedules_ 16 = .ok (.iaload, 1) := by decide +kernel
theorem dd264_17 : decode cX13_schedules_ 17 = .ok (.iaload, 1) := by decide +kernel
theorem dd264_18 : decode cX13_schedules_ 18 = .ok (.imul, 1) := by decide +kernel
theorem dd264_19 : decode cX13_schedules_ 19 = .ok (.aload_n 0, 1) := by decide +kernel
theorem dd264_20 : decode cX13_schedules_ 20 = .ok (.getfield 20, 3) := by decide +kernel
theorem dd264_23 : decode cX13_schedules_ 23 = .ok (.getfield 459, 3) := by decide +kernel
theorem dd264_26 : decode cX13_schedules_ 26 = .ok (.iload_n 2, 1) := by decide +kernel
theorem dd264_27 : decode cX13_schedules_ 27 = .ok (.iaload, 1) := by decide +kernel
theorem dd264_28 : decode cX13_schedules_ 28 = .ok (.bipush 17, 2) := by decide +kernel
theorem dd264_30 : decode cX13_schedules_ 30 = .ok (.if_icmp .ne 7, 3) := by decide +kernel
theorem dd264_33 : decode cX13_schedules_ 33 = .ok (.iconst 1, 1) := by decide +kernel
theorem dd264_34 : decode cX13_schedules_ 34 = .ok (.goto 4, 3) := by decide +kernel
theorem dd264_37 : decode cX13_schedules_ 37 = .ok (.iconst 0, 1) := by decide +kernel
theorem dd264_38 : decode cX13_schedules_ 38 = .ok (.iadd, 1) := by decide +kernel
theorem dd264_39 : decode cX13_schedules_ 39 = .ok (.istore_n 3, 1) := by decide +kernel
theorem dd264_40 : decode cX13_schedules_ 40 = .ok (.aload_n 0, 1) := by decide +kernel
theorem dd264_41 : decode cX13_schedules_ 41 = .ok (.getfield 20, 3) := by decide +kernel
theorem dd264_44 : decode cX13_schedules_ 44 = .ok (.getfield 447, 3) := by decide +kernel
theorem dd264_47 : decode cX13_schedules_ 47 = .ok (.iload_n 2, 1) := by decide +kernel
theorem dd264_48 : decode cX13_schedules_ 48 = .ok (.iaload, 1) := by decide +kernel
theorem dd264_49 : decode cX13_schedules_ 49 = .ok (.istore 4, 2) := by decide +kernel
theorem dd264_51 : decode cX13_schedules_ 51 = .ok (.ldc2_w 731, 3) := by decide +kernel
theorem dd264_54 : decode cX13_schedules_ 54 = .ok (.lstore 5, 2) := by decide +kernel
theorem dd264_56 : decode cX13_schedules_ 56 = .ok (.iconst 0, 1) := by decide +kernel
theorem dd264_57 : decode cX13_schedules_ 57 = .ok (.istore 7, 2) := by decide +kernel
theorem dd264_59 : decode cX13_schedules_ 59 = .ok (.ldc_w 521, 3) := by decide +kernel
theorem dd264_62 : decode cX13_schedules_ 62 = .ok (.istore 8, 2) := by decide +kernel
theorem dd264_64 : decode cX13_schedules_ 64 = .ok (.iload 4, 2) := by decide +kernel
theorem dd264_66 : decode cX13_schedules_ 66 = .ok (.iconst 4, 1) := by decide +kernel
theorem dd264_67 : decode cX13_schedules_ 67 = .ok (.if_icmp .eq 197, 3) := by decide +kernel
theorem dd264_70 : decode cX13_schedules_ 70 = .ok (.aload_n 0, 1) := by decide +kernel
theorem dd264_71 : decode cX13_schedules_ 71 = .ok (.iload_n 1, 1) := by decide +kernel
theorem dd264_72 : decode cX13_schedules_ 72 = .ok (.aload_n 0, 1) := by decide +kernel
theorem dd264_73 : decode cX13_schedules_ 73 = .ok (.getfield 20, 3) := by decide +kernel
theorem dd264_76 : decode cX13_schedules_ 76 = .ok (.getfield 469, 3) := by decide +kernel
theorem dd264_79 : decode cX13_schedules_ 79 = .ok (.iconst 4, 1) := by decide +kernel
theorem dd264_80 : decode cX13_schedules_ 80 = .ok (.iload_n 2, 1) := by decide +kernel
theorem dd264_81 : decode cX13_schedules_ 81 = .ok (.imul, 1) := by decide +kernel
theorem dd264_82 : decode cX13_schedules_ 82 = .ok (.iaload, 1) := by decide +kernel
theorem dd264_83 : decode cX13_schedules_ 83 = .ok (.invokevirtual 662, 3) := by decide +kernel
theorem dd264_86 : decode cX13_schedules_ 86 = .ok (.i2l, 1) := by decide +kernel
theorem dd264_87 : decode cX13_schedules_ 87 = .ok (.lstore 9, 2) := by decide +kernel
theorem dd264_89 : decode cX13_schedules_ 89 = .ok (.aload_n 0, 1) := by decide +kernel
theorem dd264_90 : decode cX13_schedules_ 90 = .ok (.getfield 623, 3) := by decide +kernel
theorem dd264_93 : decode cX13_schedules_ 93 = .ok (.ifCond .ne 37, 3) := by decide +kernel
theorem dd264_96 : decode cX13_schedules_ 96 = .ok (.aload_n 0, 1) := by decide +kernel
theorem dd264_97 : decode cX13_schedules_ 97 = .ok (.getfield 20, 3) := by decide +kernel
theorem dd264_100 : decode cX13_schedules_ 100 = .ok (.getfield 450, 3) := by decide +kernel
theorem dd264_103 : decode cX13_schedules_ 103 = .ok (.iload_n 2, 1) := by decide +kernel
theorem dd264_104 : decode cX13_schedules_ 104 = .ok (.iaload, 1) := by decide +kernel
theorem dd264_105 : decode cX13_schedules_ 105 = .ok (.iconst 2, 1) := by decide +kernel
theorem dd264_106 : decode cX13_schedules_ 106 = .ok (.if_icmp .ne 24, 3) := by decide +kernel
theorem dd264_109 : decode cX13_schedules_ 109 = .ok (.aload_n 0, 1) := by decide +kernel
theorem dd264_110 : decode cX13_schedules_ 110 = .ok (.iload_n 1, 1) := by decide +kernel
theorem dd264_111 : decode cX13_schedules_ 111 = .ok (.aload_n 0, 1) := by decide +kernel
theorem dd264_112 : decode cX13_schedules_ 112 = .ok (.getfield 20, 3) := by decide +kernel
theorem dd264_115 : decode cX13_schedules_ 115 = .ok (.getfield 469, 3) := by decide +kernel
theorem dd264_118 : decode cX13_schedules_ 118 = .ok (.iconst 4, 1) := by decide +kernel
theorem dd264_119 : decode cX13_schedules_ 119 = .ok (.iload_n 2, 1) := by decide +kernel
theorem dd264_120 : decode cX13_schedules_ 120 = .ok (.imul, 1) := by decide +kernel
theorem dd264_121 : decode cX13_schedules_ 121 = .ok (.iconst 1, 1) := by decide +kernel
theorem dd264_122 : decode cX13_schedules_ 122 = .ok (.iadd, 1) := by decide +kernel
theorem dd264_123 : decode cX13_schedules_ 123 = .ok (.iaload, 1) := by decide +kernel
theorem dd264_124 : decode cX13_schedules_ 124 = .ok (.invokevirtual 662, 3) := by decide +kernel
theorem dd264_127 : decode cX13_schedules_ 127 = .ok (.goto 6, 3) := by decide +kernel
theorem dd264_130 : decode cX13_schedules_ 130 = .ok (.ldc_w 521, 3) := by decide +kernel
theorem dd264_133 : decode cX13_schedules_ 133 = .ok (.istore 11, 2) := by decide +kernel
theorem dd264_135 : decode cX13_schedules_ 135 = .ok (.aload_n 0, 1) := by decide +kernel
theorem dd264_136 : decode cX13_schedules_ 136 = .ok (.getfield 623, 3) := by decide +kernel
theorem dd264_139 : decode cX13_schedules_ 139 = .ok (.ifCond .eq 4, 3) := by decide +kernel
theorem dd264_142 : decode cX13_schedules_ 142 = .ok (.return_, 1) := by decide +kernel
theorem dd264_143 : decode cX13_schedules_ 143 = .ok (.iload 4, 2) := by decide +kernel
theorem dd264_145 : decode cX13_schedules_ 145 = .ok (.iconst 1, 1) := by decide +kernel
theorem dd264_146 : decode cX13_schedules_ 146 = .ok (.if_icmp .ne 8, 3) := by decide +kernel
theorem dd264_149 : decode cX13_schedules_ 149 = .ok (.lload 9, 2) := by decide +kernel
theorem dd264_151 : decode cX13_schedules_ 151 = .ok (.goto 11, 3) := by decide +kernel
theorem dd264_154 : decode cX13_schedules_ 154 = .ok (.aload_n 0, 1) := by decide +kernel
theorem dd264_155 : decode cX13_schedules_ 155 = .ok (.getfield 560, 3) := by decide +kernel
theorem dd264_158 : decode cX13_schedules_ 158 = .ok (.i2l, 1) := by decide +kernel
theorem dd264_159 : decode cX13_schedules_ 159 = .ok (.lload 9, 2) := by decide +kernel
theorem dd264_161 : decode cX13_schedules_ 161 = .ok (.ladd, 1) := by decide +kernel
theorem dd264_162 : decode cX13_schedules_ 162 = .ok (.lstore 5, 2) := by decide +kernel
theorem dd264_164 : decode cX13_schedules_ 164 = .ok (.iload 4, 2) := by decide +kernel
theorem dd264_166 : decode cX13_schedules_ 166 = .ok (.iconst 1, 1) := by decide +kernel
theorem dd264_167 : decode cX13_schedules_ 167 = .ok (.if_icmp .ne 22, 3) := by decide +kernel
theorem dd264_170 : decode cX13_schedules_ 170 = .ok (.lload 9, 2) := by decide +kernel
theorem dd264_172 : decode cX13_schedules_ 172 = .ok (.aload_n 0, 1) := by decide +kernel
theorem dd264_173 : decode cX13_schedules_ 173 = .ok (.getfield 560, 3) := by decide +kernel
theorem dd264_176 : decode cX13_schedules_ 176 = .ok (.i2l, 1) := by decide +kernel
theorem dd264_177 : decode cX13_schedules_ 177 = .ok (.lcmp, 1) := by decide +kernel
theorem dd264_178 : decode cX13_schedules_ 178 = .ok (.ifCond .lt 7, 3) := by decide +kernel
theorem dd264_181 : decode cX13_schedules_ 181 = .ok (.iconst 1, 1) := by decide +kernel
theorem dd264_182 : decode cX13_schedules_ 182 = .ok (.goto 19, 3) := by decide +kernel
theorem dd264_185 : decode cX13_schedules_ 185 = .ok (.iconst 0, 1) := by decide +kernel
theorem dd264_186 : decode cX13_schedules_ 186 = .ok (.goto 15, 3) := by decide +kernel
theorem dd264_189 : decode cX13_schedules_ 189 = .ok (.lload 9, 2) := by decide +kernel
theorem dd264_191 : decode cX13_schedules_ 191 = .ok (.lconst 1, 1) := by decide +kernel
theorem dd264_192 : decode cX13_schedules_ 192 = .ok (.lcmp, 1) := by decide +kernel
theorem dd264_193 : decode cX13_schedules_ 193 = .ok (.ifCond .lt 7, 3) := by decide +kernel
theorem dd264_196 : decode cX13_schedules_ 196 = .ok (.iconst 1, 1) := by decide +kernel
theorem dd264_197 : decode cX13_schedules_ 197 = .ok (.goto 4, 3) := by decide +kernel
theorem dd264_200 : decode cX13_schedules_ 200 = .ok (.iconst 0, 1) := by decide +kernel
theorem dd264_201 : decode cX13_schedules_ 201 = .ok (.istore 12, 2) := by decide +kernel
theorem dd264_203 : decode cX13_schedules_ 203 = .ok (.iload 12, 2) := by decide +kernel
theorem dd264_205 : decode cX13_schedules_ 205 = .ok (.ifCond .eq 21, 3) := by decide +kernel
theorem dd264_208 : decode cX13_schedules_ 208 = .ok (.lload 5, 2) := by decide +kernel
theorem dd264_210 : decode cX13_schedules_ 210 = .ok (.ldc2_w 733, 3) := by decide +kernel
theorem dd264_213 : decode cX13_schedules_ 213 = .ok (.lcmp, 1) := by decide +kernel
theorem dd264_214 : decode cX13_schedules_ 214 = .ok (.ifCond .gt 12, 3) := by decide +kernel
theorem dd264_217 : decode cX13_schedules_ 217 = .ok (.iload 11, 2) := by decide +kernel
theorem dd264_219 : decode cX13_schedules_ 219 = .ok (.i2l, 1) := by decide +kernel
theorem dd264_220 : decode cX13_schedules_ 220 = .ok (.lload 5, 2) := by decide +kernel
theorem dd264_222 : decode cX13_schedules_ 222 = .ok (.lcmp, 1) := by decide +kernel
theorem dd264_223 : decode cX13_schedules_ 223 = .ok (.ifCond .ge 10, 3) := by decide +kernel
theorem dd264_226 : decode cX13_schedules_ 226 = .ok (.aload_n 0, 1) := by decide +kernel
theorem dd264_227 : decode cX13_schedules_ 227 = .ok (.bipush 9, 2) := by decide +kernel
theorem dd264_229 : decode cX13_schedules_ 229 = .ok (.invokevirtual 644, 3) := by decide +kernel
theorem dd264_232 : decode cX13_schedules_ 232 = .ok (.return_, 1) := by decide +kernel
theorem dd264_233 : decode cX13_schedules_ 233 = .ok (.iload 4, 2) := by decide +kernel
theorem dd264_235 : decode cX13_schedules_ 235 = .ok (.iconst 3, 1) := by decide +kernel
theorem dd264_236 : decode cX13_schedules_ 236 = .ok (.if_icmp .ne 9, 3) := by decide +kernel
theorem dd264_239 : decode cX13_schedules_ 239 = .ok (.lload 9, 2) := by decide +kernel
theorem dd264_241 : decode cX13_schedules_ 241 = .ok (.l2i, 1) := by decide +kernel
theorem dd264_242 : decode cX13_schedules_ 242 = .ok (.goto 4, 3) := by decide +kernel
theorem dd264_245 : decode cX13_schedules_ 245 = .ok (.iconst 0, 1) := by decide +kernel
theorem dd264_246 : decode cX13_schedules_ 246 = .ok (.istore 7, 2) := by decide +kernel
theorem dd264_248 : decode cX13_schedules_ 248 = .ok (.iload 4, 2) := by decide +kernel
theorem dd264_250 : decode cX13_schedules_ 250 = .ok (.iconst 3, 1) := by decide +kernel
theorem dd264_251 : decode cX13_schedules_ 251 = .ok (.if_icmp .ne 8, 3) := by decide +kernel
theorem dd264_254 : decode cX13_schedules_ 254 = .ok (.iload 11, 2) := by decide +kernel
theorem dd264_256 : decode cX13_schedules_ 256 = .ok (.goto 6, 3) := by decide +kernel
theorem dd264_259 : decode cX13_schedules_ 259 = .ok (.ldc_w 521, 3) := by decide +kernel
theorem dd264_262 : decode cX13_schedules_ 262 = .ok (.istore 8, 2) := by decide +kernel
theorem dd264_264 : decode cX13_schedules_ 264 = .ok (.aload_n 0, 1) := by decide +kernel
theorem dd264_265 : decode cX13_schedules_ 265 = .ok (.getfield 136, 3) := by decide +kernel
theorem dd264_268 : decode cX13_schedules_ 268 = .ok (.iload_n 3, 1) := by decide +kernel
theorem dd264_269 : decode cX13_schedules_ 269 = .ok (.baload, 1) := by decide +kernel
theorem dd264_270 : decode cX13_schedules_ 270 = .ok (.ifCond .ne 19, 3) := by decide +kernel
theorem dd264_273 : decode cX13_schedules_ 273 = .ok (.aload_n 0, 1) := by decide +kernel
theorem dd264_274 : decode cX13_schedules_ 274 = .ok (.invokevirtual 735, 3) := by decide +kernel
theorem dd264_277 : decode cX13_schedules_ 277 = .ok (.bipush 12, 2) := by decide +kernel
theorem dd264_279 : decode cX13_schedules_ 279 = .ok (.if_icmp .ne 10, 3) := by decide +kernel
theorem dd264_282 : decode cX13_schedules_ 282 = .ok (.aload_n 0, 1) := by decide +kernel
theorem dd264_283 : decode cX13_schedules_ 283 = .ok (.bipush 7, 2) := by decide +kernel
theorem dd264_285 : decode cX13_schedules_ 285 = .ok (.invokevirtual 644, 3) := by decide +kernel
theorem dd264_288 : decode cX13_schedules_ 288 = .ok (.return_, 1) := by decide +kernel
theorem dd264_289 : decode cX13_schedules_ 289 = .ok (.aload_n 0, 1) := by decide +kernel
theorem dd264_290 : decode cX13_schedules_ 290 = .ok (.getfield 136, 3) := by decide +kernel
theorem dd264_293 : decode cX13_schedules_ 293 = .ok (.iload_n 3, 1) := by decide +kernel
theorem dd264_294 : decode cX13_schedules_ 294 = .ok (.iconst 1, 1) := by decide +kernel
theorem dd264_295 : decode cX13_schedules_ 295 = .ok (.bastore, 1) := by decide +kernel
theorem dd264_296 : decode cX13_schedules_ 296 = .ok (.aload_n 0, 1) := by decide +kernel
theorem dd264_297 : decode cX13_schedules_ 297 = .ok (.getfield 139, 3) := by decide +kernel
theorem dd264_300 : decode cX13_schedules_ 300 = .ok (.iload_n 3, 1) := by decide +kernel
theorem dd264_301 : decode cX13_schedules_ 301 = .ok (.lload 5, 2) := by decide +kernel
theorem dd264_303 : decode cX13_schedules_ 303 = .ok (.l2i, 1) := by decide +kernel
theorem dd264_304 : decode cX13_schedules_ 304 = .ok (.iastore, 1) := by decide +kernel
theorem dd264_305 : decode cX13_schedules_ 305 = .ok (.aload_n 0, 1) := by decide +kernel
theorem dd264_306 : decode cX13_schedules_ 306 = .ok (.getfield 142, 3) := by decide +kernel
theorem dd264_309 : decode cX13_schedules_ 309 = .ok (.iload_n 3, 1) := by decide +kernel
theorem dd264_310 : decode cX13_schedules_ 310 = .ok (.iload 7, 2) := by decide +kernel
theorem dd264_312 : decode cX13_schedules_ 312 = .ok (.iastore, 1) := by decide +kernel
theorem dd264_313 : decode cX13_schedules_ 313 = .ok (.aload_n 0, 1) := by decide +kernel
theorem dd264_314 : decode cX13_schedules_ 314 = .ok (.getfield 145, 3) := by decide +kernel
theorem dd264_317 : decode cX13_schedules_ 317 = .ok (.iload_n 3, 1) := by decide +kernel
theorem dd264_318 : decode cX13_schedules_ 318 = .ok (.iload 8, 2) := by decide +kernel
theorem dd264_320 : decode cX13_schedules_ 320 = .ok (.iastore, 1) := by decide +kernel
theorem dd264_321 : decode cX13_schedules_ 321 = .ok (.aload_n 0, 1) := by decide +kernel
theorem dd264_322 : decode cX13_schedules_ 322 = .ok (.getfield 148, 3) := by decide +kernel
theorem dd264_325 : decode cX13_schedules_ 325 = .ok (.iload_n 3, 1) := by decide +kernel
theorem dd264_326 : decode cX13_schedules_ 326 = .ok (.iload 4, 2) := by decide +kernel
theorem dd264_328 : decode cX13_schedules_ 328 = .ok (.iconst 4, 1) := by decide +kernel
theorem dd264_329 : decode cX13_schedules_ 329 = .ok (.if_icmp .ne 23, 3) := by decide +kernel
theorem dd264_332 : decode cX13_schedules_ 332 = .ok (.aload_n 0, 1) := by decide +kernel
theorem dd264_333 : decode cX13_schedules_ 333 = .ok (.getfield 20, 3) := by decide +kernel
theorem dd264_336 : decode cX13_schedules_ 336 = .ok (.getfield 544, 3) := by decide +kernel
theorem dd264_339 : decode cX13_schedules_ 339 = .ok (.aload_n 0, 1) := by decide +kernel
theorem dd264_340 : decode cX13_schedules_ 340 = .ok (.getfield 20, 3) := by decide +kernel
theorem dd264_343 : decode cX13_schedules_ 343 = .ok (.getfield 444, 3) := by decide +kernel
theorem dd264_346 : decode cX13_schedules_ 346 = .ok (.iload_n 2, 1) := by decide +kernel
theorem dd264_347 : decode cX13_schedules_ 347 = .ok (.iaload, 1) := by decide +kernel
theorem dd264_348 : decode cX13_schedules_ 348 = .ok (.iaload, 1) := by decide +kernel
theorem dd264_349 : decode cX13_schedules_ 349 = .ok (.goto 4, 3) := by decide +kernel
theorem dd264_352 : decode cX13_schedules_ 352 = .ok (.iconst (-1), 1) := by decide +kernel
theorem dd264_353 : decode cX13_schedules_ 353 = .ok (.iastore, 1) := by decide +kernel
theorem dd264_354 : decode cX13_schedules_ 354 = .ok (.aload_n 0, 1) := by decide +kernel
theorem dd264_355 : decode cX13_schedules_ 355 = .ok (.iload_n 1, 1) := by decide +kernel
theorem dd264_356 : decode cX13_schedules_ 356 = .ok (.invokevirtual 665, 3) := by decide +kernel
theorem dd264_359 : decode cX13_schedules_ 359 = .ok (.return_, 1) := by decide +kernel
def f264_353 (n : Nat) (x1 : Int32) (y0 : Int32) (y1 : Int32) (s : zσ) : Option zσ :=
    if zin? y1 16 = true then
    zlet (sI s 1244 (nx y1) y0) fun u1 =>
    yb0 (f237 n x1 u1) fun u2 =>
    some u2
    else none
set_option maxRecDepth 20000 in
theorem f264_353_ok {n d : Nat} {x1 : Int32} {y0 : Int32} {y1 : Int32} {s : zσ} {s2 : zσ} (hd : 26 ≤ d) (h : f264_353 n x1 y0 y1 s = some s2) {w : zσ} {fz : Bool} {L : Nat} {xs : Nat → Int32} : zGo (zX fz L xs) d q_264 (353, [(0, .ref 1132), (1, .int x1)], [.int y0, .int y1, .ref 1244], zmk w s, 0, 0) (none, zmk w s2, 0, 0) := by
  obtain ⟨d, rfl⟩ : ∃ d0, d = d0 + 1 := ⟨d - 1, by omega⟩
  unfold f264_353 at h
  obtain ⟨hi, h⟩ := ochk h
  obtain ⟨u1, e_u1, h⟩ := olet h
  refine mIS dd264_353 rfl rfl hi e_u1 ?_
  refine zGo_s (pc' := 355) (st' := [.ref 1132]) dd264_354 rfl ?_
  refine zGo_s (pc' := 356) (st' := [.int x1, .ref 1132]) dd264_355 rfl ?_
  obtain ⟨u2, hq, h⟩ := obn0 h
  refine zCV0 (As := [.int x1]) (rest := []) (b := 1132) (q' := q_237) dd264_356 rfl rfl (rcv_m rfl rfl (by decide)) rfl rfl rfl (f237_ok (d := d) (by omega)  hq) ?_
  obtain rfl := ore0 h
  exact zGo_ret dd264_359 rfl rfl
def f264_289 (n : Nat) (x1 : Int32) (x2 : Int32) (x3 : Int32) (x4 : Int32) (x5 : Int64) (x7 : Int32) (x8 : Int32) (s : zσ) : Option zσ :=
    if zin? x3 16 = true then
    zlet (sI s 1240 (nx x3) (vp_nar .boolean (1 : Int32))) fun u1 =>
    if zin? x3 16 = true then
    zlet (sI u1 1241 (nx x3) (x5.toInt32)) fun u2 =>
    if zin? x3 16 = true then
    zlet (sI u2 1242 (nx x3) x7) fun u3 =>
    if zin? x3 16 = true then
    zlet (sI u3 1243 (nx x3) x8) fun u4 =>
    if x4 = (4 : Int32) then
    zrd 12 (u4.2.2 1132 11) fun a5 =>
    zrd 12 (u4.2.2 1132 11) fun a6 =>
    if zin? x2 200 = true then
    if zin? (u4.1 (a6 + 18) (nx x2)) 1400 = true then
    f264_353 n x1 (u4.1 (a5 + 33) (nx (u4.1 (a6 + 18) (nx x2)))) x3 u4
    else none
    else none
    else f264_353 n x1 (-1 : Int32) x3 u4
    else none
    else none
    else none
    else none
set_option maxRecDepth 20000 in
theorem f264_289_ok {n d : Nat} {x1 : Int32} {x2 : Int32} {x3 : Int32} {x4 : Int32} {x5 : Int64} {x7 : Int32} {x8 : Int32} {s : zσ} {s2 : zσ} (hd : 26 ≤ d) (h : f264_289 n x1 x2 x3 x4 x5 x7 x8 s = some s2) {w : zσ} {fz : Bool} {L : Nat} {xs : Nat → Int32} : zGo (zX fz L xs) d q_264 (289, [(0, .ref 1132), (1, .int x1), (2, .int x2), (3, .int x3), (4, .int x4), (5, .long x5), (7, .int x7), (8, .int x8)], [], zmk w s, 0, 0) (none, zmk w s2, 0, 0) := by
  obtain ⟨d, rfl⟩ : ∃ d0, d = d0 + 1 := ⟨d - 1, by omega⟩
  unfold f264_289 at h
  refine zGo_s (pc' := 290) (st' := [.ref 1132]) dd264_289 rfl ?_
  refine mGF (e := 1240) dd264_290 rfl rfl rfl rfl rfl ?_
  refine zGo_s (pc' := 294) (st' := [.int x3, .ref 1240]) dd264_293 rfl ?_
  refine zGo_s (pc' := 295) (st' := [.int (1 : Int32), .int x3, .ref 1240]) dd264_294 rfl ?_
  obtain ⟨hi, h⟩ := ochk h
  obtain ⟨u1, e_u1, h⟩ := olet h
  refine mBS dd264_295 rfl rfl rfl hi e_u1 ?_
  refine zGo_s (pc' := 297) (st' := [.ref 1132]) dd264_296 rfl ?_
  refine mGF (e := 1241) dd264_297 rfl rfl rfl rfl rfl ?_
  refine zGo_s (pc' := 301) (st' := [.int x3, .ref 1241]) dd264_300 rfl ?_
  refine zGo_s (pc' := 303) (st' := [.long x5, .int x3, .ref 1241]) dd264_301 rfl ?_
  refine zGo_s (pc' := 304) (st' := [.int (x5.toInt32), .int x3, .ref 1241]) dd264_303 rfl ?_
  obtain ⟨hi, h⟩ := ochk h
  obtain ⟨u2, e_u2, h⟩ := olet h
  refine mIS dd264_304 rfl rfl hi e_u2 ?_
  refine zGo_s (pc' := 306) (st' := [.ref 1132]) dd264_305 rfl ?_
  refine mGF (e := 1242) dd264_306 rfl rfl rfl rfl rfl ?_
  refine zGo_s (pc' := 310) (st' := [.int x3, .ref 1242]) dd264_309 rfl ?_
  refine zGo_s (pc' := 312) (st' := [.int x7, .int x3, .ref 1242]) dd264_310 rfl ?_
  obtain ⟨hi, h⟩ := ochk h
  obtain ⟨u3, e_u3, h⟩ := olet h
  refine mIS dd264_312 rfl rfl hi e_u3 ?_
  refine zGo_s (pc' := 314) (st' := [.ref 1132]) dd264_313 rfl ?_
  refine mGF (e := 1243) dd264_314 rfl rfl rfl rfl rfl ?_
  refine zGo_s (pc' := 318) (st' := [.int x3, .ref 1243]) dd264_317 rfl ?_
  refine zGo_s (pc' := 320) (st' := [.int x8, .int x3, .ref 1243]) dd264_318 rfl ?_
  obtain ⟨hi, h⟩ := ochk h
  obtain ⟨u4, e_u4, h⟩ := olet h
  refine mIS dd264_320 rfl rfl hi e_u4 ?_
  refine zGo_s (pc' := 322) (st' := [.ref 1132]) dd264_321 rfl ?_
  refine mGF (e := 1244) dd264_322 rfl rfl rfl rfl rfl ?_
  refine zGo_s (pc' := 326) (st' := [.int x3, .ref 1244]) dd264_325 rfl ?_
  refine zGo_s (pc' := 328) (st' := [.int x4, .int x3, .ref 1244]) dd264_326 rfl ?_
  refine zGo_s (pc' := 329) (st' := [.int (4 : Int32), .int x4, .int x3, .ref 1244]) dd264_328 rfl ?_
  rcases oite h with ⟨hc, h⟩ | ⟨hc, h⟩
  · refine zIF dd264_329 (kNeF hc) ?_
    refine zGo_s (pc' := 333) (st' := [.ref 1132, .int x3, .ref 1244]) dd264_332 rfl ?_
    obtain ⟨a5, e_a5, c_a5, h⟩ := ordd h
    refine mGR dd264_333 rfl rfl rfl rfl e_a5 ?_
    refine mGF (e := (a5 + 33)) dd264_336 rfl (ck12_s c_a5).1 (ck12_s c_a5).2 rfl (cf12_39 c_a5).1 ?_
    refine zGo_s (pc' := 340) (st' := [.ref 1132, .ref (a5 + 33), .int x3, .ref 1244]) dd264_339 rfl ?_
    obtain ⟨a6, e_a6, c_a6, h⟩ := ordd h
    refine mGR dd264_340 rfl rfl rfl rfl e_a6 ?_
    refine mGF (e := (a6 + 18)) dd264_343 rfl (ck12_s c_a6).1 (ck12_s c_a6).2 rfl (cf12_20 c_a6).1 ?_
    refine zGo_s (pc' := 347) (st' := [.int x2, .ref (a6 + 18), .ref (a5 + 33), .int x3, .ref 1244]) dd264_346 rfl ?_
    obtain ⟨hi, h⟩ := ochk h
    refine mIA dd264_347 (cf12_20 c_a6).2.1 (cf12_20 c_a6).2.2 hi ?_
    obtain ⟨hi, h⟩ := ochk h
    refine mIA dd264_348 (cf12_39 c_a5).2.1 (cf12_39 c_a5).2.2 hi ?_
    refine zGo_s (pc' := 353) (st' := [.int (u4.1 (a5 + 33) (nx (u4.1 (a6 + 18) (nx x2)))), .int x3, .ref 1244]) dd264_349 rfl ?_
    exact zGo_lv (lv := [(0, .ref 1132), (1, .int x1)]) ⟨by simp, by simp, by simp⟩ (f264_353_ok hd h)
  · refine zIT dd264_329 rfl (kNeT hc) ?_
    refine zGo_s (pc' := 353) (st' := [.int (-1 : Int32), .int x3, .ref 1244]) dd264_352 rfl ?_
    exact zGo_lv (lv := [(0, .ref 1132), (1, .int x1)]) ⟨by simp, by simp, by simp⟩ (f264_353_ok hd h)
def f264_264 (n : Nat) (x1 : Int32) (x2 : Int32) (x3 : Int32) (x4 : Int32) (x5 : Int64) (x7 : Int32) (x8 : Int32) (s : zσ) : Option zσ :=
    if zin? x3 16 = true then
    if (s.1 1240 (nx x3)) = (0 : Int32) then
    yb1 (f265 n s) fun v2 u1 =>
    if v2 = (12 : Int32) then
    yb0 (f246 n (7 : Int32) u1) fun u3 =>
    some u3
    else f264_289 n x1 x2 x3 x4 x5 x7 x8 u1
    else f264_289 n x1 x2 x3 x4 x5 x7 x8 s
    else none
set_option maxRecDepth 20000 in
theorem f264_264_ok {n d : Nat} {x1 : Int32} {x2 : Int32} {x3 : Int32} {x4 : Int32} {x5 : Int64} {x7 : Int32} {x8 : Int32} {s : zσ} {s2 : zσ} (hd : 26 ≤ d) (h : f264_264 n x1 x2 x3 x4 x5 x7 x8 s = some s2) {w : zσ} {fz : Bool} {L : Nat} {xs : Nat → Int32} : zGo (zX fz L xs) d q_264 (264, [(0, .ref 1132), (1, .int x1), (2, .int x2), (3, .int x3), (4, .int x4), (5, .long x5), (7, .int x7), (8, .int x8)], [], zmk w s, 0, 0) (none, zmk w s2, 0, 0) := by
  obtain ⟨d, rfl⟩ : ∃ d0, d = d0 + 1 := ⟨d - 1, by omega⟩
  unfold f264_264 at h
  refine zGo_s (pc' := 265) (st' := [.ref 1132]) dd264_264 rfl ?_
  refine mGF (e := 1240) dd264_265 rfl rfl rfl rfl rfl ?_
  refine zGo_s (pc' := 269) (st' := [.int x3, .ref 1240]) dd264_268 rfl ?_
  obtain ⟨hi, h⟩ := ochk h
  refine mBA dd264_269 rfl rfl rfl hi ?_
  rcases oite h with ⟨hc, h⟩ | ⟨hc, h⟩
  · refine zUF dd264_270 (kNeF hc) ?_
    refine zGo_s (pc' := 274) (st' := [.ref 1132]) dd264_273 rfl ?_
    obtain ⟨v2, u1, hq, h⟩ := obnd h
    refine zCV1 (As := []) (rest := []) (b := 1132) (q' := q_265) dd264_274 rfl rfl (rcv_m rfl rfl (by decide)) rfl rfl rfl (f265_ok (d := d) (by omega)  hq) ?_
    refine zGo_s (pc' := 279) (st' := [.int (12 : Int32), .int v2]) dd264_277 rfl ?_
    rcases oite h with ⟨hc, h⟩ | ⟨hc, h⟩
    · refine zIF dd264_279 (kNeF hc) ?_
      refine zGo_s (pc' := 283) (st' := [.ref 1132]) dd264_282 rfl ?_
      refine zGo_s (pc' := 285) (st' := [.int (7 : Int32), .ref 1132]) dd264_283 rfl ?_
      obtain ⟨u3, hq, h⟩ := obn0 h
      refine zCV0 (As := [.int (7 : Int32)]) (rest := []) (b := 1132) (q' := q_246) dd264_285 rfl rfl (rcv_m rfl rfl (by decide)) rfl rfl rfl (f246_ok (d := d) (by omega)  hq) ?_
      obtain rfl := ore0 h
      exact zGo_ret dd264_288 rfl rfl
    · refine zIT dd264_279 rfl (kNeT hc) ?_
      exact f264_289_ok hd h
  · refine zUT dd264_270 rfl (kNeT hc) ?_
    exact f264_289_ok hd h
def f264_262 (n : Nat) (x1 : Int32) (x2 : Int32) (x3 : Int32) (x4 : Int32) (x5 : Int64) (x7 : Int32) (y0 : Int32) (s : zσ) : Option zσ :=
    f264_264 n x1 x2 x3 x4 x5 x7 y0 s
set_option maxRecDepth 20000 in
theorem f264_262_ok {n d : Nat} {x1 : Int32} {x2 : Int32} {x3 : Int32} {x4 : Int32} {x5 : Int64} {x7 : Int32} {y0 : Int32} {s : zσ} {s2 : zσ} (hd : 26 ≤ d) (h : f264_262 n x1 x2 x3 x4 x5 x7 y0 s = some s2) {w : zσ} {fz : Bool} {L : Nat} {xs : Nat → Int32} : zGo (zX fz L xs) d q_264 (262, [(0, .ref 1132), (1, .int x1), (2, .int x2), (3, .int x3), (4, .int x4), (5, .long x5), (7, .int x7)], [.int y0], zmk w s, 0, 0) (none, zmk w s2, 0, 0) := by
  obtain ⟨d, rfl⟩ : ∃ d0, d = d0 + 1 := ⟨d - 1, by omega⟩
  unfold f264_262 at h
  refine zGo_s (pc' := 264) (st' := []) (lv' := [(8, .int y0), (0, .ref 1132), (1, .int x1), (2, .int x2), (3, .int x3), (4, .int x4), (5, .long x5), (7, .int x7)]) dd264_262 rfl ?_
  exact zGo_lv (lv := [(0, .ref 1132), (1, .int x1), (2, .int x2), (3, .int x3), (4, .int x4), (5, .long x5), (7, .int x7), (8, .int y0)]) ⟨by simp, by simp, by simp⟩ (f264_264_ok hd h)
def f264_246 (n : Nat) (x1 : Int32) (x2 : Int32) (x3 : Int32) (x4 : Int32) (x5 : Int64) (x11 : Int32) (y0 : Int32) (s : zσ) : Option zσ :=
    if x4 = (3 : Int32) then
    f264_262 n x1 x2 x3 x4 x5 y0 x11 s
    else f264_262 n x1 x2 x3 x4 x5 y0 (2147483647 : Int32) s
set_option maxRecDepth 20000 in
theorem f264_246_ok {n d : Nat} {x1 : Int32} {x2 : Int32} {x3 : Int32} {x4 : Int32} {x5 : Int64} {x11 : Int32} {y0 : Int32} {s : zσ} {s2 : zσ} (hd : 26 ≤ d) (h : f264_246 n x1 x2 x3 x4 x5 x11 y0 s = some s2) {w : zσ} {fz : Bool} {L : Nat} {xs : Nat → Int32} : zGo (zX fz L xs) d q_264 (246, [(0, .ref 1132), (1, .int x1), (2, .int x2), (3, .int x3), (4, .int x4), (5, .long x5), (11, .int x11)], [.int y0], zmk w s, 0, 0) (none, zmk w s2, 0, 0) := by
  obtain ⟨d, rfl⟩ : ∃ d0, d = d0 + 1 := ⟨d - 1, by omega⟩
  unfold f264_246 at h
  refine zGo_s (pc' := 248) (st' := []) (lv' := [(7, .int y0), (0, .ref 1132), (1, .int x1), (2, .int x2), (3, .int x3), (4, .int x4), (5, .long x5), (11, .int x11)]) dd264_246 rfl ?_
  refine zGo_s (pc' := 250) (st' := [.int x4]) dd264_248 rfl ?_
  refine zGo_s (pc' := 251) (st' := [.int (3 : Int32), .int x4]) dd264_250 rfl ?_
  rcases oite h with ⟨hc, h⟩ | ⟨hc, h⟩
  · refine zIF dd264_251 (kNeF hc) ?_
    refine zGo_s (pc' := 256) (st' := [.int x11]) dd264_254 rfl ?_
    refine zGo_s (pc' := 262) (st' := [.int x11]) dd264_256 rfl ?_
    exact zGo_lv (lv := [(0, .ref 1132), (1, .int x1), (2, .int x2), (3, .int x3), (4, .int x4), (5, .long x5), (7, .int y0)]) ⟨by simp, by simp, by simp⟩ (f264_262_ok hd h)
  · refine zIT dd264_251 rfl (kNeT hc) ?_
    refine zGo_s (pc' := 262) (st' := [.int (2147483647 : Int32)]) dd264_259 rfl ?_
    exact zGo_lv (lv := [(0, .ref 1132), (1, .int x1), (2, .int x2), (3, .int x3), (4, .int x4), (5, .long x5), (7, .int y0)]) ⟨by simp, by simp, by simp⟩ (f264_262_ok hd h)
def f264_226 (n : Nat) (s : zσ) : Option zσ :=
    yb0 (f246 n (9 : Int32) s) fun u1 =>
    some u1
set_option maxRecDepth 20000 in
theorem f264_226_ok {n d : Nat} {s : zσ} {s2 : zσ} (hd : 26 ≤ d) (h : f264_226 n s = some s2) {w : zσ} {fz : Bool} {L : Nat} {xs : Nat → Int32} : zGo (zX fz L xs) d q_264 (226, [(0, .ref 1132)], [], zmk w s, 0, 0) (none, zmk w s2, 0, 0) := by
  obtain ⟨d, rfl⟩ : ∃ d0, d = d0 + 1 := ⟨d - 1, by omega⟩
  unfold f264_226 at h
  refine zGo_s (pc' := 227) (st' := [.ref 1132]) dd264_226 rfl ?_
  refine zGo_s (pc' := 229) (st' := [.int (9 : Int32), .ref 1132]) dd264_227 rfl ?_
  obtain ⟨u1, hq, h⟩ := obn0 h
  refine zCV0 (As := [.int (9 : Int32)]) (rest := []) (b := 1132) (q' := q_246) dd264_229 rfl rfl (rcv_m rfl rfl (by decide)) rfl rfl rfl (f246_ok (d := d) (by omega)  hq) ?_
  obtain rfl := ore0 h
  exact zGo_ret dd264_232 rfl rfl
def f264_201 (n : Nat) (x1 : Int32) (x2 : Int32) (x3 : Int32) (x4 : Int32) (x5 : Int64) (x9 : Int64) (x11 : Int32) (y0 : Int32) (s : zσ) : Option zσ :=
    if y0 = (0 : Int32) then
    f264_226 n s
    else if (1000000000 : Int64) < x5 then
    f264_226 n s
    else if (x11.toInt64) < x5 then
    f264_226 n s
    else if x4 = (3 : Int32) then
    f264_246 n x1 x2 x3 x4 x5 x11 (x9.toInt32) s
    else f264_246 n x1 x2 x3 x4 x5 x11 (0 : Int32) s
set_option maxRecDepth 20000 in
theorem f264_201_ok {n d : Nat} {x1 : Int32} {x2 : Int32} {x3 : Int32} {x4 : Int32} {x5 : Int64} {x9 : Int64} {x11 : Int32} {y0 : Int32} {s : zσ} {s2 : zσ} (hd : 26 ≤ d) (h : f264_201 n x1 x2 x3 x4 x5 x9 x11 y0 s = some s2) {w : zσ} {fz : Bool} {L : Nat} {xs : Nat → Int32} : zGo (zX fz L xs) d q_264 (201, [(0, .ref 1132), (1, .int x1), (2, .int x2), (3, .int x3), (4, .int x4), (5, .long x5), (9, .long x9), (11, .int x11)], [.int y0], zmk w s, 0, 0) (none, zmk w s2, 0, 0) := by
  obtain ⟨d, rfl⟩ : ∃ d0, d = d0 + 1 := ⟨d - 1, by omega⟩
  unfold f264_201 at h
  refine zGo_s (pc' := 203) (st' := []) (lv' := [(12, .int y0), (0, .ref 1132), (1, .int x1), (2, .int x2), (3, .int x3), (4, .int x4), (5, .long x5), (9, .long x9), (11, .int x11)]) dd264_201 rfl ?_
  refine zGo_s (pc' := 205) (st' := [.int y0]) dd264_203 rfl ?_
  rcases oite h with ⟨hc, h⟩ | ⟨hc, h⟩
  · refine zUT dd264_205 rfl (kEqT hc) ?_
    exact zGo_lv (lv := [(0, .ref 1132)]) ⟨by simp, by simp, by simp⟩ (f264_226_ok hd h)
  · refine zUF dd264_205 (kEqF hc) ?_
    refine zGo_s (pc' := 210) (st' := [.long x5]) dd264_208 rfl ?_
    refine zGo_s (pc' := 213) (st' := [.long (1000000000 : Int64), .long x5]) dd264_210 rfl ?_
    refine zGo_s (pc' := 214) (st' := [.int (lg_cmp x5 (1000000000 : Int64))]) dd264_213 rfl ?_
    rcases oite h with ⟨hc, h⟩ | ⟨hc, h⟩
    · refine zUT dd264_214 rfl (kcGtT hc) ?_
      exact zGo_lv (lv := [(0, .ref 1132)]) ⟨by simp, by simp, by simp⟩ (f264_226_ok hd h)
    · refine zUF dd264_214 (kcGtF hc) ?_
      refine zGo_s (pc' := 219) (st' := [.int x11]) dd264_217 rfl ?_
      refine zGo_s (pc' := 220) (st' := [.long (x11.toInt64)]) dd264_219 rfl ?_
      refine zGo_s (pc' := 222) (st' := [.long x5, .long (x11.toInt64)]) dd264_220 rfl ?_
      refine zGo_s (pc' := 223) (st' := [.int (lg_cmp (x11.toInt64) x5)]) dd264_222 rfl ?_
      rcases oite h with ⟨hc, h⟩ | ⟨hc, h⟩
      · refine zUF dd264_223 (kcGeF hc) ?_
        exact zGo_lv (lv := [(0, .ref 1132)]) ⟨by simp, by simp, by simp⟩ (f264_226_ok hd h)
      · refine zUT dd264_223 rfl (kcGeT hc) ?_
        refine zGo_s (pc' := 235) (st' := [.int x4]) dd264_233 rfl ?_
        refine zGo_s (pc' := 236) (st' := [.int (3 : Int32), .int x4]) dd264_235 rfl ?_
        rcases oite h with ⟨hc, h⟩ | ⟨hc, h⟩
        · refine zIF dd264_236 (kNeF hc) ?_
          refine zGo_s (pc' := 241) (st' := [.long x9]) dd264_239 rfl ?_
          refine zGo_s (pc' := 242) (st' := [.int (x9.toInt32)]) dd264_241 rfl ?_
          refine zGo_s (pc' := 246) (st' := [.int (x9.toInt32)]) dd264_242 rfl ?_
          exact zGo_lv (lv := [(0, .ref 1132), (1, .int x1), (2, .int x2), (3, .int x3), (4, .int x4), (5, .long x5), (11, .int x11)]) ⟨by simp, by simp, by simp⟩ (f264_246_ok hd h)
        · refine zIT dd264_236 rfl (kNeT hc) ?_
          refine zGo_s (pc' := 246) (st' := [.int (0 : Int32)]) dd264_245 rfl ?_
          exact zGo_lv (lv := [(0, .ref 1132), (1, .int x1), (2, .int x2), (3, .int x3), (4, .int x4), (5, .long x5), (11, .int x11)]) ⟨by simp, by simp, by simp⟩ (f264_246_ok hd h)
def f264_162 (n : Nat) (x1 : Int32) (x2 : Int32) (x3 : Int32) (x4 : Int32) (x9 : Int64) (x11 : Int32) (y0 : Int64) (s : zσ) : Option zσ :=
    if x4 = (1 : Int32) then
    if x9 < ((s.1 1132 20).toInt64) then
    f264_201 n x1 x2 x3 x4 y0 x9 x11 (0 : Int32) s
    else f264_201 n x1 x2 x3 x4 y0 x9 x11 (1 : Int32) s
    else if x9 < (1 : Int64) then
    f264_201 n x1 x2 x3 x4 y0 x9 x11 (0 : Int32) s
    else f264_201 n x1 x2 x3 x4 y0 x9 x11 (1 : Int32) s
set_option maxRecDepth 20000 in
theorem f264_162_ok {n d : Nat} {x1 : Int32} {x2 : Int32} {x3 : Int32} {x4 : Int32} {x9 : Int64} {x11 : Int32} {y0 : Int64} {s : zσ} {s2 : zσ} (hd : 26 ≤ d) (h : f264_162 n x1 x2 x3 x4 x9 x11 y0 s = some s2) {w : zσ} {fz : Bool} {L : Nat} {xs : Nat → Int32} : zGo (zX fz L xs) d q_264 (162, [(0, .ref 1132), (1, .int x1), (2, .int x2), (3, .int x3), (4, .int x4), (9, .long x9), (11, .int x11)], [.long y0], zmk w s, 0, 0) (none, zmk w s2, 0, 0) := by
  obtain ⟨d, rfl⟩ : ∃ d0, d = d0 + 1 := ⟨d - 1, by omega⟩
  unfold f264_162 at h
  refine zGo_s (pc' := 164) (st' := []) (lv' := [(5, .long y0), (0, .ref 1132), (1, .int x1), (2, .int x2), (3, .int x3), (4, .int x4), (9, .long x9), (11, .int x11)]) dd264_162 rfl ?_
  refine zGo_s (pc' := 166) (st' := [.int x4]) dd264_164 rfl ?_
  refine zGo_s (pc' := 167) (st' := [.int (1 : Int32), .int x4]) dd264_166 rfl ?_
  rcases oite h with ⟨hc, h⟩ | ⟨hc, h⟩
  · refine zIF dd264_167 (kNeF hc) ?_
    refine zGo_s (pc' := 172) (st' := [.long x9]) dd264_170 rfl ?_
    refine zGo_s (pc' := 173) (st' := [.ref 1132, .long x9]) dd264_172 rfl ?_
    refine mGI dd264_173 rfl rfl rfl rfl ?_
    refine zGo_s (pc' := 177) (st' := [.long ((s.1 1132 20).toInt64), .long x9]) dd264_176 rfl ?_
    refine zGo_s (pc' := 178) (st' := [.int (lg_cmp x9 ((s.1 1132 20).toInt64))]) dd264_177 rfl ?_
    rcases oite h with ⟨hc, h⟩ | ⟨hc, h⟩
    · refine zUT dd264_178 rfl (kcLtT hc) ?_
      refine zGo_s (pc' := 186) (st' := [.int (0 : Int32)]) dd264_185 rfl ?_
      refine zGo_s (pc' := 201) (st' := [.int (0 : Int32)]) dd264_186 rfl ?_
      exact zGo_lv (lv := [(0, .ref 1132), (1, .int x1), (2, .int x2), (3, .int x3), (4, .int x4), (5, .long y0), (9, .long x9), (11, .int x11)]) ⟨by simp, by simp, by simp⟩ (f264_201_ok hd h)
    · refine zUF dd264_178 (kcLtF hc) ?_
      refine zGo_s (pc' := 182) (st' := [.int (1 : Int32)]) dd264_181 rfl ?_
      refine zGo_s (pc' := 201) (st' := [.int (1 : Int32)]) dd264_182 rfl ?_
      exact zGo_lv (lv := [(0, .ref 1132), (1, .int x1), (2, .int x2), (3, .int x3), (4, .int x4), (5, .long y0), (9, .long x9), (11, .int x11)]) ⟨by simp, by simp, by simp⟩ (f264_201_ok hd h)
  · refine zIT dd264_167 rfl (kNeT hc) ?_
    refine zGo_s (pc' := 191) (st' := [.long x9]) dd264_189 rfl ?_
    refine zGo_s (pc' := 192) (st' := [.long (1 : Int64), .long x9]) dd264_191 rfl ?_
    refine zGo_s (pc' := 193) (st' := [.int (lg_cmp x9 (1 : Int64))]) dd264_192 rfl ?_
    rcases oite h with ⟨hc, h⟩ | ⟨hc, h⟩
    · refine zUT dd264_193 rfl (kcLtT hc) ?_
      refine zGo_s (pc' := 201) (st' := [.int (0 : Int32)]) dd264_200 rfl ?_
      exact zGo_lv (lv := [(0, .ref 1132), (1, .int x1), (2, .int x2), (3, .int x3), (4, .int x4), (5, .long y0), (9, .long x9), (11, .int x11)]) ⟨by simp, by simp, by simp⟩ (f264_201_ok hd h)
    · refine zUF dd264_193 (kcLtF hc) ?_
      refine zGo_s (pc' := 197) (st' := [.int (1 : Int32)]) dd264_196 rfl ?_
      refine zGo_s (pc' := 201) (st' := [.int (1 : Int32)]) dd264_197 rfl ?_
      exact zGo_lv (lv := [(0, .ref 1132), (1, .int x1), (2, .int x2), (3, .int x3), (4, .int x4), (5, .long y0), (9, .long x9), (11, .int x11)]) ⟨by simp, by simp, by simp⟩ (f264_201_ok hd h)
def f264_133 (n : Nat) (x1 : Int32) (x2 : Int32) (x3 : Int32) (x4 : Int32) (x9 : Int64) (y0 : Int32) (s : zσ) : Option zσ :=
    if (s.1 1132 69) = (0 : Int32) then
    if x4 = (1 : Int32) then
    f264_162 n x1 x2 x3 x4 x9 y0 x9 s
    else f264_162 n x1 x2 x3 x4 x9 y0 (((s.1 1132 20).toInt64) + x9) s
    else some s
set_option maxRecDepth 20000 in
theorem f264_133_ok {n d : Nat} {x1 : Int32} {x2 : Int32} {x3 : Int32} {x4 : Int32} {x9 : Int64} {y0 : Int32} {s : zσ} {s2 : zσ} (hd : 26 ≤ d) (h : f264_133 n x1 x2 x3 x4 x9 y0 s = some s2) {w : zσ} {fz : Bool} {L : Nat} {xs : Nat → Int32} : zGo (zX fz L xs) d q_264 (133, [(0, .ref 1132), (1, .int x1), (2, .int x2), (3, .int x3), (4, .int x4), (9, .long x9)], [.int y0], zmk w s, 0, 0) (none, zmk w s2, 0, 0) := by
  obtain ⟨d, rfl⟩ : ∃ d0, d = d0 + 1 := ⟨d - 1, by omega⟩
  unfold f264_133 at h
  refine zGo_s (pc' := 135) (st' := []) (lv' := [(11, .int y0), (0, .ref 1132), (1, .int x1), (2, .int x2), (3, .int x3), (4, .int x4), (9, .long x9)]) dd264_133 rfl ?_
  refine zGo_s (pc' := 136) (st' := [.ref 1132]) dd264_135 rfl ?_
  refine mGI dd264_136 rfl rfl rfl rfl ?_
  rcases oite h with ⟨hc, h⟩ | ⟨hc, h⟩
  · refine zUT dd264_139 rfl (kEqT hc) ?_
    refine zGo_s (pc' := 145) (st' := [.int x4]) dd264_143 rfl ?_
    refine zGo_s (pc' := 146) (st' := [.int (1 : Int32), .int x4]) dd264_145 rfl ?_
    rcases oite h with ⟨hc, h⟩ | ⟨hc, h⟩
    · refine zIF dd264_146 (kNeF hc) ?_
      refine zGo_s (pc' := 151) (st' := [.long x9]) dd264_149 rfl ?_
      refine zGo_s (pc' := 162) (st' := [.long x9]) dd264_151 rfl ?_
      exact zGo_lv (lv := [(0, .ref 1132), (1, .int x1), (2, .int x2), (3, .int x3), (4, .int x4), (9, .long x9), (11, .int y0)]) ⟨by simp, by simp, by simp⟩ (f264_162_ok hd h)
    · refine zIT dd264_146 rfl (kNeT hc) ?_
      refine zGo_s (pc' := 155) (st' := [.ref 1132]) dd264_154 rfl ?_
      refine mGI dd264_155 rfl rfl rfl rfl ?_
      refine zGo_s (pc' := 159) (st' := [.long ((s.1 1132 20).toInt64)]) dd264_158 rfl ?_
      refine zGo_s (pc' := 161) (st' := [.long x9, .long ((s.1 1132 20).toInt64)]) dd264_159 rfl ?_
      refine zGo_s (pc' := 162) (st' := [.long (((s.1 1132 20).toInt64) + x9)]) dd264_161 rfl ?_
      exact zGo_lv (lv := [(0, .ref 1132), (1, .int x1), (2, .int x2), (3, .int x3), (4, .int x4), (9, .long x9), (11, .int y0)]) ⟨by simp, by simp, by simp⟩ (f264_162_ok hd h)
  · refine zUF dd264_139 (kEqF hc) ?_
    obtain rfl := ore0 h
    exact zGo_ret dd264_142 rfl rfl
def f264_130 (n : Nat) (x1 : Int32) (x2 : Int32) (x3 : Int32) (x4 : Int32) (x9 : Int64) (s : zσ) : Option zσ :=
    f264_133 n x1 x2 x3 x4 x9 (2147483647 : Int32) s
set_option maxRecDepth 20000 in
theorem f264_130_ok {n d : Nat} {x1 : Int32} {x2 : Int32} {x3 : Int32} {x4 : Int32} {x9 : Int64} {s : zσ} {s2 : zσ} (hd : 26 ≤ d) (h : f264_130 n x1 x2 x3 x4 x9 s = some s2) {w : zσ} {fz : Bool} {L : Nat} {xs : Nat → Int32} : zGo (zX fz L xs) d q_264 (130, [(0, .ref 1132), (1, .int x1), (2, .int x2), (3, .int x3), (4, .int x4), (9, .long x9)], [], zmk w s, 0, 0) (none, zmk w s2, 0, 0) := by
  obtain ⟨d, rfl⟩ : ∃ d0, d = d0 + 1 := ⟨d - 1, by omega⟩
  unfold f264_130 at h
  refine zGo_s (pc' := 133) (st' := [.int (2147483647 : Int32)]) dd264_130 rfl ?_
  exact f264_133_ok hd h
def f264_38 (n : Nat) (x1 : Int32) (x2 : Int32) (y0 : Int32) (y1 : Int32) (s : zσ) : Option zσ :=
    zlet ((y1 + y0)) fun v1 =>
    zrd 12 (s.2.2 1132 11) fun a2 =>
    if zin? x2 200 = true then
    zlet ((s.1 (a2 + 19) (nx x2))) fun v3 =>
    if v3 = (4 : Int32) then
    f264_264 n x1 x2 v1 v3 (-2000000000 : Int64) (0 : Int32) (2147483647 : Int32) s
    else zrd 12 (s.2.2 1132 11) fun a4 =>
    if zin? ((4 : Int32) * x2) 800 = true then
    yb1 (f243 n x1 (s.1 (a4 + 22) (nx ((4 : Int32) * x2))) s) fun v6 u5 =>
    zlet ((v6.toInt64)) fun v7 =>
    if (u5.1 1132 69) = (0 : Int32) then
    zrd 12 (u5.2.2 1132 11) fun a8 =>
    if zin? x2 200 = true then
    if (u5.1 (a8 + 20) (nx x2)) = (2 : Int32) then
    zrd 12 (u5.2.2 1132 11) fun a9 =>
    if zin? (((4 : Int32) * x2) + (1 : Int32)) 800 = true then
    yb1 (f243 n x1 (u5.1 (a9 + 22) (nx (((4 : Int32) * x2) + (1 : Int32)))) u5) fun v11 u10 =>
    f264_133 n x1 x2 v1 v3 v7 v11 u10
    else none
    else f264_130 n x1 x2 v1 v3 v7 u5
    else none
    else f264_130 n x1 x2 v1 v3 v7 u5
    else none
    else none
set_option maxRecDepth 20000 in
theorem f264_38_ok {n d : Nat} {x1 : Int32} {x2 : Int32} {y0 : Int32} {y1 : Int32} {s : zσ} {s2 : zσ} (hd : 26 ≤ d) (h : f264_38 n x1 x2 y0 y1 s = some s2) {w : zσ} {fz : Bool} {L : Nat} {xs : Nat → Int32} : zGo (zX fz L xs) d q_264 (38, [(0, .ref 1132), (1, .int x1), (2, .int x2)], [.int y0, .int y1], zmk w s, 0, 0) (none, zmk w s2, 0, 0) := by
  obtain ⟨d, rfl⟩ : ∃ d0, d = d0 + 1 := ⟨d - 1, by omega⟩
  unfold f264_38 at h
  refine zGo_s (pc' := 39) (st' := [.int (y1 + y0)]) dd264_38 rfl ?_
  obtain ⟨v1, e_v1, h⟩ := olet h
  refine zGo_is1 e_v1 dd264_39 (x' := (40, [(3, .int v1), (0, .ref 1132), (1, .int x1), (2, .int x2)], [], _, _, _)) rfl ?_
  refine zGo_s (pc' := 41) (st' := [.ref 1132]) dd264_40 rfl ?_
  obtain ⟨a2, e_a2, c_a2, h⟩ := ordd h
  refine mGR dd264_41 rfl rfl rfl rfl e_a2 ?_
  refine mGF (e := (a2 + 19)) dd264_44 rfl (ck12_s c_a2).1 (ck12_s c_a2).2 rfl (cf12_21 c_a2).1 ?_
  refine zGo_s (pc' := 48) (st' := [.int x2, .ref (a2 + 19)]) dd264_47 rfl ?_
  obtain ⟨hi, h⟩ := ochk h
  refine mIA dd264_48 (cf12_21 c_a2).2.1 (cf12_21 c_a2).2.2 hi ?_
  obtain ⟨v3, e_v3, h⟩ := olet h
  refine zGo_is1 e_v3 dd264_49 (x' := (51, [(4, .int v3), (3, .int v1), (0, .ref 1132), (1, .int x1), (2, .int x2)], [], _, _, _)) rfl ?_
  refine zGo_s (pc' := 54) (st' := [.long (-2000000000 : Int64)]) dd264_51 rfl ?_
  refine zGo_s (pc' := 56) (st' := []) (lv' := [(5, .long (-2000000000 : Int64)), (4, .int v3), (3, .int v1), (0, .ref 1132), (1, .int x1), (2, .int x2)]) dd264_54 rfl ?_
  refine zGo_s (pc' := 57) (st' := [.int (0 : Int32)]) dd264_56 rfl ?_
  refine zGo_s (pc' := 59) (st' := []) (lv' := [(7, .int (0 : Int32)), (5, .long (-2000000000 : Int64)), (4, .int v3), (3, .int v1), (0, .ref 1132), (1, .int x1), (2, .int x2)]) dd264_57 rfl ?_
  refine zGo_s (pc' := 62) (st' := [.int (2147483647 : Int32)]) dd264_59 rfl ?_
  refine zGo_s (pc' := 64) (st' := []) (lv' := [(8, .int (2147483647 : Int32)), (7, .int (0 : Int32)), (5, .long (-2000000000 : Int64)), (4, .int v3), (3, .int v1), (0, .ref 1132), (1, .int x1), (2, .int x2)]) dd264_62 rfl ?_
  refine zGo_s (pc' := 66) (st' := [.int v3]) dd264_64 rfl ?_
  refine zGo_s (pc' := 67) (st' := [.int (4 : Int32), .int v3]) dd264_66 rfl ?_
  rcases oite h with ⟨hc, h⟩ | ⟨hc, h⟩
  · refine zIT dd264_67 rfl (kEqT hc) ?_
    exact zGo_lv (lv := [(0, .ref 1132), (1, .int x1), (2, .int x2), (3, .int v1), (4, .int v3), (5, .long (-2000000000 : Int64)), (7, .int (0 : Int32)), (8, .int (2147483647 : Int32))]) ⟨by simp, by simp, by simp⟩ (f264_264_ok hd h)
  · refine zIF dd264_67 (kEqF hc) ?_
    refine zGo_s (pc' := 71) (st' := [.ref 1132]) dd264_70 rfl ?_
    refine zGo_s (pc' := 72) (st' := [.int x1, .ref 1132]) dd264_71 rfl ?_
    refine zGo_s (pc' := 73) (st' := [.ref 1132, .int x1, .ref 1132]) dd264_72 rfl ?_
    obtain ⟨a4, e_a4, c_a4, h⟩ := ordd h
    refine mGR dd264_73 rfl rfl rfl rfl e_a4 ?_
    refine mGF (e := (a4 + 22)) dd264_76 rfl (ck12_s c_a4).1 (ck12_s c_a4).2 rfl (cf12_24 c_a4).1 ?_
    refine zGo_s (pc' := 80) (st' := [.int (4 : Int32), .ref (a4 + 22), .int x1, .ref 1132]) dd264_79 rfl ?_
    refine zGo_s (pc' := 81) (st' := [.int x2, .int (4 : Int32), .ref (a4 + 22), .int x1, .ref 1132]) dd264_80 rfl ?_
    refine zGo_s (pc' := 82) (st' := [.int ((4 : Int32) * x2), .ref (a4 + 22), .int x1, .ref 1132]) dd264_81 rfl ?_
    obtain ⟨hi, h⟩ := ochk h
    refine mIA dd264_82 (cf12_24 c_a4).2.1 (cf12_24 c_a4).2.2 hi ?_
    obtain ⟨v6, u5, hq, h⟩ := obnd h
    refine zCV1 (As := [.int x1, .int (s.1 (a4 + 22) (nx ((4 : Int32) * x2)))]) (rest := []) (b := 1132) (q' := q_243) dd264_83 rfl rfl (rcv_m rfl rfl (by decide)) rfl rfl rfl (f243_ok (d := d) (by omega)  hq) ?_
    refine zGo_s (pc' := 87) (st' := [.long (v6.toInt64)]) dd264_86 rfl ?_
    obtain ⟨v7, e_v7, h⟩ := olet h
    refine zGo_is2 e_v7 dd264_87 (x' := (89, [(9, .long v7), (8, .int (2147483647 : Int32)), (7, .int (0 : Int32)), (5, .long (-2000000000 : Int64)), (4, .int v3), (3, .int v1), (0, .ref 1132), (1, .int x1), (2, .int x2)], [], _, _, _)) rfl ?_
    refine zGo_s (pc' := 90) (st' := [.ref 1132]) dd264_89 rfl ?_
    refine mGI dd264_90 rfl rfl rfl rfl ?_
    rcases oite h with ⟨hc, h⟩ | ⟨hc, h⟩
    · refine zUF dd264_93 (kNeF hc) ?_
      refine zGo_s (pc' := 97) (st' := [.ref 1132]) dd264_96 rfl ?_
      obtain ⟨a8, e_a8, c_a8, h⟩ := ordd h
      refine mGR dd264_97 rfl rfl rfl rfl e_a8 ?_
      refine mGF (e := (a8 + 20)) dd264_100 rfl (ck12_s c_a8).1 (ck12_s c_a8).2 rfl (cf12_22 c_a8).1 ?_
      refine zGo_s (pc' := 104) (st' := [.int x2, .ref (a8 + 20)]) dd264_103 rfl ?_
      obtain ⟨hi, h⟩ := ochk h
      refine mIA dd264_104 (cf12_22 c_a8).2.1 (cf12_22 c_a8).2.2 hi ?_
      refine zGo_s (pc' := 106) (st' := [.int (2 : Int32), .int (u5.1 (a8 + 20) (nx x2))]) dd264_105 rfl ?_
      rcases oite h with ⟨hc, h⟩ | ⟨hc, h⟩
      · refine zIF dd264_106 (kNeF hc) ?_
        refine zGo_s (pc' := 110) (st' := [.ref 1132]) dd264_109 rfl ?_
        refine zGo_s (pc' := 111) (st' := [.int x1, .ref 1132]) dd264_110 rfl ?_
        refine zGo_s (pc' := 112) (st' := [.ref 1132, .int x1, .ref 1132]) dd264_111 rfl ?_
        obtain ⟨a9, e_a9, c_a9, h⟩ := ordd h
        refine mGR dd264_112 rfl rfl rfl rfl e_a9 ?_
        refine mGF (e := (a9 + 22)) dd264_115 rfl (ck12_s c_a9).1 (ck12_s c_a9).2 rfl (cf12_24 c_a9).1 ?_
        refine zGo_s (pc' := 119) (st' := [.int (4 : Int32), .ref (a9 + 22), .int x1, .ref 1132]) dd264_118 rfl ?_
        refine zGo_s (pc' := 120) (st' := [.int x2, .int (4 : Int32), .ref (a9 + 22), .int x1, .ref 1132]) dd264_119 rfl ?_
        refine zGo_s (pc' := 121) (st' := [.int ((4 : Int32) * x2), .ref (a9 + 22), .int x1, .ref 1132]) dd264_120 rfl ?_
        refine zGo_s (pc' := 122) (st' := [.int (1 : Int32), .int ((4 : Int32) * x2), .ref (a9 + 22), .int x1, .ref 1132]) dd264_121 rfl ?_
        refine zGo_s (pc' := 123) (st' := [.int (((4 : Int32) * x2) + (1 : Int32)), .ref (a9 + 22), .int x1, .ref 1132]) dd264_122 rfl ?_
        obtain ⟨hi, h⟩ := ochk h
        refine mIA dd264_123 (cf12_24 c_a9).2.1 (cf12_24 c_a9).2.2 hi ?_
        obtain ⟨v11, u10, hq, h⟩ := obnd h
        refine zCV1 (As := [.int x1, .int (u5.1 (a9 + 22) (nx (((4 : Int32) * x2) + (1 : Int32))))]) (rest := []) (b := 1132) (q' := q_243) dd264_124 rfl rfl (rcv_m rfl rfl (by decide)) rfl rfl rfl (f243_ok (d := d) (by omega)  hq) ?_
        refine zGo_s (pc' := 133) (st' := [.int v11]) dd264_127 rfl ?_
        exact zGo_lv (lv := [(0, .ref 1132), (1, .int x1), (2, .int x2), (3, .int v1), (4, .int v3), (9, .long v7)]) ⟨by simp, by simp, by simp⟩ (f264_133_ok hd h)
      · refine zIT dd264_106 rfl (kNeT hc) ?_
        exact zGo_lv (lv := [(0, .ref 1132), (1, .int x1), (2, .int x2), (3, .int v1), (4, .int v3), (9, .long v7)]) ⟨by simp, by simp, by simp⟩ (f264_130_ok hd h)
    · refine zUT dd264_93 rfl (kNeT hc) ?_
      exact zGo_lv (lv := [(0, .ref 1132), (1, .int x1), (2, .int x2), (3, .int v1), (4, .int v3), (9, .long v7)]) ⟨by simp, by simp, by simp⟩ (f264_130_ok hd h)
def f264 (n : Nat) (x1 : Int32) (x2 : Int32) (s : zσ) : Option zσ :=
    zrd 12 (s.2.2 1132 11) fun a1 =>
    zrd 12 (s.2.2 1132 11) fun a2 =>
    if zin? x2 200 = true then
    if zin? (s.1 (a2 + 17) (nx x2)) 1400 = true then
    zrd 12 (s.2.2 1132 11) fun a3 =>
    if zin? x2 200 = true then
    if (s.1 (a3 + 15) (nx x2)) = (17 : Int32) then
    f264_38 n x1 x2 (1 : Int32) ((2 : Int32) * (s.1 (a1 + 33) (nx (s.1 (a2 + 17) (nx x2))))) s
    else f264_38 n x1 x2 (0 : Int32) ((2 : Int32) * (s.1 (a1 + 33) (nx (s.1 (a2 + 17) (nx x2))))) s
    else none
    else none
    else none
set_option maxRecDepth 20000 in
theorem f264_ok {n d : Nat} {x1 : Int32} {x2 : Int32} {s : zσ} {s2 : zσ} (hd : 26 ≤ d) (h : f264 n x1 x2 s = some s2) {w : zσ} {fz : Bool} {L : Nat} {xs : Nat → Int32} : zGo (zX fz L xs) d q_264 (0, [(0, .ref 1132), (1, .int x1), (2, .int x2)], [], zmk w s, 0, 0) (none, zmk w s2, 0, 0) := by
  obtain ⟨d, rfl⟩ : ∃ d0, d = d0 + 1 := ⟨d - 1, by omega⟩
  unfold f264 at h
  refine zGo_s (pc' := 1) (st' := [.int (2 : Int32)]) dd264_0 rfl ?_
  refine zGo_s (pc' := 2) (st' := [.ref 1132, .int (2 : Int32)]) dd264_1 rfl ?_
  obtain ⟨a1, e_a1, c_a1, h⟩ := ordd h
  refine mGR dd264_2 rfl rfl rfl rfl e_a1 ?_
  refine mGF (e := (a1 + 33)) dd264_5 rfl (ck12_s c_a1).1 (ck12_s c_a1).2 rfl (cf12_39 c_a1).1 ?_
  refine zGo_s (pc' := 9) (st' := [.ref 1132, .ref (a1 + 33), .int (2 : Int32)]) dd264_8 rfl ?_
  obtain ⟨a2, e_a2, c_a2, h⟩ := ordd h
  refine mGR dd264_9 rfl rfl rfl rfl e_a2 ?_
  refine mGF (e := (a2 + 17)) dd264_12 rfl (ck12_s c_a2).1 (ck12_s c_a2).2 rfl (cf12_19 c_a2).1 ?_
  refine zGo_s (pc' := 16) (st' := [.int x2, .ref (a2 + 17), .ref (a1 + 33), .int (2 : Int32)]) dd264_15 rfl ?_
  obtain ⟨hi, h⟩ := ochk h
  refine mIA dd264_16 (cf12_19 c_a2).2.1 (cf12_19 c_a2).2.2 hi ?_
  obtain ⟨hi, h⟩ := ochk h
  refine mIA dd264_17 (cf12_39 c_a1).2.1 (cf12_39 c_a1).2.2 hi ?_
  refine zGo_s (pc' := 19) (st' := [.int ((2 : Int32) * (s.1 (a1 + 33) (nx (s.1 (a2 + 17) (nx x2)))))]) dd264_18 rfl ?_
  refine zGo_s (pc' := 20) (st' := [.ref 1132, .int ((2 : Int32) * (s.1 (a1 + 33) (nx (s.1 (a2 + 17) (nx x2)))))]) dd264_19 rfl ?_
  obtain ⟨a3, e_a3, c_a3, h⟩ := ordd h
  refine mGR dd264_20 rfl rfl rfl rfl e_a3 ?_
  refine mGF (e := (a3 + 15)) dd264_23 rfl (ck12_s c_a3).1 (ck12_s c_a3).2 rfl (cf12_17 c_a3).1 ?_
  refine zGo_s (pc' := 27) (st' := [.int x2, .ref (a3 + 15), .int ((2 : Int32) * (s.1 (a1 + 33) (nx (s.1 (a2 + 17) (nx x2)))))]) dd264_26 rfl ?_
  obtain ⟨hi, h⟩ := ochk h
  refine mIA dd264_27 (cf12_17 c_a3).2.1 (cf12_17 c_a3).2.2 hi ?_
  refine zGo_s (pc' := 30) (st' := [.int (17 : Int32), .int (s.1 (a3 + 15) (nx x2)), .int ((2 : Int32) * (s.1 (a1 + 33) (nx (s.1 (a2 + 17) (nx x2)))))]) dd264_28 rfl ?_
  rcases oite h with ⟨hc, h⟩ | ⟨hc, h⟩
  · refine zIF dd264_30 (kNeF hc) ?_
    refine zGo_s (pc' := 34) (st' := [.int (1 : Int32), .int ((2 : Int32) * (s.1 (a1 + 33) (nx (s.1 (a2 + 17) (nx x2)))))]) dd264_33 rfl ?_
    refine zGo_s (pc' := 38) (st' := [.int (1 : Int32), .int ((2 : Int32) * (s.1 (a1 + 33) (nx (s.1 (a2 + 17) (nx x2)))))]) dd264_34 rfl ?_
    exact f264_38_ok hd h
  · refine zIT dd264_30 rfl (kNeT hc) ?_
    refine zGo_s (pc' := 38) (st' := [.int (0 : Int32), .int ((2 : Int32) * (s.1 (a1 + 33) (nx (s.1 (a2 + 17) (nx x2)))))]) dd264_37 rfl ?_
    exact f264_38_ok hd h
/-! PHModel.tasksAct(II)V -/
theorem dd263_0 : decode cX13_tasksAct 0 = .ok (.aload_n 0, 1) := by decide +kernel
theorem dd263_1 : decode cX13_tasksAct 1 = .ok (.getfield 20, 3) := by decide +kernel
theorem dd263_4 : decode cX13_tasksAct 4 = .ok (.getfield 459, 3) := by decide +kernel
theorem dd263_7 : decode cX13_tasksAct 7 = .ok (.iload_n 2, 1) := by decide +kernel
theorem dd263_8 : decode cX13_tasksAct 8 = .ok (.iaload, 1) := by decide +kernel
theorem dd263_9 : decode cX13_tasksAct 9 = .ok (.istore_n 3, 1) := by decide +kernel
theorem dd263_10 : decode cX13_tasksAct 10 = .ok (.aload_n 0, 1) := by decide +kernel
theorem dd263_11 : decode cX13_tasksAct 11 = .ok (.getfield 20, 3) := by decide +kernel
theorem dd263_14 : decode cX13_tasksAct 14 = .ok (.getfield 447, 3) := by decide +kernel
theorem dd263_17 : decode cX13_tasksAct 17 = .ok (.iload_n 2, 1) := by decide +kernel
theorem dd263_18 : decode cX13_tasksAct 18 = .ok (.iaload, 1) := by decide +kernel
theorem dd263_19 : decode cX13_tasksAct 19 = .ok (.ifCond .eq 10, 3) := by decide +kernel
theorem dd263_22 : decode cX13_tasksAct 22 = .ok (.aload_n 0, 1) := by decide +kernel
theorem dd263_23 : decode cX13_tasksAct 23 = .ok (.iload_n 1, 1) := by decide +kernel
theorem dd263_24 : decode cX13_tasksAct 24 = .ok (.iload_n 2, 1) := by decide +kernel
theorem dd263_25 : decode cX13_tasksAct 25 = .ok (.invokevirtual 725, 3) := by decide +kernel
theorem dd263_28 : decode cX13_tasksAct 28 = .ok (.return_, 1) := by decide +kernel
theorem dd263_29 : decode cX13_tasksAct 29 = .ok (.aload_n 0, 1) := by decide +kernel
theorem dd263_30 : decode cX13_tasksAct 30 = .ok (.getfield 20, 3) := by decide +kernel
theorem dd263_33 : decode cX13_tasksAct 33 = .ok (.getfield 441, 3) := by decide +kernel
theorem dd263_36 : decode cX13_tasksAct 36 = .ok (.iload_n 2, 1) := by decide +kernel
theorem dd263_37 : decode cX13_tasksAct 37 = .ok (.iaload, 1) := by decide +kernel
theorem dd263_38 : decode cX13_tasksAct 38 = .ok (.iconst (-1), 1) := by decide +kernel
theorem dd263_39 : decode cX13_tasksAct 39 = .ok (.if_icmp .ne 7, 3) := by decide +kernel
theorem dd263_42 : decode cX13_tasksAct 42 = .ok (.iload_n 1, 1) := by decide +kernel
theorem dd263_43 : decode cX13_tasksAct 43 = .ok (.goto 20, 3) := by decide +kernel
theorem dd263_46 : decode cX13_tasksAct 46 = .ok (.aload_n 0, 1) := by decide +kernel
theorem dd263_47 : decode cX13_tasksAct 47 = .ok (.getfield 20, 3) := by decide +kernel
theorem dd263_50 : decode cX13_tasksAct 50 = .ok (.getfield 544, 3) := by decide +kernel
theorem dd263_53 : decode cX13_tasksAct 53 = .ok (.aload_n 0, 1) := by decide +kernel
theorem dd263_54 : decode cX13_tasksAct 54 = .ok (.getfield 20, 3) := by decide +kernel
theorem dd263_57 : decode cX13_tasksAct 57 = .ok (.getfield 441, 3) := by decide +kernel
theorem dd263_60 : decode cX13_tasksAct 60 = .ok (.iload_n 2, 1) := by decide +kernel
theorem dd263_61 : decode cX13_tasksAct 61 = .ok (.iaload, 1) := by decide +kernel
theorem dd263_62 : decode cX13_tasksAct 62 = .ok (.iaload, 1) := by decide +kernel
theorem dd263_63 : decode cX13_tasksAct 63 = .ok (.istore 4, 2) := by decide +kernel
theorem dd263_65 : decode cX13_tasksAct 65 = .ok (.iload_n 3, 1) := by decide +kernel
theorem dd263_66 : decode cX13_tasksAct 66 = .ok (.bipush 16, 2) := by decide +kernel
theorem dd263_68 : decode cX13_tasksAct 68 = .ok (.if_icmp .ne 12, 3) := by decide +kernel
theorem dd263_71 : decode cX13_tasksAct 71 = .ok (.aload_n 0, 1) := by decide +kernel
theorem dd263_72 : decode cX13_tasksAct 72 = .ok (.iload 4, 2) := by decide +kernel
theorem dd263_74 : decode cX13_tasksAct 74 = .ok (.invokevirtual 586, 3) := by decide +kernel
theorem dd263_77 : decode cX13_tasksAct 77 = .ok (.goto 237, 3) := by decide +kernel
theorem dd263_80 : decode cX13_tasksAct 80 = .ok (.iload_n 3, 1) := by decide +kernel
theorem dd263_81 : decode cX13_tasksAct 81 = .ok (.bipush 17, 2) := by decide +kernel
theorem dd263_83 : decode cX13_tasksAct 83 = .ok (.if_icmp .ne 21, 3) := by decide +kernel
theorem dd263_86 : decode cX13_tasksAct 86 = .ok (.aload_n 0, 1) := by decide +kernel
theorem dd263_87 : decode cX13_tasksAct 87 = .ok (.iload 4, 2) := by decide +kernel
theorem dd263_89 : decode cX13_tasksAct 89 = .ok (.invokevirtual 728, 3) := by decide +kernel
theorem dd263_92 : decode cX13_tasksAct 92 = .ok (.ifCond .ne 222, 3) := by decide +kernel
theorem dd263_95 : decode cX13_tasksAct 95 = .ok (.aload_n 0, 1) := by decide +kernel
theorem dd263_96 : decode cX13_tasksAct 96 = .ok (.bipush 7, 2) := by decide +kernel
theorem dd263_98 : decode cX13_tasksAct 98 = .ok (.invokevirtual 644, 3) := by decide +kernel
theorem dd263_101 : decode cX13_tasksAct 101 = .ok (.goto 213, 3) := by decide +kernel
theorem dd263_104 : decode cX13_tasksAct 104 = .ok (.iload_n 3, 1) := by decide +kernel
theorem dd263_105 : decode cX13_tasksAct 105 = .ok (.bipush 18, 2) := by decide +kernel
theorem dd263_107 : decode cX13_tasksAct 107 = .ok (.if_icmp .ne 33, 3) := by decide +kernel
theorem dd263_110 : decode cX13_tasksAct 110 = .ok (.aload_n 0, 1) := by decide +kernel
theorem dd263_111 : decode cX13_tasksAct 111 = .ok (.getfield 91, 3) := by decide +kernel
theorem dd263_114 : decode cX13_tasksAct 114 = .ok (.iload 4, 2) := by decide +kernel
theorem dd263_116 : decode cX13_tasksAct 116 = .ok (.iaload, 1) := by decide +kernel
theorem dd263_117 : decode cX13_tasksAct 117 = .ok (.ifCond .ne 10, 3) := by decide +kernel
theorem dd263_120 : decode cX13_tasksAct 120 = .ok (.aload_n 0, 1) := by decide +kernel
theorem dd263_121 : decode cX13_tasksAct 121 = .ok (.bipush 7, 2) := by decide +kernel
theorem dd263_123 : decode cX13_tasksAct 123 = .ok (.invokevirtual 644, 3) := by decide +kernel
theorem dd263_126 : decode cX13_tasksAct 126 = .ok (.return_, 1) := by decide +kernel
theorem dd263_127 : decode cX13_tasksAct 127 = .ok (.aload_n 0, 1) := by decide +kernel
theorem dd263_128 : decode cX13_tasksAct 128 = .ok (.iload 4, 2) := by decide +kernel
theorem dd263_130 : decode cX13_tasksAct 130 = .ok (.invokevirtual 600, 3) := by decide +kernel
theorem dd263_133 : decode cX13_tasksAct 133 = .ok (.iload 4, 2) := by decide +kernel
theorem dd263_135 : decode cX13_tasksAct 135 = .ok (.iload_n 1, 1) := by decide +kernel
theorem dd263_136 : decode cX13_tasksAct 136 = .ok (.if_icmp .ne 178, 3) := by decide +kernel
theorem dd263_139 : decode cX13_tasksAct 139 = .ok (.return_, 1) := by decide +kernel
theorem dd263_140 : decode cX13_tasksAct 140 = .ok (.iload_n 3, 1) := by decide +kernel
theorem dd263_141 : decode cX13_tasksAct 141 = .ok (.bipush 19, 2) := by decide +kernel
theorem dd263_143 : decode cX13_tasksAct 143 = .ok (.if_icmp .ne 58, 3) := by decide +kernel
theorem dd263_146 : decode cX13_tasksAct 146 = .ok (.aload_n 0, 1) := by decide +kernel
theorem dd263_147 : decode cX13_tasksAct 147 = .ok (.getfield 91, 3) := by decide +kernel
theorem dd263_150 : decode cX13_tasksAct 150 = .ok (.iload 4, 2) := by decide +kernel
theorem dd263_152 : decode cX13_tasksAct 152 = .ok (.iaload, 1) := by decide +kernel
theorem dd263_153 : decode cX13_tasksAct 153 = .ok (.iconst 1, 1) := by decide +kernel
theorem dd263_154 : decode cX13_tasksAct 154 = .ok (.if_icmp .eq 21, 3) := by decide +kernel
theorem dd263_157 : decode cX13_tasksAct 157 = .ok (.aload_n 0, 1) := by decide +kernel
theorem dd263_158 : decode cX13_tasksAct 158 = .ok (.getfield 91, 3) := by decide +kernel
theorem dd263_161 : decode cX13_tasksAct 161 = .ok (.iload 4, 2) := by decide +kernel
theorem dd263_163 : decode cX13_tasksAct 163 = .ok (.iaload, 1) := by decide +kernel
theorem dd263_164 : decode cX13_tasksAct 164 = .ok (.iconst 3, 1) := by decide +kernel
theorem dd263_165 : decode cX13_tasksAct 165 = .ok (.if_icmp .eq 10, 3) := by decide +kernel
theorem dd263_168 : decode cX13_tasksAct 168 = .ok (.aload_n 0, 1) := by decide +kernel
theorem dd263_169 : decode cX13_tasksAct 169 = .ok (.bipush 7, 2) := by decide +kernel
theorem dd263_171 : decode cX13_tasksAct 171 = .ok (.invokevirtual 644, 3) := by decide +kernel
theorem dd263_174 : decode cX13_tasksAct 174 = .ok (.return_, 1) := by decide +kernel
theorem dd263_175 : decode cX13_tasksAct 175 = .ok (.aload_n 0, 1) := by decide +kernel
theorem dd263_176 : decode cX13_tasksAct 176 = .ok (.getfield 91, 3) := by decide +kernel
theorem dd263_179 : decode cX13_tasksAct 179 = .ok (.iload 4, 2) := by decide +kernel
theorem dd263_181 : decode cX13_tasksAct 181 = .ok (.aload_n 0, 1) := by decide +kernel
theorem dd263_182 : decode cX13_tasksAct 182 = .ok (.getfield 91, 3) := by decide +kernel
theorem dd263_185 : decode cX13_tasksAct 185 = .ok (.iload 4, 2) := by decide +kernel
theorem dd263_187 : decode cX13_tasksAct 187 = .ok (.iaload, 1) := by decide +kernel
theorem dd263_188 : decode cX13_tasksAct 188 = .ok (.iconst 1, 1) := by decide +kernel
theorem dd263_189 : decode cX13_tasksAct 189 = .ok (.if_icmp .ne 7, 3) := by decide +kernel
theorem dd263_192 : decode cX13_tasksAct 192 = .ok (.iconst 2, 1) := by decide +kernel
theorem dd263_193 : decode cX13_tasksAct 193 = .ok (.goto 4, 3) := by decide +kernel
theorem dd263_196 : decode cX13_tasksAct 196 = .ok (.iconst 4, 1) := by decide +kernel
theorem dd263_197 : decode cX13_tasksAct 197 = .ok (.iastore, 1) := by decide +kernel
theorem dd263_198 : decode cX13_tasksAct 198 = .ok (.goto 116, 3) := by decide +kernel
theorem dd263_201 : decode cX13_tasksAct 201 = .ok (.iload_n 3, 1) := by decide +kernel
theorem dd263_202 : decode cX13_tasksAct 202 = .ok (.bipush 20, 2) := by decide +kernel
theorem dd263_204 : decode cX13_tasksAct 204 = .ok (.if_icmp .ne 88, 3) := by decide +kernel
theorem dd263_207 : decode cX13_tasksAct 207 = .ok (.aload_n 0, 1) := by decide +kernel
theorem dd263_208 : decode cX13_tasksAct 208 = .ok (.iload_n 1, 1) := by decide +kernel
theorem dd263_209 : decode cX13_tasksAct 209 = .ok (.aload_n 0, 1) := by decide +kernel
theorem dd263_210 : decode cX13_tasksAct 210 = .ok (.getfield 20, 3) := by decide +kernel
theorem dd263_213 : decode cX13_tasksAct 213 = .ok (.getfield 469, 3) := by decide +kernel
theorem dd263_216 : decode cX13_tasksAct 216 = .ok (.iconst 4, 1) := by decide +kernel
theorem dd263_217 : decode cX13_tasksAct 217 = .ok (.iload_n 2, 1) := by decide +kernel
theorem dd263_218 : decode cX13_tasksAct 218 = .ok (.imul, 1) := by decide +kernel
theorem dd263_219 : decode cX13_tasksAct 219 = .ok (.iaload, 1) := by decide +kernel
theorem dd263_220 : decode cX13_tasksAct 220 = .ok (.invokevirtual 662, 3) := by decide +kernel
theorem dd263_223 : decode cX13_tasksAct 223 = .ok (.istore 5, 2) := by decide +kernel
theorem dd263_225 : decode cX13_tasksAct 225 = .ok (.aload_n 0, 1) := by decide +kernel
theorem dd263_226 : decode cX13_tasksAct 226 = .ok (.getfield 623, 3) := by decide +kernel
theorem dd263_229 : decode cX13_tasksAct 229 = .ok (.ifCond .ne 21, 3) := by decide +kernel
theorem dd263_232 : decode cX13_tasksAct 232 = .ok (.iload 5, 2) := by decide +kernel
theorem dd263_234 : decode cX13_tasksAct 234 = .ok (.iconst 1, 1) := by decide +kernel
theorem dd263_235 : decode cX13_tasksAct 235 = .ok (.if_icmp .lt 10, 3) := by decide +kernel
theorem dd263_238 : decode cX13_tasksAct 238 = .ok (.iload 5, 2) := by decide +kernel
theorem dd263_240 : decode cX13_tasksAct 240 = .ok (.bipush 9, 2) := by decide +kernel
theorem dd263_242 : decode cX13_tasksAct 242 = .ok (.if_icmp .le 8, 3) := by decide +kernel
theorem dd263_245 : decode cX13_tasksAct 245 = .ok (.aload_n 0, 1) := by decide +kernel
theorem dd263_246 : decode cX13_tasksAct 246 = .ok (.iconst 5, 1) := by decide +kernel
theorem dd263_247 : decode cX13_tasksAct 247 = .ok (.invokevirtual 644, 3) := by decide +kernel
theorem dd263_250 : decode cX13_tasksAct 250 = .ok (.aload_n 0, 1) := by decide +kernel
theorem dd263_251 : decode cX13_tasksAct 251 = .ok (.getfield 623, 3) := by decide +kernel
theorem dd263_254 : decode cX13_tasksAct 254 = .ok (.ifCond .ne 19, 3) := by decide +kernel
theorem dd263_257 : decode cX13_tasksAct 257 = .ok (.aload_n 0, 1) := by decide +kernel
theorem dd263_258 : decode cX13_tasksAct 258 = .ok (.getfield 91, 3) := by decide +kernel
theorem dd263_261 : decode cX13_tasksAct 261 = .ok (.iload 4, 2) := by decide +kernel
theorem dd263_263 : decode cX13_tasksAct 263 = .ok (.iaload, 1) := by decide +kernel
theorem dd263_264 : decode cX13_tasksAct 264 = .ok (.ifCond .ne 9, 3) := by decide +kernel
theorem dd263_267 : decode cX13_tasksAct 267 = .ok (.aload_n 0, 1) := by decide +kernel
theorem dd263_268 : decode cX13_tasksAct 268 = .ok (.bipush 7, 2) := by decide +kernel
theorem dd263_270 : decode cX13_tasksAct 270 = .ok (.invokevirtual 644, 3) := by decide +kernel
theorem dd263_273 : decode cX13_tasksAct 273 = .ok (.aload_n 0, 1) := by decide +kernel
theorem dd263_274 : decode cX13_tasksAct 274 = .ok (.getfield 623, 3) := by decide +kernel
theorem dd263_277 : decode cX13_tasksAct 277 = .ok (.ifCond .ne 12, 3) := by decide +kernel
theorem dd263_280 : decode cX13_tasksAct 280 = .ok (.aload_n 0, 1) := by decide +kernel
theorem dd263_281 : decode cX13_tasksAct 281 = .ok (.getfield 94, 3) := by decide +kernel
theorem dd263_284 : decode cX13_tasksAct 284 = .ok (.iload 4, 2) := by decide +kernel
theorem dd263_286 : decode cX13_tasksAct 286 = .ok (.iload 5, 2) := by decide +kernel
theorem dd263_288 : decode cX13_tasksAct 288 = .ok (.iastore, 1) := by decide +kernel
theorem dd263_289 : decode cX13_tasksAct 289 = .ok (.goto 25, 3) := by decide +kernel
theorem dd263_292 : decode cX13_tasksAct 292 = .ok (.aload_n 0, 1) := by decide +kernel
theorem dd263_293 : decode cX13_tasksAct 293 = .ok (.getfield 136, 3) := by decide +kernel
theorem dd263_296 : decode cX13_tasksAct 296 = .ok (.iconst 2, 1) := by decide +kernel
theorem dd263_297 : decode cX13_tasksAct 297 = .ok (.iload 4, 2) := by decide +kernel
theorem dd263_299 : decode cX13_tasksAct 299 = .ok (.imul, 1) := by decide +kernel
theorem dd263_300 : decode cX13_tasksAct 300 = .ok (.iconst 0, 1) := by decide +kernel
theorem dd263_301 : decode cX13_tasksAct 301 = .ok (.bastore, 1) := by decide +kernel
theorem dd263_302 : decode cX13_tasksAct 302 = .ok (.aload_n 0, 1) := by decide +kernel
theorem dd263_303 : decode cX13_tasksAct 303 = .ok (.getfield 136, 3) := by decide +kernel
theorem dd263_306 : decode cX13_tasksAct 306 = .ok (.iconst 2, 1) := by decide +kernel
theorem dd263_307 : decode cX13_tasksAct 307 = .ok (.iload 4, 2) := by decide +kernel
theorem dd263_309 : decode cX13_tasksAct 309 = .ok (.imul, 1) := by decide +kernel
theorem dd263_310 : decode cX13_tasksAct 310 = .ok (.iconst 1, 1) := by decide +kernel
theorem dd263_311 : decode cX13_tasksAct 311 = .ok (.iadd, 1) := by decide +kernel
theorem dd263_312 : decode cX13_tasksAct 312 = .ok (.iconst 0, 1) := by decide +kernel
theorem dd263_313 : decode cX13_tasksAct 313 = .ok (.bastore, 1) := by decide +kernel
theorem dd263_314 : decode cX13_tasksAct 314 = .ok (.aload_n 0, 1) := by decide +kernel
theorem dd263_315 : decode cX13_tasksAct 315 = .ok (.getfield 623, 3) := by decide +kernel
theorem dd263_318 : decode cX13_tasksAct 318 = .ok (.ifCond .ne 8, 3) := by decide +kernel
theorem dd263_321 : decode cX13_tasksAct 321 = .ok (.aload_n 0, 1) := by decide +kernel
theorem dd263_322 : decode cX13_tasksAct 322 = .ok (.iload_n 1, 1) := by decide +kernel
theorem dd263_323 : decode cX13_tasksAct 323 = .ok (.invokevirtual 665, 3) := by decide +kernel
theorem dd263_326 : decode cX13_tasksAct 326 = .ok (.return_, 1) := by decide +kernel
def f263_314 (n : Nat) (x1 : Int32) (s : zσ) : Option zσ :=
    if (s.1 1132 69) = (0 : Int32) then
    yb0 (f237 n x1 s) fun u1 =>
    some u1
    else some s
set_option maxRecDepth 20000 in
theorem f263_314_ok {n d : Nat} {x1 : Int32} {s : zσ} {s2 : zσ} (hd : 27 ≤ d) (h : f263_314 n x1 s = some s2) {w : zσ} {fz : Bool} {L : Nat} {xs : Nat → Int32} : zGo (zX fz L xs) d q_263 (314, [(0, .ref 1132), (1, .int x1)], [], zmk w s, 0, 0) (none, zmk w s2, 0, 0) := by
  obtain ⟨d, rfl⟩ : ∃ d0, d = d0 + 1 := ⟨d - 1, by omega⟩
  unfold f263_314 at h
  refine zGo_s (pc' := 315) (st' := [.ref 1132]) dd263_314 rfl ?_
  refine mGI dd263_315 rfl rfl rfl rfl ?_
  rcases oite h with ⟨hc, h⟩ | ⟨hc, h⟩
  · refine zUF dd263_318 (kNeF hc) ?_
    refine zGo_s (pc' := 322) (st' := [.ref 1132]) dd263_321 rfl ?_
    refine zGo_s (pc' := 323) (st' := [.int x1, .ref 1132]) dd263_322 rfl ?_
    obtain ⟨u1, hq, h⟩ := obn0 h
    refine zCV0 (As := [.int x1]) (rest := []) (b := 1132) (q' := q_237) dd263_323 rfl rfl (rcv_m rfl rfl (by decide)) rfl rfl rfl (f237_ok (d := d) (by omega)  hq) ?_
    obtain rfl := ore0 h
    exact zGo_ret dd263_326 rfl rfl
  · refine zUT dd263_318 rfl (kNeT hc) ?_
    obtain rfl := ore0 h
    exact zGo_ret dd263_326 rfl rfl
def f263_289 (n : Nat) (x1 : Int32) (s : zσ) : Option zσ :=
    f263_314 n x1 s
set_option maxRecDepth 20000 in
theorem f263_289_ok {n d : Nat} {x1 : Int32} {s : zσ} {s2 : zσ} (hd : 27 ≤ d) (h : f263_289 n x1 s = some s2) {w : zσ} {fz : Bool} {L : Nat} {xs : Nat → Int32} : zGo (zX fz L xs) d q_263 (289, [(0, .ref 1132), (1, .int x1)], [], zmk w s, 0, 0) (none, zmk w s2, 0, 0) := by
  obtain ⟨d, rfl⟩ : ∃ d0, d = d0 + 1 := ⟨d - 1, by omega⟩
  unfold f263_289 at h
  refine zGo_s (pc' := 314) (st' := []) dd263_289 rfl ?_
  exact f263_314_ok hd h
def f263_273 (n : Nat) (x1 : Int32) (x4 : Int32) (x5 : Int32) (s : zσ) : Option zσ :=
    if (s.1 1132 69) = (0 : Int32) then
    if zin? x4 8 = true then
    zlet (sI s 1226 (nx x4) x5) fun u1 =>
    f263_289 n x1 u1
    else none
    else f263_289 n x1 s
set_option maxRecDepth 20000 in
theorem f263_273_ok {n d : Nat} {x1 : Int32} {x4 : Int32} {x5 : Int32} {s : zσ} {s2 : zσ} (hd : 27 ≤ d) (h : f263_273 n x1 x4 x5 s = some s2) {w : zσ} {fz : Bool} {L : Nat} {xs : Nat → Int32} : zGo (zX fz L xs) d q_263 (273, [(0, .ref 1132), (1, .int x1), (4, .int x4), (5, .int x5)], [], zmk w s, 0, 0) (none, zmk w s2, 0, 0) := by
  obtain ⟨d, rfl⟩ : ∃ d0, d = d0 + 1 := ⟨d - 1, by omega⟩
  unfold f263_273 at h
  refine zGo_s (pc' := 274) (st' := [.ref 1132]) dd263_273 rfl ?_
  refine mGI dd263_274 rfl rfl rfl rfl ?_
  rcases oite h with ⟨hc, h⟩ | ⟨hc, h⟩
  · refine zUF dd263_277 (kNeF hc) ?_
    refine zGo_s (pc' := 281) (st' := [.ref 1132]) dd263_280 rfl ?_
    refine mGF (e := 1226) dd263_281 rfl rfl rfl rfl rfl ?_
    refine zGo_s (pc' := 286) (st' := [.int x4, .ref 1226]) dd263_284 rfl ?_
    refine zGo_s (pc' := 288) (st' := [.int x5, .int x4, .ref 1226]) dd263_286 rfl ?_
    obtain ⟨hi, h⟩ := ochk h
    obtain ⟨u1, e_u1, h⟩ := olet h
    refine mIS dd263_288 rfl rfl hi e_u1 ?_
    exact zGo_lv (lv := [(0, .ref 1132), (1, .int x1)]) ⟨by simp, by simp, by simp⟩ (f263_289_ok hd h)
  · refine zUT dd263_277 rfl (kNeT hc) ?_
    exact zGo_lv (lv := [(0, .ref 1132), (1, .int x1)]) ⟨by simp, by simp, by simp⟩ (f263_289_ok hd h)
def f263_250 (n : Nat) (x1 : Int32) (x4 : Int32) (x5 : Int32) (s : zσ) : Option zσ :=
    if (s.1 1132 69) = (0 : Int32) then
    if zin? x4 8 = true then
    if (s.1 1225 (nx x4)) = (0 : Int32) then
    yb0 (f246 n (7 : Int32) s) fun u1 =>
    f263_273 n x1 x4 x5 u1
    else f263_273 n x1 x4 x5 s
    else none
    else f263_273 n x1 x4 x5 s
set_option maxRecDepth 20000 in
theorem f263_250_ok {n d : Nat} {x1 : Int32} {x4 : Int32} {x5 : Int32} {s : zσ} {s2 : zσ} (hd : 27 ≤ d) (h : f263_250 n x1 x4 x5 s = some s2) {w : zσ} {fz : Bool} {L : Nat} {xs : Nat → Int32} : zGo (zX fz L xs) d q_263 (250, [(0, .ref 1132), (1, .int x1), (4, .int x4), (5, .int x5)], [], zmk w s, 0, 0) (none, zmk w s2, 0, 0) := by
  obtain ⟨d, rfl⟩ : ∃ d0, d = d0 + 1 := ⟨d - 1, by omega⟩
  unfold f263_250 at h
  refine zGo_s (pc' := 251) (st' := [.ref 1132]) dd263_250 rfl ?_
  refine mGI dd263_251 rfl rfl rfl rfl ?_
  rcases oite h with ⟨hc, h⟩ | ⟨hc, h⟩
  · refine zUF dd263_254 (kNeF hc) ?_
    refine zGo_s (pc' := 258) (st' := [.ref 1132]) dd263_257 rfl ?_
    refine mGF (e := 1225) dd263_258 rfl rfl rfl rfl rfl ?_
    refine zGo_s (pc' := 263) (st' := [.int x4, .ref 1225]) dd263_261 rfl ?_
    obtain ⟨hi, h⟩ := ochk h
    refine mIA dd263_263 rfl rfl hi ?_
    rcases oite h with ⟨hc, h⟩ | ⟨hc, h⟩
    · refine zUF dd263_264 (kNeF hc) ?_
      refine zGo_s (pc' := 268) (st' := [.ref 1132]) dd263_267 rfl ?_
      refine zGo_s (pc' := 270) (st' := [.int (7 : Int32), .ref 1132]) dd263_268 rfl ?_
      obtain ⟨u1, hq, h⟩ := obn0 h
      refine zCV0 (As := [.int (7 : Int32)]) (rest := []) (b := 1132) (q' := q_246) dd263_270 rfl rfl (rcv_m rfl rfl (by decide)) rfl rfl rfl (f246_ok (d := d) (by omega)  hq) ?_
      exact f263_273_ok hd h
    · refine zUT dd263_264 rfl (kNeT hc) ?_
      exact f263_273_ok hd h
  · refine zUT dd263_254 rfl (kNeT hc) ?_
    exact f263_273_ok hd h
def f263_245 (n : Nat) (x1 : Int32) (x4 : Int32) (x5 : Int32) (s : zσ) : Option zσ :=
    yb0 (f246 n (5 : Int32) s) fun u1 =>
    f263_250 n x1 x4 x5 u1
set_option maxRecDepth 20000 in
theorem f263_245_ok {n d : Nat} {x1 : Int32} {x4 : Int32} {x5 : Int32} {s : zσ} {s2 : zσ} (hd : 27 ≤ d) (h : f263_245 n x1 x4 x5 s = some s2) {w : zσ} {fz : Bool} {L : Nat} {xs : Nat → Int32} : zGo (zX fz L xs) d q_263 (245, [(0, .ref 1132), (1, .int x1), (4, .int x4), (5, .int x5)], [], zmk w s, 0, 0) (none, zmk w s2, 0, 0) := by
  obtain ⟨d, rfl⟩ : ∃ d0, d = d0 + 1 := ⟨d - 1, by omega⟩
  unfold f263_245 at h
  refine zGo_s (pc' := 246) (st' := [.ref 1132]) dd263_245 rfl ?_
  refine zGo_s (pc' := 247) (st' := [.int (5 : Int32), .ref 1132]) dd263_246 rfl ?_
  obtain ⟨u1, hq, h⟩ := obn0 h
  refine zCV0 (As := [.int (5 : Int32)]) (rest := []) (b := 1132) (q' := q_246) dd263_247 rfl rfl (rcv_m rfl rfl (by decide)) rfl rfl rfl (f246_ok (d := d) (by omega)  hq) ?_
  exact f263_250_ok hd h
def f263_197 (n : Nat) (x1 : Int32) (y0 : Int32) (y1 : Int32) (s : zσ) : Option zσ :=
    if zin? y1 8 = true then
    zlet (sI s 1225 (nx y1) y0) fun u1 =>
    f263_314 n x1 u1
    else none
set_option maxRecDepth 20000 in
theorem f263_197_ok {n d : Nat} {x1 : Int32} {y0 : Int32} {y1 : Int32} {s : zσ} {s2 : zσ} (hd : 27 ≤ d) (h : f263_197 n x1 y0 y1 s = some s2) {w : zσ} {fz : Bool} {L : Nat} {xs : Nat → Int32} : zGo (zX fz L xs) d q_263 (197, [(0, .ref 1132), (1, .int x1)], [.int y0, .int y1, .ref 1225], zmk w s, 0, 0) (none, zmk w s2, 0, 0) := by
  obtain ⟨d, rfl⟩ : ∃ d0, d = d0 + 1 := ⟨d - 1, by omega⟩
  unfold f263_197 at h
  obtain ⟨hi, h⟩ := ochk h
  obtain ⟨u1, e_u1, h⟩ := olet h
  refine mIS dd263_197 rfl rfl hi e_u1 ?_
  refine zGo_s (pc' := 314) (st' := []) dd263_198 rfl ?_
  exact f263_314_ok hd h
def f263_175 (n : Nat) (x1 : Int32) (x4 : Int32) (s : zσ) : Option zσ :=
    if zin? x4 8 = true then
    if (s.1 1225 (nx x4)) = (1 : Int32) then
    f263_197 n x1 (2 : Int32) x4 s
    else f263_197 n x1 (4 : Int32) x4 s
    else none
set_option maxRecDepth 20000 in
theorem f263_175_ok {n d : Nat} {x1 : Int32} {x4 : Int32} {s : zσ} {s2 : zσ} (hd : 27 ≤ d) (h : f263_175 n x1 x4 s = some s2) {w : zσ} {fz : Bool} {L : Nat} {xs : Nat → Int32} : zGo (zX fz L xs) d q_263 (175, [(0, .ref 1132), (1, .int x1), (4, .int x4)], [], zmk w s, 0, 0) (none, zmk w s2, 0, 0) := by
  obtain ⟨d, rfl⟩ : ∃ d0, d = d0 + 1 := ⟨d - 1, by omega⟩
  unfold f263_175 at h
  refine zGo_s (pc' := 176) (st' := [.ref 1132]) dd263_175 rfl ?_
  refine mGF (e := 1225) dd263_176 rfl rfl rfl rfl rfl ?_
  refine zGo_s (pc' := 181) (st' := [.int x4, .ref 1225]) dd263_179 rfl ?_
  refine zGo_s (pc' := 182) (st' := [.ref 1132, .int x4, .ref 1225]) dd263_181 rfl ?_
  refine mGF (e := 1225) dd263_182 rfl rfl rfl rfl rfl ?_
  refine zGo_s (pc' := 187) (st' := [.int x4, .ref 1225, .int x4, .ref 1225]) dd263_185 rfl ?_
  obtain ⟨hi, h⟩ := ochk h
  refine mIA dd263_187 rfl rfl hi ?_
  refine zGo_s (pc' := 189) (st' := [.int (1 : Int32), .int (s.1 1225 (nx x4)), .int x4, .ref 1225]) dd263_188 rfl ?_
  rcases oite h with ⟨hc, h⟩ | ⟨hc, h⟩
  · refine zIF dd263_189 (kNeF hc) ?_
    refine zGo_s (pc' := 193) (st' := [.int (2 : Int32), .int x4, .ref 1225]) dd263_192 rfl ?_
    refine zGo_s (pc' := 197) (st' := [.int (2 : Int32), .int x4, .ref 1225]) dd263_193 rfl ?_
    exact zGo_lv (lv := [(0, .ref 1132), (1, .int x1)]) ⟨by simp, by simp, by simp⟩ (f263_197_ok hd h)
  · refine zIT dd263_189 rfl (kNeT hc) ?_
    refine zGo_s (pc' := 197) (st' := [.int (4 : Int32), .int x4, .ref 1225]) dd263_196 rfl ?_
    exact zGo_lv (lv := [(0, .ref 1132), (1, .int x1)]) ⟨by simp, by simp, by simp⟩ (f263_197_ok hd h)
def f263_63 (n : Nat) (x1 : Int32) (x2 : Int32) (x3 : Int32) (y0 : Int32) (s : zσ) : Option zσ :=
    if x3 = (16 : Int32) then
    yb0 (f210 n y0 s) fun u12 =>
    f263_314 n x1 u12
    else if x3 = (17 : Int32) then
    yb1 (f225 n y0 s) fun v10 u9 =>
    if v10 = (0 : Int32) then
    yb0 (f246 n (7 : Int32) u9) fun u11 =>
    f263_314 n x1 u11
    else f263_314 n x1 u9
    else if x3 = (18 : Int32) then
    if zin? y0 8 = true then
    if (s.1 1225 (nx y0)) = (0 : Int32) then
    yb0 (f246 n (7 : Int32) s) fun u8 =>
    some u8
    else yb0 (f219 n 4 y0 s) fun u7 =>
    if y0 = x1 then
    some u7
    else f263_314 n x1 u7
    else none
    else if x3 = (19 : Int32) then
    if zin? y0 8 = true then
    if (s.1 1225 (nx y0)) = (1 : Int32) then
    f263_175 n x1 y0 s
    else if zin? y0 8 = true then
    if (s.1 1225 (nx y0)) = (3 : Int32) then
    f263_175 n x1 y0 s
    else yb0 (f246 n (7 : Int32) s) fun u6 =>
    some u6
    else none
    else none
    else if x3 = (20 : Int32) then
    zrd 12 (s.2.2 1132 11) fun a3 =>
    if zin? ((4 : Int32) * x2) 800 = true then
    yb1 (f243 n x1 (s.1 (a3 + 22) (nx ((4 : Int32) * x2))) s) fun v5 u4 =>
    if (u4.1 1132 69) = (0 : Int32) then
    if v5 < (1 : Int32) then
    f263_245 n x1 y0 v5 u4
    else if (9 : Int32) < v5 then
    f263_245 n x1 y0 v5 u4
    else f263_250 n x1 y0 v5 u4
    else f263_250 n x1 y0 v5 u4
    else none
    else if zin? ((2 : Int32) * y0) 16 = true then
    zlet (sI s 1240 (nx ((2 : Int32) * y0)) (vp_nar .boolean (0 : Int32))) fun u1 =>
    if zin? (((2 : Int32) * y0) + (1 : Int32)) 16 = true then
    zlet (sI u1 1240 (nx (((2 : Int32) * y0) + (1 : Int32))) (vp_nar .boolean (0 : Int32))) fun u2 =>
    f263_314 n x1 u2
    else none
    else none
set_option maxRecDepth 20000 in
theorem f263_63_ok {n d : Nat} {x1 : Int32} {x2 : Int32} {x3 : Int32} {y0 : Int32} {s : zσ} {s2 : zσ} (hd : 27 ≤ d) (h : f263_63 n x1 x2 x3 y0 s = some s2) {w : zσ} {fz : Bool} {L : Nat} {xs : Nat → Int32} : zGo (zX fz L xs) d q_263 (63, [(0, .ref 1132), (1, .int x1), (2, .int x2), (3, .int x3)], [.int y0], zmk w s, 0, 0) (none, zmk w s2, 0, 0) := by
  obtain ⟨d, rfl⟩ : ∃ d0, d = d0 + 1 := ⟨d - 1, by omega⟩
  unfold f263_63 at h
  refine zGo_s (pc' := 65) (st' := []) (lv' := [(4, .int y0), (0, .ref 1132), (1, .int x1), (2, .int x2), (3, .int x3)]) dd263_63 rfl ?_
  refine zGo_s (pc' := 66) (st' := [.int x3]) dd263_65 rfl ?_
  refine zGo_s (pc' := 68) (st' := [.int (16 : Int32), .int x3]) dd263_66 rfl ?_
  rcases oite h with ⟨hc, h⟩ | ⟨hc, h⟩
  · refine zIF dd263_68 (kNeF hc) ?_
    refine zGo_s (pc' := 72) (st' := [.ref 1132]) dd263_71 rfl ?_
    refine zGo_s (pc' := 74) (st' := [.int y0, .ref 1132]) dd263_72 rfl ?_
    obtain ⟨u12, hq, h⟩ := obn0 h
    refine zCV0 (As := [.int y0]) (rest := []) (b := 1132) (q' := q_210) dd263_74 rfl rfl (rcv_m rfl rfl (by decide)) rfl rfl rfl (f210_ok (d := d) (by omega)  hq) ?_
    refine zGo_s (pc' := 314) (st' := []) dd263_77 rfl ?_
    exact zGo_lv (lv := [(0, .ref 1132), (1, .int x1)]) ⟨by simp, by simp, by simp⟩ (f263_314_ok hd h)
  · refine zIT dd263_68 rfl (kNeT hc) ?_
    refine zGo_s (pc' := 81) (st' := [.int x3]) dd263_80 rfl ?_
    refine zGo_s (pc' := 83) (st' := [.int (17 : Int32), .int x3]) dd263_81 rfl ?_
    rcases oite h with ⟨hc, h⟩ | ⟨hc, h⟩
    · refine zIF dd263_83 (kNeF hc) ?_
      refine zGo_s (pc' := 87) (st' := [.ref 1132]) dd263_86 rfl ?_
      refine zGo_s (pc' := 89) (st' := [.int y0, .ref 1132]) dd263_87 rfl ?_
      obtain ⟨v10, u9, hq, h⟩ := obnd h
      refine zCV1 (As := [.int y0]) (rest := []) (b := 1132) (q' := q_225) dd263_89 rfl rfl (rcv_m rfl rfl (by decide)) rfl rfl rfl (f225_ok (d := d) (by omega)  hq) ?_
      rcases oite h with ⟨hc, h⟩ | ⟨hc, h⟩
      · refine zUF dd263_92 (kNeF hc) ?_
        refine zGo_s (pc' := 96) (st' := [.ref 1132]) dd263_95 rfl ?_
        refine zGo_s (pc' := 98) (st' := [.int (7 : Int32), .ref 1132]) dd263_96 rfl ?_
        obtain ⟨u11, hq, h⟩ := obn0 h
        refine zCV0 (As := [.int (7 : Int32)]) (rest := []) (b := 1132) (q' := q_246) dd263_98 rfl rfl (rcv_m rfl rfl (by decide)) rfl rfl rfl (f246_ok (d := d) (by omega)  hq) ?_
        refine zGo_s (pc' := 314) (st' := []) dd263_101 rfl ?_
        exact zGo_lv (lv := [(0, .ref 1132), (1, .int x1)]) ⟨by simp, by simp, by simp⟩ (f263_314_ok hd h)
      · refine zUT dd263_92 rfl (kNeT hc) ?_
        exact zGo_lv (lv := [(0, .ref 1132), (1, .int x1)]) ⟨by simp, by simp, by simp⟩ (f263_314_ok hd h)
    · refine zIT dd263_83 rfl (kNeT hc) ?_
      refine zGo_s (pc' := 105) (st' := [.int x3]) dd263_104 rfl ?_
      refine zGo_s (pc' := 107) (st' := [.int (18 : Int32), .int x3]) dd263_105 rfl ?_
      rcases oite h with ⟨hc, h⟩ | ⟨hc, h⟩
      · refine zIF dd263_107 (kNeF hc) ?_
        refine zGo_s (pc' := 111) (st' := [.ref 1132]) dd263_110 rfl ?_
        refine mGF (e := 1225) dd263_111 rfl rfl rfl rfl rfl ?_
        refine zGo_s (pc' := 116) (st' := [.int y0, .ref 1225]) dd263_114 rfl ?_
        obtain ⟨hi, h⟩ := ochk h
        refine mIA dd263_116 rfl rfl hi ?_
        rcases oite h with ⟨hc, h⟩ | ⟨hc, h⟩
        · refine zUF dd263_117 (kNeF hc) ?_
          refine zGo_s (pc' := 121) (st' := [.ref 1132]) dd263_120 rfl ?_
          refine zGo_s (pc' := 123) (st' := [.int (7 : Int32), .ref 1132]) dd263_121 rfl ?_
          obtain ⟨u8, hq, h⟩ := obn0 h
          refine zCV0 (As := [.int (7 : Int32)]) (rest := []) (b := 1132) (q' := q_246) dd263_123 rfl rfl (rcv_m rfl rfl (by decide)) rfl rfl rfl (f246_ok (d := d) (by omega)  hq) ?_
          obtain rfl := ore0 h
          exact zGo_ret dd263_126 rfl rfl
        · refine zUT dd263_117 rfl (kNeT hc) ?_
          refine zGo_s (pc' := 128) (st' := [.ref 1132]) dd263_127 rfl ?_
          refine zGo_s (pc' := 130) (st' := [.int y0, .ref 1132]) dd263_128 rfl ?_
          obtain ⟨u7, hq, h⟩ := obn0 h
          refine zCV0 (As := [.int y0]) (rest := []) (b := 1132) (q' := q_219) dd263_130 rfl rfl (rcv_m rfl rfl (by decide)) rfl rfl rfl (f219_okk4 _ _ _  hq (by omega)) ?_
          refine zGo_s (pc' := 135) (st' := [.int y0]) dd263_133 rfl ?_
          refine zGo_s (pc' := 136) (st' := [.int x1, .int y0]) dd263_135 rfl ?_
          rcases oite h with ⟨hc, h⟩ | ⟨hc, h⟩
          · refine zIF dd263_136 (kNeF hc) ?_
            obtain rfl := ore0 h
            exact zGo_ret dd263_139 rfl rfl
          · refine zIT dd263_136 rfl (kNeT hc) ?_
            exact zGo_lv (lv := [(0, .ref 1132), (1, .int x1)]) ⟨by simp, by simp, by simp⟩ (f263_314_ok hd h)
      · refine zIT dd263_107 rfl (kNeT hc) ?_
        refine zGo_s (pc' := 141) (st' := [.int x3]) dd263_140 rfl ?_
        refine zGo_s (pc' := 143) (st' := [.int (19 : Int32), .int x3]) dd263_141 rfl ?_
        rcases oite h with ⟨hc, h⟩ | ⟨hc, h⟩
        · refine zIF dd263_143 (kNeF hc) ?_
          refine zGo_s (pc' := 147) (st' := [.ref 1132]) dd263_146 rfl ?_
          refine mGF (e := 1225) dd263_147 rfl rfl rfl rfl rfl ?_
          refine zGo_s (pc' := 152) (st' := [.int y0, .ref 1225]) dd263_150 rfl ?_
          obtain ⟨hi, h⟩ := ochk h
          refine mIA dd263_152 rfl rfl hi ?_
          refine zGo_s (pc' := 154) (st' := [.int (1 : Int32), .int (s.1 1225 (nx y0))]) dd263_153 rfl ?_
          rcases oite h with ⟨hc, h⟩ | ⟨hc, h⟩
          · refine zIT dd263_154 rfl (kEqT hc) ?_
            exact zGo_lv (lv := [(0, .ref 1132), (1, .int x1), (4, .int y0)]) ⟨by simp, by simp, by simp⟩ (f263_175_ok hd h)
          · refine zIF dd263_154 (kEqF hc) ?_
            refine zGo_s (pc' := 158) (st' := [.ref 1132]) dd263_157 rfl ?_
            refine mGF (e := 1225) dd263_158 rfl rfl rfl rfl rfl ?_
            refine zGo_s (pc' := 163) (st' := [.int y0, .ref 1225]) dd263_161 rfl ?_
            obtain ⟨hi, h⟩ := ochk h
            refine mIA dd263_163 rfl rfl hi ?_
            refine zGo_s (pc' := 165) (st' := [.int (3 : Int32), .int (s.1 1225 (nx y0))]) dd263_164 rfl ?_
            rcases oite h with ⟨hc, h⟩ | ⟨hc, h⟩
            · refine zIT dd263_165 rfl (kEqT hc) ?_
              exact zGo_lv (lv := [(0, .ref 1132), (1, .int x1), (4, .int y0)]) ⟨by simp, by simp, by simp⟩ (f263_175_ok hd h)
            · refine zIF dd263_165 (kEqF hc) ?_
              refine zGo_s (pc' := 169) (st' := [.ref 1132]) dd263_168 rfl ?_
              refine zGo_s (pc' := 171) (st' := [.int (7 : Int32), .ref 1132]) dd263_169 rfl ?_
              obtain ⟨u6, hq, h⟩ := obn0 h
              refine zCV0 (As := [.int (7 : Int32)]) (rest := []) (b := 1132) (q' := q_246) dd263_171 rfl rfl (rcv_m rfl rfl (by decide)) rfl rfl rfl (f246_ok (d := d) (by omega)  hq) ?_
              obtain rfl := ore0 h
              exact zGo_ret dd263_174 rfl rfl
        · refine zIT dd263_143 rfl (kNeT hc) ?_
          refine zGo_s (pc' := 202) (st' := [.int x3]) dd263_201 rfl ?_
          refine zGo_s (pc' := 204) (st' := [.int (20 : Int32), .int x3]) dd263_202 rfl ?_
          rcases oite h with ⟨hc, h⟩ | ⟨hc, h⟩
          · refine zIF dd263_204 (kNeF hc) ?_
            refine zGo_s (pc' := 208) (st' := [.ref 1132]) dd263_207 rfl ?_
            refine zGo_s (pc' := 209) (st' := [.int x1, .ref 1132]) dd263_208 rfl ?_
            refine zGo_s (pc' := 210) (st' := [.ref 1132, .int x1, .ref 1132]) dd263_209 rfl ?_
            obtain ⟨a3, e_a3, c_a3, h⟩ := ordd h
            refine mGR dd263_210 rfl rfl rfl rfl e_a3 ?_
            refine mGF (e := (a3 + 22)) dd263_213 rfl (ck12_s c_a3).1 (ck12_s c_a3).2 rfl (cf12_24 c_a3).1 ?_
            refine zGo_s (pc' := 217) (st' := [.int (4 : Int32), .ref (a3 + 22), .int x1, .ref 1132]) dd263_216 rfl ?_
            refine zGo_s (pc' := 218) (st' := [.int x2, .int (4 : Int32), .ref (a3 + 22), .int x1, .ref 1132]) dd263_217 rfl ?_
            refine zGo_s (pc' := 219) (st' := [.int ((4 : Int32) * x2), .ref (a3 + 22), .int x1, .ref 1132]) dd263_218 rfl ?_
            obtain ⟨hi, h⟩ := ochk h
            refine mIA dd263_219 (cf12_24 c_a3).2.1 (cf12_24 c_a3).2.2 hi ?_
            obtain ⟨v5, u4, hq, h⟩ := obnd h
            refine zCV1 (As := [.int x1, .int (s.1 (a3 + 22) (nx ((4 : Int32) * x2)))]) (rest := []) (b := 1132) (q' := q_243) dd263_220 rfl rfl (rcv_m rfl rfl (by decide)) rfl rfl rfl (f243_ok (d := d) (by omega)  hq) ?_
            refine zGo_s (pc' := 225) (st' := []) (lv' := [(5, .int v5), (4, .int y0), (0, .ref 1132), (1, .int x1), (2, .int x2), (3, .int x3)]) dd263_223 rfl ?_
            refine zGo_s (pc' := 226) (st' := [.ref 1132]) dd263_225 rfl ?_
            refine mGI dd263_226 rfl rfl rfl rfl ?_
            rcases oite h with ⟨hc, h⟩ | ⟨hc, h⟩
            · refine zUF dd263_229 (kNeF hc) ?_
              refine zGo_s (pc' := 234) (st' := [.int v5]) dd263_232 rfl ?_
              refine zGo_s (pc' := 235) (st' := [.int (1 : Int32), .int v5]) dd263_234 rfl ?_
              rcases oite h with ⟨hc, h⟩ | ⟨hc, h⟩
              · refine zIT dd263_235 rfl (kLtT hc) ?_
                exact zGo_lv (lv := [(0, .ref 1132), (1, .int x1), (4, .int y0), (5, .int v5)]) ⟨by simp, by simp, by simp⟩ (f263_245_ok hd h)
              · refine zIF dd263_235 (kLtF hc) ?_
                refine zGo_s (pc' := 240) (st' := [.int v5]) dd263_238 rfl ?_
                refine zGo_s (pc' := 242) (st' := [.int (9 : Int32), .int v5]) dd263_240 rfl ?_
                rcases oite h with ⟨hc, h⟩ | ⟨hc, h⟩
                · refine zIF dd263_242 (kLeF hc) ?_
                  exact zGo_lv (lv := [(0, .ref 1132), (1, .int x1), (4, .int y0), (5, .int v5)]) ⟨by simp, by simp, by simp⟩ (f263_245_ok hd h)
                · refine zIT dd263_242 rfl (kLeT hc) ?_
                  exact zGo_lv (lv := [(0, .ref 1132), (1, .int x1), (4, .int y0), (5, .int v5)]) ⟨by simp, by simp, by simp⟩ (f263_250_ok hd h)
            · refine zUT dd263_229 rfl (kNeT hc) ?_
              exact zGo_lv (lv := [(0, .ref 1132), (1, .int x1), (4, .int y0), (5, .int v5)]) ⟨by simp, by simp, by simp⟩ (f263_250_ok hd h)
          · refine zIT dd263_204 rfl (kNeT hc) ?_
            refine zGo_s (pc' := 293) (st' := [.ref 1132]) dd263_292 rfl ?_
            refine mGF (e := 1240) dd263_293 rfl rfl rfl rfl rfl ?_
            refine zGo_s (pc' := 297) (st' := [.int (2 : Int32), .ref 1240]) dd263_296 rfl ?_
            refine zGo_s (pc' := 299) (st' := [.int y0, .int (2 : Int32), .ref 1240]) dd263_297 rfl ?_
            refine zGo_s (pc' := 300) (st' := [.int ((2 : Int32) * y0), .ref 1240]) dd263_299 rfl ?_
            refine zGo_s (pc' := 301) (st' := [.int (0 : Int32), .int ((2 : Int32) * y0), .ref 1240]) dd263_300 rfl ?_
            obtain ⟨hi, h⟩ := ochk h
            obtain ⟨u1, e_u1, h⟩ := olet h
            refine mBS dd263_301 rfl rfl rfl hi e_u1 ?_
            refine zGo_s (pc' := 303) (st' := [.ref 1132]) dd263_302 rfl ?_
            refine mGF (e := 1240) dd263_303 rfl rfl rfl rfl rfl ?_
            refine zGo_s (pc' := 307) (st' := [.int (2 : Int32), .ref 1240]) dd263_306 rfl ?_
            refine zGo_s (pc' := 309) (st' := [.int y0, .int (2 : Int32), .ref 1240]) dd263_307 rfl ?_
            refine zGo_s (pc' := 310) (st' := [.int ((2 : Int32) * y0), .ref 1240]) dd263_309 rfl ?_
            refine zGo_s (pc' := 311) (st' := [.int (1 : Int32), .int ((2 : Int32) * y0), .ref 1240]) dd263_310 rfl ?_
            refine zGo_s (pc' := 312) (st' := [.int (((2 : Int32) * y0) + (1 : Int32)), .ref 1240]) dd263_311 rfl ?_
            refine zGo_s (pc' := 313) (st' := [.int (0 : Int32), .int (((2 : Int32) * y0) + (1 : Int32)), .ref 1240]) dd263_312 rfl ?_
            obtain ⟨hi, h⟩ := ochk h
            obtain ⟨u2, e_u2, h⟩ := olet h
            refine mBS dd263_313 rfl rfl rfl hi e_u2 ?_
            exact zGo_lv (lv := [(0, .ref 1132), (1, .int x1)]) ⟨by simp, by simp, by simp⟩ (f263_314_ok hd h)
def f263 (n : Nat) (x1 : Int32) (x2 : Int32) (s : zσ) : Option zσ :=
    zrd 12 (s.2.2 1132 11) fun a1 =>
    if zin? x2 200 = true then
    zlet ((s.1 (a1 + 15) (nx x2))) fun v2 =>
    zrd 12 (s.2.2 1132 11) fun a3 =>
    if zin? x2 200 = true then
    if (s.1 (a3 + 19) (nx x2)) = (0 : Int32) then
    zrd 12 (s.2.2 1132 11) fun a4 =>
    if zin? x2 200 = true then
    if (s.1 (a4 + 17) (nx x2)) = (-1 : Int32) then
    f263_63 n x1 x2 v2 x1 s
    else zrd 12 (s.2.2 1132 11) fun a5 =>
    zrd 12 (s.2.2 1132 11) fun a6 =>
    if zin? x2 200 = true then
    if zin? (s.1 (a6 + 17) (nx x2)) 1400 = true then
    f263_63 n x1 x2 v2 (s.1 (a5 + 33) (nx (s.1 (a6 + 17) (nx x2)))) s
    else none
    else none
    else none
    else yb0 (f264 n x1 x2 s) fun u7 =>
    some u7
    else none
    else none
set_option maxRecDepth 20000 in
theorem f263_ok {n d : Nat} {x1 : Int32} {x2 : Int32} {s : zσ} {s2 : zσ} (hd : 27 ≤ d) (h : f263 n x1 x2 s = some s2) {w : zσ} {fz : Bool} {L : Nat} {xs : Nat → Int32} : zGo (zX fz L xs) d q_263 (0, [(0, .ref 1132), (1, .int x1), (2, .int x2)], [], zmk w s, 0, 0) (none, zmk w s2, 0, 0) := by
  obtain ⟨d, rfl⟩ : ∃ d0, d = d0 + 1 := ⟨d - 1, by omega⟩
  unfold f263 at h
  refine zGo_s (pc' := 1) (st' := [.ref 1132]) dd263_0 rfl ?_
  obtain ⟨a1, e_a1, c_a1, h⟩ := ordd h
  refine mGR dd263_1 rfl rfl rfl rfl e_a1 ?_
  refine mGF (e := (a1 + 15)) dd263_4 rfl (ck12_s c_a1).1 (ck12_s c_a1).2 rfl (cf12_17 c_a1).1 ?_
  refine zGo_s (pc' := 8) (st' := [.int x2, .ref (a1 + 15)]) dd263_7 rfl ?_
  obtain ⟨hi, h⟩ := ochk h
  refine mIA dd263_8 (cf12_17 c_a1).2.1 (cf12_17 c_a1).2.2 hi ?_
  obtain ⟨v2, e_v2, h⟩ := olet h
  refine zGo_is1 e_v2 dd263_9 (x' := (10, [(3, .int v2), (0, .ref 1132), (1, .int x1), (2, .int x2)], [], _, _, _)) rfl ?_
  refine zGo_s (pc' := 11) (st' := [.ref 1132]) dd263_10 rfl ?_
  obtain ⟨a3, e_a3, c_a3, h⟩ := ordd h
  refine mGR dd263_11 rfl rfl rfl rfl e_a3 ?_
  refine mGF (e := (a3 + 19)) dd263_14 rfl (ck12_s c_a3).1 (ck12_s c_a3).2 rfl (cf12_21 c_a3).1 ?_
  refine zGo_s (pc' := 18) (st' := [.int x2, .ref (a3 + 19)]) dd263_17 rfl ?_
  obtain ⟨hi, h⟩ := ochk h
  refine mIA dd263_18 (cf12_21 c_a3).2.1 (cf12_21 c_a3).2.2 hi ?_
  rcases oite h with ⟨hc, h⟩ | ⟨hc, h⟩
  · refine zUT dd263_19 rfl (kEqT hc) ?_
    refine zGo_s (pc' := 30) (st' := [.ref 1132]) dd263_29 rfl ?_
    obtain ⟨a4, e_a4, c_a4, h⟩ := ordd h
    refine mGR dd263_30 rfl rfl rfl rfl e_a4 ?_
    refine mGF (e := (a4 + 17)) dd263_33 rfl (ck12_s c_a4).1 (ck12_s c_a4).2 rfl (cf12_19 c_a4).1 ?_
    refine zGo_s (pc' := 37) (st' := [.int x2, .ref (a4 + 17)]) dd263_36 rfl ?_
    obtain ⟨hi, h⟩ := ochk h
    refine mIA dd263_37 (cf12_19 c_a4).2.1 (cf12_19 c_a4).2.2 hi ?_
    refine zGo_s (pc' := 39) (st' := [.int (-1 : Int32), .int (s.1 (a4 + 17) (nx x2))]) dd263_38 rfl ?_
    rcases oite h with ⟨hc, h⟩ | ⟨hc, h⟩
    · refine zIF dd263_39 (kNeF hc) ?_
      refine zGo_s (pc' := 43) (st' := [.int x1]) dd263_42 rfl ?_
      refine zGo_s (pc' := 63) (st' := [.int x1]) dd263_43 rfl ?_
      exact zGo_lv (lv := [(0, .ref 1132), (1, .int x1), (2, .int x2), (3, .int v2)]) ⟨by simp, by simp, by simp⟩ (f263_63_ok hd h)
    · refine zIT dd263_39 rfl (kNeT hc) ?_
      refine zGo_s (pc' := 47) (st' := [.ref 1132]) dd263_46 rfl ?_
      obtain ⟨a5, e_a5, c_a5, h⟩ := ordd h
      refine mGR dd263_47 rfl rfl rfl rfl e_a5 ?_
      refine mGF (e := (a5 + 33)) dd263_50 rfl (ck12_s c_a5).1 (ck12_s c_a5).2 rfl (cf12_39 c_a5).1 ?_
      refine zGo_s (pc' := 54) (st' := [.ref 1132, .ref (a5 + 33)]) dd263_53 rfl ?_
      obtain ⟨a6, e_a6, c_a6, h⟩ := ordd h
      refine mGR dd263_54 rfl rfl rfl rfl e_a6 ?_
      refine mGF (e := (a6 + 17)) dd263_57 rfl (ck12_s c_a6).1 (ck12_s c_a6).2 rfl (cf12_19 c_a6).1 ?_
      refine zGo_s (pc' := 61) (st' := [.int x2, .ref (a6 + 17), .ref (a5 + 33)]) dd263_60 rfl ?_
      obtain ⟨hi, h⟩ := ochk h
      refine mIA dd263_61 (cf12_19 c_a6).2.1 (cf12_19 c_a6).2.2 hi ?_
      obtain ⟨hi, h⟩ := ochk h
      refine mIA dd263_62 (cf12_39 c_a5).2.1 (cf12_39 c_a5).2.2 hi ?_
      exact zGo_lv (lv := [(0, .ref 1132), (1, .int x1), (2, .int x2), (3, .int v2)]) ⟨by simp, by simp, by simp⟩ (f263_63_ok hd h)
  · refine zUF dd263_19 (kEqF hc) ?_
    refine zGo_s (pc' := 23) (st' := [.ref 1132]) dd263_22 rfl ?_
    refine zGo_s (pc' := 24) (st' := [.int x1, .ref 1132]) dd263_23 rfl ?_
    refine zGo_s (pc' := 25) (st' := [.int x2, .int x1, .ref 1132]) dd263_24 rfl ?_
    obtain ⟨u7, hq, h⟩ := obn0 h
    refine zCV0 (As := [.int x1, .int x2]) (rest := []) (b := 1132) (q' := q_264) dd263_25 rfl rfl (rcv_m rfl rfl (by decide)) rfl rfl rfl (f264_ok (d := d) (by omega)  hq) ?_
    obtain rfl := ore0 h
    exact zGo_ret dd263_28 rfl rfl
