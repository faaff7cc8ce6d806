/-! PHModel.begin()I -/
theorem dd208_0 : decode cX13_begin 0 = .ok (.aload_n 0, 1) := by decide +kernel
theorem dd208_1 : decode cX13_begin 1 = .ok (.getfield 553, 3) := by decide +kernel
theorem dd208_4 : decode cX13_begin 4 = .ok (.ifCond .ne 6, 3) := by decide +kernel
theorem dd208_7 : decode cX13_begin 7 = .ok (.bipush (-3), 2) := by decide +kernel
theorem dd208_9 : decode cX13_begin 9 = .ok (.ireturn, 1) := by decide +kernel
theorem dd208_10 : decode cX13_begin 10 = .ok (.aload_n 0, 1) := by decide +kernel
theorem dd208_11 : decode cX13_begin 11 = .ok (.iconst 1, 1) := by decide +kernel
theorem dd208_12 : decode cX13_begin 12 = .ok (.putfield 557, 3) := by decide +kernel
theorem dd208_15 : decode cX13_begin 15 = .ok (.aload_n 0, 1) := by decide +kernel
theorem dd208_16 : decode cX13_begin 16 = .ok (.aload_n 0, 1) := by decide +kernel
theorem dd208_17 : decode cX13_begin 17 = .ok (.getfield 30, 3) := by decide +kernel
theorem dd208_20 : decode cX13_begin 20 = .ok (.putfield 33, 3) := by decide +kernel
theorem dd208_23 : decode cX13_begin 23 = .ok (.aload_n 0, 1) := by decide +kernel
theorem dd208_24 : decode cX13_begin 24 = .ok (.iconst 0, 1) := by decide +kernel
theorem dd208_25 : decode cX13_begin 25 = .ok (.putfield 560, 3) := by decide +kernel
theorem dd208_28 : decode cX13_begin 28 = .ok (.aload_n 0, 1) := by decide +kernel
theorem dd208_29 : decode cX13_begin 29 = .ok (.iconst 0, 1) := by decide +kernel
theorem dd208_30 : decode cX13_begin 30 = .ok (.putfield 562, 3) := by decide +kernel
theorem dd208_33 : decode cX13_begin 33 = .ok (.aload_n 0, 1) := by decide +kernel
theorem dd208_34 : decode cX13_begin 34 = .ok (.iconst 0, 1) := by decide +kernel
theorem dd208_35 : decode cX13_begin 35 = .ok (.putfield 565, 3) := by decide +kernel
theorem dd208_38 : decode cX13_begin 38 = .ok (.aload_n 0, 1) := by decide +kernel
theorem dd208_39 : decode cX13_begin 39 = .ok (.iconst 0, 1) := by decide +kernel
theorem dd208_40 : decode cX13_begin 40 = .ok (.putfield 568, 3) := by decide +kernel
theorem dd208_43 : decode cX13_begin 43 = .ok (.aload_n 0, 1) := by decide +kernel
theorem dd208_44 : decode cX13_begin 44 = .ok (.iconst 0, 1) := by decide +kernel
theorem dd208_45 : decode cX13_begin 45 = .ok (.putfield 571, 3) := by decide +kernel
theorem dd208_48 : decode cX13_begin 48 = .ok (.aload_n 0, 1) := by decide +kernel
theorem dd208_49 : decode cX13_begin 49 = .ok (.iconst 0, 1) := by decide +kernel
theorem dd208_50 : decode cX13_begin 50 = .ok (.putfield 574, 3) := by decide +kernel
theorem dd208_53 : decode cX13_begin 53 = .ok (.aload_n 0, 1) := by decide +kernel
theorem dd208_54 : decode cX13_begin 54 = .ok (.iconst 0, 1) := by decide +kernel
theorem dd208_55 : decode cX13_begin 55 = .ok (.putfield 577, 3) := by decide +kernel
theorem dd208_58 : decode cX13_begin 58 = .ok (.aload_n 0, 1) := by decide +kernel
theorem dd208_59 : decode cX13_begin 59 = .ok (.iconst 0, 1) := by decide +kernel
theorem dd208_60 : decode cX13_begin 60 = .ok (.putfield 580, 3) := by decide +kernel
theorem dd208_63 : decode cX13_begin 63 = .ok (.iconst 0, 1) := by decide +kernel
theorem dd208_64 : decode cX13_begin 64 = .ok (.istore_n 1, 1) := by decide +kernel
theorem dd208_65 : decode cX13_begin 65 = .ok (.iload_n 1, 1) := by decide +kernel
theorem dd208_66 : decode cX13_begin 66 = .ok (.bipush 8, 2) := by decide +kernel
theorem dd208_68 : decode cX13_begin 68 = .ok (.if_icmp .ge 87, 3) := by decide +kernel
theorem dd208_71 : decode cX13_begin 71 = .ok (.aload_n 0, 1) := by decide +kernel
theorem dd208_72 : decode cX13_begin 72 = .ok (.getfield 36, 3) := by decide +kernel
theorem dd208_75 : decode cX13_begin 75 = .ok (.iload_n 1, 1) := by decide +kernel
theorem dd208_76 : decode cX13_begin 76 = .ok (.aload_n 0, 1) := by decide +kernel
theorem dd208_77 : decode cX13_begin 77 = .ok (.getfield 20, 3) := by decide +kernel
theorem dd208_80 : decode cX13_begin 80 = .ok (.getfield 518, 3) := by decide +kernel
theorem dd208_83 : decode cX13_begin 83 = .ok (.iload_n 1, 1) := by decide +kernel
theorem dd208_84 : decode cX13_begin 84 = .ok (.iaload, 1) := by decide +kernel
theorem dd208_85 : decode cX13_begin 85 = .ok (.iastore, 1) := by decide +kernel
theorem dd208_86 : decode cX13_begin 86 = .ok (.aload_n 0, 1) := by decide +kernel
theorem dd208_87 : decode cX13_begin 87 = .ok (.getfield 91, 3) := by decide +kernel
theorem dd208_90 : decode cX13_begin 90 = .ok (.iload_n 1, 1) := by decide +kernel
theorem dd208_91 : decode cX13_begin 91 = .ok (.iconst 0, 1) := by decide +kernel
theorem dd208_92 : decode cX13_begin 92 = .ok (.iastore, 1) := by decide +kernel
theorem dd208_93 : decode cX13_begin 93 = .ok (.aload_n 0, 1) := by decide +kernel
theorem dd208_94 : decode cX13_begin 94 = .ok (.getfield 94, 3) := by decide +kernel
theorem dd208_97 : decode cX13_begin 97 = .ok (.iload_n 1, 1) := by decide +kernel
theorem dd208_98 : decode cX13_begin 98 = .ok (.iconst 0, 1) := by decide +kernel
theorem dd208_99 : decode cX13_begin 99 = .ok (.iastore, 1) := by decide +kernel
theorem dd208_100 : decode cX13_begin 100 = .ok (.aload_n 0, 1) := by decide +kernel
theorem dd208_101 : decode cX13_begin 101 = .ok (.getfield 103, 3) := by decide +kernel
theorem dd208_104 : decode cX13_begin 104 = .ok (.iload_n 1, 1) := by decide +kernel
theorem dd208_105 : decode cX13_begin 105 = .ok (.iconst 0, 1) := by decide +kernel
theorem dd208_106 : decode cX13_begin 106 = .ok (.iastore, 1) := by decide +kernel
theorem dd208_107 : decode cX13_begin 107 = .ok (.aload_n 0, 1) := by decide +kernel
theorem dd208_108 : decode cX13_begin 108 = .ok (.getfield 106, 3) := by decide +kernel
theorem dd208_111 : decode cX13_begin 111 = .ok (.iload_n 1, 1) := by decide +kernel
theorem dd208_112 : decode cX13_begin 112 = .ok (.iconst 0, 1) := by decide +kernel
theorem dd208_113 : decode cX13_begin 113 = .ok (.iastore, 1) := by decide +kernel
theorem dd208_114 : decode cX13_begin 114 = .ok (.aload_n 0, 1) := by decide +kernel
theorem dd208_115 : decode cX13_begin 115 = .ok (.getfield 109, 3) := by decide +kernel
theorem dd208_118 : decode cX13_begin 118 = .ok (.iload_n 1, 1) := by decide +kernel
theorem dd208_119 : decode cX13_begin 119 = .ok (.iconst 0, 1) := by decide +kernel
theorem dd208_120 : decode cX13_begin 120 = .ok (.iastore, 1) := by decide +kernel
theorem dd208_121 : decode cX13_begin 121 = .ok (.aload_n 0, 1) := by decide +kernel
theorem dd208_122 : decode cX13_begin 122 = .ok (.getfield 112, 3) := by decide +kernel
theorem dd208_125 : decode cX13_begin 125 = .ok (.iload_n 1, 1) := by decide +kernel
theorem dd208_126 : decode cX13_begin 126 = .ok (.iconst 0, 1) := by decide +kernel
theorem dd208_127 : decode cX13_begin 127 = .ok (.iastore, 1) := by decide +kernel
theorem dd208_128 : decode cX13_begin 128 = .ok (.aload_n 0, 1) := by decide +kernel
theorem dd208_129 : decode cX13_begin 129 = .ok (.getfield 115, 3) := by decide +kernel
theorem dd208_132 : decode cX13_begin 132 = .ok (.iload_n 1, 1) := by decide +kernel
theorem dd208_133 : decode cX13_begin 133 = .ok (.iconst 0, 1) := by decide +kernel
theorem dd208_134 : decode cX13_begin 134 = .ok (.iastore, 1) := by decide +kernel
theorem dd208_135 : decode cX13_begin 135 = .ok (.aload_n 0, 1) := by decide +kernel
theorem dd208_136 : decode cX13_begin 136 = .ok (.getfield 118, 3) := by decide +kernel
theorem dd208_139 : decode cX13_begin 139 = .ok (.iload_n 1, 1) := by decide +kernel
theorem dd208_140 : decode cX13_begin 140 = .ok (.iconst 0, 1) := by decide +kernel
theorem dd208_141 : decode cX13_begin 141 = .ok (.iastore, 1) := by decide +kernel
theorem dd208_142 : decode cX13_begin 142 = .ok (.aload_n 0, 1) := by decide +kernel
theorem dd208_143 : decode cX13_begin 143 = .ok (.getfield 121, 3) := by decide +kernel
theorem dd208_146 : decode cX13_begin 146 = .ok (.iload_n 1, 1) := by decide +kernel
theorem dd208_147 : decode cX13_begin 147 = .ok (.iconst 0, 1) := by decide +kernel
theorem dd208_148 : decode cX13_begin 148 = .ok (.iastore, 1) := by decide +kernel
theorem dd208_149 : decode cX13_begin 149 = .ok (.iinc 1 1, 3) := by decide +kernel
theorem dd208_152 : decode cX13_begin 152 = .ok (.goto (-87), 3) := by decide +kernel
theorem dd208_155 : decode cX13_begin 155 = .ok (.iconst 0, 1) := by decide +kernel
theorem dd208_156 : decode cX13_begin 156 = .ok (.istore_n 1, 1) := by decide +kernel
theorem dd208_157 : decode cX13_begin 157 = .ok (.iload_n 1, 1) := by decide +kernel
theorem dd208_158 : decode cX13_begin 158 = .ok (.iconst 4, 1) := by decide +kernel
theorem dd208_159 : decode cX13_begin 159 = .ok (.if_icmp .ge 73, 3) := by decide +kernel
theorem dd208_162 : decode cX13_begin 162 = .ok (.aload_n 0, 1) := by decide +kernel
theorem dd208_163 : decode cX13_begin 163 = .ok (.getfield 39, 3) := by decide +kernel
theorem dd208_166 : decode cX13_begin 166 = .ok (.iload_n 1, 1) := by decide +kernel
theorem dd208_167 : decode cX13_begin 167 = .ok (.iconst (-1), 1) := by decide +kernel
theorem dd208_168 : decode cX13_begin 168 = .ok (.iastore, 1) := by decide +kernel
theorem dd208_169 : decode cX13_begin 169 = .ok (.aload_n 0, 1) := by decide +kernel
theorem dd208_170 : decode cX13_begin 170 = .ok (.getfield 48, 3) := by decide +kernel
theorem dd208_173 : decode cX13_begin 173 = .ok (.iload_n 1, 1) := by decide +kernel
theorem dd208_174 : decode cX13_begin 174 = .ok (.aload_n 0, 1) := by decide +kernel
theorem dd208_175 : decode cX13_begin 175 = .ok (.getfield 20, 3) := by decide +kernel
theorem dd208_178 : decode cX13_begin 178 = .ok (.getfield 526, 3) := by decide +kernel
theorem dd208_181 : decode cX13_begin 181 = .ok (.iload_n 1, 1) := by decide +kernel
theorem dd208_182 : decode cX13_begin 182 = .ok (.iaload, 1) := by decide +kernel
theorem dd208_183 : decode cX13_begin 183 = .ok (.iastore, 1) := by decide +kernel
theorem dd208_184 : decode cX13_begin 184 = .ok (.aload_n 0, 1) := by decide +kernel
theorem dd208_185 : decode cX13_begin 185 = .ok (.getfield 51, 3) := by decide +kernel
theorem dd208_188 : decode cX13_begin 188 = .ok (.iload_n 1, 1) := by decide +kernel
theorem dd208_189 : decode cX13_begin 189 = .ok (.iconst (-1), 1) := by decide +kernel
theorem dd208_190 : decode cX13_begin 190 = .ok (.iastore, 1) := by decide +kernel
theorem dd208_191 : decode cX13_begin 191 = .ok (.aload_n 0, 1) := by decide +kernel
theorem dd208_192 : decode cX13_begin 192 = .ok (.getfield 57, 3) := by decide +kernel
theorem dd208_195 : decode cX13_begin 195 = .ok (.iload_n 1, 1) := by decide +kernel
theorem dd208_196 : decode cX13_begin 196 = .ok (.iconst 1, 1) := by decide +kernel
theorem dd208_197 : decode cX13_begin 197 = .ok (.bastore, 1) := by decide +kernel
theorem dd208_198 : decode cX13_begin 198 = .ok (.aload_n 0, 1) := by decide +kernel
theorem dd208_199 : decode cX13_begin 199 = .ok (.getfield 61, 3) := by decide +kernel
theorem dd208_202 : decode cX13_begin 202 = .ok (.iload_n 1, 1) := by decide +kernel
theorem dd208_203 : decode cX13_begin 203 = .ok (.iconst 0, 1) := by decide +kernel
theorem dd208_204 : decode cX13_begin 204 = .ok (.bastore, 1) := by decide +kernel
theorem dd208_205 : decode cX13_begin 205 = .ok (.aload_n 0, 1) := by decide +kernel
theorem dd208_206 : decode cX13_begin 206 = .ok (.getfield 64, 3) := by decide +kernel
theorem dd208_209 : decode cX13_begin 209 = .ok (.iload_n 1, 1) := by decide +kernel
theorem dd208_210 : decode cX13_begin 210 = .ok (.iconst 0, 1) := by decide +kernel
theorem dd208_211 : decode cX13_begin 211 = .ok (.iastore, 1) := by decide +kernel
theorem dd208_212 : decode cX13_begin 212 = .ok (.aload_n 0, 1) := by decide +kernel
theorem dd208_213 : decode cX13_begin 213 = .ok (.getfield 70, 3) := by decide +kernel
theorem dd208_216 : decode cX13_begin 216 = .ok (.iload_n 1, 1) := by decide +kernel
theorem dd208_217 : decode cX13_begin 217 = .ok (.iconst 0, 1) := by decide +kernel
theorem dd208_218 : decode cX13_begin 218 = .ok (.iastore, 1) := by decide +kernel
theorem dd208_219 : decode cX13_begin 219 = .ok (.aload_n 0, 1) := by decide +kernel
theorem dd208_220 : decode cX13_begin 220 = .ok (.getfield 76, 3) := by decide +kernel
theorem dd208_223 : decode cX13_begin 223 = .ok (.iload_n 1, 1) := by decide +kernel
theorem dd208_224 : decode cX13_begin 224 = .ok (.iconst 0, 1) := by decide +kernel
theorem dd208_225 : decode cX13_begin 225 = .ok (.iastore, 1) := by decide +kernel
theorem dd208_226 : decode cX13_begin 226 = .ok (.iinc 1 1, 3) := by decide +kernel
theorem dd208_229 : decode cX13_begin 229 = .ok (.goto (-72), 3) := by decide +kernel
theorem dd208_232 : decode cX13_begin 232 = .ok (.iconst 0, 1) := by decide +kernel
theorem dd208_233 : decode cX13_begin 233 = .ok (.istore_n 1, 1) := by decide +kernel
theorem dd208_234 : decode cX13_begin 234 = .ok (.iload_n 1, 1) := by decide +kernel
theorem dd208_235 : decode cX13_begin 235 = .ok (.bipush 32, 2) := by decide +kernel
theorem dd208_237 : decode cX13_begin 237 = .ok (.if_icmp .ge 16, 3) := by decide +kernel
theorem dd208_240 : decode cX13_begin 240 = .ok (.aload_n 0, 1) := by decide +kernel
theorem dd208_241 : decode cX13_begin 241 = .ok (.getfield 54, 3) := by decide +kernel
theorem dd208_244 : decode cX13_begin 244 = .ok (.iload_n 1, 1) := by decide +kernel
theorem dd208_245 : decode cX13_begin 245 = .ok (.iconst 0, 1) := by decide +kernel
theorem dd208_246 : decode cX13_begin 246 = .ok (.iastore, 1) := by decide +kernel
theorem dd208_247 : decode cX13_begin 247 = .ok (.iinc 1 1, 3) := by decide +kernel
theorem dd208_250 : decode cX13_begin 250 = .ok (.goto (-16), 3) := by decide +kernel
theorem dd208_253 : decode cX13_begin 253 = .ok (.iconst 0, 1) := by decide +kernel
theorem dd208_254 : decode cX13_begin 254 = .ok (.istore_n 1, 1) := by decide +kernel
theorem dd208_255 : decode cX13_begin 255 = .ok (.iload_n 1, 1) := by decide +kernel
theorem dd208_256 : decode cX13_begin 256 = .ok (.bipush 16, 2) := by decide +kernel
theorem dd208_258 : decode cX13_begin 258 = .ok (.if_icmp .ge 16, 3) := by decide +kernel
theorem dd208_261 : decode cX13_begin 261 = .ok (.aload_n 0, 1) := by decide +kernel
theorem dd208_262 : decode cX13_begin 262 = .ok (.getfield 136, 3) := by decide +kernel
theorem dd208_265 : decode cX13_begin 265 = .ok (.iload_n 1, 1) := by decide +kernel
theorem dd208_266 : decode cX13_begin 266 = .ok (.iconst 0, 1) := by decide +kernel
theorem dd208_267 : decode cX13_begin 267 = .ok (.bastore, 1) := by decide +kernel
theorem dd208_268 : decode cX13_begin 268 = .ok (.iinc 1 1, 3) := by decide +kernel
theorem dd208_271 : decode cX13_begin 271 = .ok (.goto (-16), 3) := by decide +kernel
theorem dd208_274 : decode cX13_begin 274 = .ok (.iconst 0, 1) := by decide +kernel
theorem dd208_275 : decode cX13_begin 275 = .ok (.istore_n 1, 1) := by decide +kernel
theorem dd208_276 : decode cX13_begin 276 = .ok (.iload_n 1, 1) := by decide +kernel
theorem dd208_277 : decode cX13_begin 277 = .ok (.aload_n 0, 1) := by decide +kernel
theorem dd208_278 : decode cX13_begin 278 = .ok (.invokevirtual 583, 3) := by decide +kernel
theorem dd208_281 : decode cX13_begin 281 = .ok (.if_icmp .ge 26, 3) := by decide +kernel
theorem dd208_284 : decode cX13_begin 284 = .ok (.aload_n 0, 1) := by decide +kernel
theorem dd208_285 : decode cX13_begin 285 = .ok (.getfield 20, 3) := by decide +kernel
theorem dd208_288 : decode cX13_begin 288 = .ok (.getfield 534, 3) := by decide +kernel
theorem dd208_291 : decode cX13_begin 291 = .ok (.iload_n 1, 1) := by decide +kernel
theorem dd208_292 : decode cX13_begin 292 = .ok (.baload, 1) := by decide +kernel
theorem dd208_293 : decode cX13_begin 293 = .ok (.ifCond .eq 8, 3) := by decide +kernel
theorem dd208_296 : decode cX13_begin 296 = .ok (.aload_n 0, 1) := by decide +kernel
theorem dd208_297 : decode cX13_begin 297 = .ok (.iload_n 1, 1) := by decide +kernel
theorem dd208_298 : decode cX13_begin 298 = .ok (.invokevirtual 586, 3) := by decide +kernel
theorem dd208_301 : decode cX13_begin 301 = .ok (.iinc 1 1, 3) := by decide +kernel
theorem dd208_304 : decode cX13_begin 304 = .ok (.goto (-28), 3) := by decide +kernel
theorem dd208_307 : decode cX13_begin 307 = .ok (.aload_n 0, 1) := by decide +kernel
theorem dd208_308 : decode cX13_begin 308 = .ok (.invokevirtual 588, 3) := by decide +kernel
theorem dd208_311 : decode cX13_begin 311 = .ok (.ireturn, 1) := by decide +kernel
def f208_301 (n : Nat) (r276 : Int32 → zσ → Option (Int32 × zσ)) (x1 : Int32) (s : zσ) : Option (Int32 × zσ) :=
    r276 (x1 + (1 : Int32)) s
set_option maxRecDepth 20000 in
theorem f208_301_ok {n d : Nat} {r276 : Int32 → zσ → Option (Int32 × zσ)} {x1 : Int32} {s : zσ} {v : Int32} {s2 : zσ} (hd : 27 ≤ d) (hr276 : ∀ (x1 : Int32) (s : zσ) (v : Int32) (s2 : zσ), r276 x1 s = some (v, s2) → ∀ {w : zσ} {fz : Bool} {L : Nat} {xs : Nat → Int32}, zGo (zX fz L xs) d q_208 (276, [(0, .ref 1132), (1, .int x1)], [], zmk w s, 0, 0) (some (.int v), zmk w s2, 0, 0)) (h : f208_301 n r276 x1 s = some (v, s2)) {w : zσ} {fz : Bool} {L : Nat} {xs : Nat → Int32} : zGo (zX fz L xs) d q_208 (301, [(0, .ref 1132), (1, .int x1)], [], zmk w s, 0, 0) (some (.int v), zmk w s2, 0, 0) := by
  obtain ⟨d, rfl⟩ : ∃ d0, d = d0 + 1 := ⟨d - 1, by omega⟩
  unfold f208_301 at h
  refine zGo_s (pc' := 304) (st' := []) (lv' := [(1, .int (x1 + (1 : Int32))), (0, .ref 1132)]) dd208_301 rfl ?_
  refine zGo_s (pc' := 276) (st' := []) dd208_304 rfl ?_
  exact zGo_lv (lv := [(0, .ref 1132), (1, .int (x1 + (1 : Int32)))]) ⟨by simp, by simp, by simp⟩ (hr276 _ _ _ _ h)
def f208_276 (n : Nat) : Nat → Int32 → zσ → Option (Int32 × zσ)
  | 0, _, _ => none
  | j + 1, x1, s =>
    yb1 (f209 n s) fun v2 u1 =>
    if x1 < v2 then
    zrd 12 (u1.2.2 1132 11) fun a5 =>
    if zin? x1 8 = true then
    if (u1.1 (a5 + 9) (nx x1)) = (0 : Int32) then
    f208_301 n (f208_276 n j) x1 u1
    else yb0 (f210 n x1 u1) fun u6 =>
    f208_301 n (f208_276 n j) x1 u6
    else none
    else yb1 (f220 n u1) fun v4 u3 =>
    some (v4, u3)
set_option maxRecDepth 20000 in
theorem f208_276_ok {n d : Nat} (hd : 27 ≤ d) : ∀ (j : Nat) (x1 : Int32) (s : zσ) (v : Int32) (s2 : zσ), f208_276 n j x1 s = some (v, s2) → ∀ {w : zσ} {fz : Bool} {L : Nat} {xs : Nat → Int32}, zGo (zX fz L xs) d q_208 (276, [(0, .ref 1132), (1, .int x1)], [], zmk w s, 0, 0) (some (.int v), zmk w s2, 0, 0) := by
  obtain ⟨d, rfl⟩ : ∃ d0, d = d0 + 1 := ⟨d - 1, by omega⟩
  intro j
  induction j with
  | zero => intro x1 s v s2 h; cases h
  | succ j ih =>
    intro x1 s v s2 h w fz L xs
    rw [f208_276] at h
    refine zGo_s (pc' := 277) (st' := [.int x1]) dd208_276 rfl ?_
    refine zGo_s (pc' := 278) (st' := [.ref 1132, .int x1]) dd208_277 rfl ?_
    obtain ⟨v2, u1, hq, h⟩ := obnd h
    refine zCV1 (As := []) (rest := [.int x1]) (b := 1132) (q' := q_209) dd208_278 rfl rfl (rcv_m rfl rfl (by decide)) rfl rfl rfl (f209_ok (d := d) (by omega)  hq) ?_
    rcases oite h with ⟨hc, h⟩ | ⟨hc, h⟩
    · refine zIF dd208_281 (kGeF hc) ?_
      refine zGo_s (pc' := 285) (st' := [.ref 1132]) dd208_284 rfl ?_
      obtain ⟨a5, e_a5, c_a5, h⟩ := ordd h
      refine mGR dd208_285 rfl rfl rfl rfl e_a5 ?_
      refine mGF (e := (a5 + 9)) dd208_288 rfl (ck12_s c_a5).1 (ck12_s c_a5).2 rfl (cf12_9 c_a5).1 ?_
      refine zGo_s (pc' := 292) (st' := [.int x1, .ref (a5 + 9)]) dd208_291 rfl ?_
      obtain ⟨hi, h⟩ := ochk h
      refine mBA dd208_292 (cf12_9 c_a5).2.1 (cf12_9 c_a5).2.2 rfl hi ?_
      rcases oite h with ⟨hc, h⟩ | ⟨hc, h⟩
      · refine zUT dd208_293 rfl (kEqT hc) ?_
        exact f208_301_ok hd ih h
      · refine zUF dd208_293 (kEqF hc) ?_
        refine zGo_s (pc' := 297) (st' := [.ref 1132]) dd208_296 rfl ?_
        refine zGo_s (pc' := 298) (st' := [.int x1, .ref 1132]) dd208_297 rfl ?_
        obtain ⟨u6, hq, h⟩ := obn0 h
        refine zCV0 (As := [.int x1]) (rest := []) (b := 1132) (q' := q_210) dd208_298 rfl rfl (rcv_m rfl rfl (by decide)) rfl rfl rfl (f210_ok (d := d) (by omega)  hq) ?_
        exact f208_301_ok hd ih h
    · refine zIT dd208_281 rfl (kGeT hc) ?_
      refine zGo_s (pc' := 308) (st' := [.ref 1132]) dd208_307 rfl ?_
      obtain ⟨v4, u3, hq, h⟩ := obnd h
      refine zCV1 (As := []) (rest := []) (b := 1132) (q' := q_220) dd208_308 rfl rfl (rcv_m rfl rfl (by decide)) rfl rfl rfl (f220_ok (d := d) (by omega)  hq) ?_
      obtain ⟨rfl, rfl⟩ := oret h
      exact zGo_ret dd208_311 rfl rfl
def f208_255 (n : Nat) : Nat → Int32 → zσ → Option (Int32 × zσ)
  | 0, _, _ => none
  | j + 1, x1, s =>
    if x1 < (16 : Int32) then
    if zin? x1 16 = true then
    zlet (sI s 1240 (nx x1) (vp_nar .boolean (0 : Int32))) fun u1 =>
    f208_255 n j (x1 + (1 : Int32)) u1
    else none
    else f208_276 n n (0 : Int32) s
set_option maxRecDepth 20000 in
theorem f208_255_ok {n d : Nat} (hd : 27 ≤ d) : ∀ (j : Nat) (x1 : Int32) (s : zσ) (v : Int32) (s2 : zσ), f208_255 n j x1 s = some (v, s2) → ∀ {w : zσ} {fz : Bool} {L : Nat} {xs : Nat → Int32}, zGo (zX fz L xs) d q_208 (255, [(0, .ref 1132), (1, .int x1)], [], zmk w s, 0, 0) (some (.int v), zmk w s2, 0, 0) := by
  obtain ⟨d, rfl⟩ : ∃ d0, d = d0 + 1 := ⟨d - 1, by omega⟩
  intro j
  induction j with
  | zero => intro x1 s v s2 h; cases h
  | succ j ih =>
    intro x1 s v s2 h w fz L xs
    rw [f208_255] at h
    refine zGo_s (pc' := 256) (st' := [.int x1]) dd208_255 rfl ?_
    refine zGo_s (pc' := 258) (st' := [.int (16 : Int32), .int x1]) dd208_256 rfl ?_
    rcases oite h with ⟨hc, h⟩ | ⟨hc, h⟩
    · refine zIF dd208_258 (kGeF hc) ?_
      refine zGo_s (pc' := 262) (st' := [.ref 1132]) dd208_261 rfl ?_
      refine mGF (e := 1240) dd208_262 rfl rfl rfl rfl rfl ?_
      refine zGo_s (pc' := 266) (st' := [.int x1, .ref 1240]) dd208_265 rfl ?_
      refine zGo_s (pc' := 267) (st' := [.int (0 : Int32), .int x1, .ref 1240]) dd208_266 rfl ?_
      obtain ⟨hi, h⟩ := ochk h
      obtain ⟨u1, e_u1, h⟩ := olet h
      refine mBS dd208_267 rfl rfl rfl hi e_u1 ?_
      refine zGo_s (pc' := 271) (st' := []) (lv' := [(1, .int (x1 + (1 : Int32))), (0, .ref 1132)]) dd208_268 rfl ?_
      refine zGo_s (pc' := 255) (st' := []) dd208_271 rfl ?_
      exact zGo_lv (lv := [(0, .ref 1132), (1, .int (x1 + (1 : Int32)))]) ⟨by simp, by simp, by simp⟩ (ih _ _ _ _ h)
    · refine zIT dd208_258 rfl (kGeT hc) ?_
      refine zGo_s (pc' := 275) (st' := [.int (0 : Int32)]) dd208_274 rfl ?_
      refine zGo_s (pc' := 276) (st' := []) (lv' := [(1, .int (0 : Int32)), (0, .ref 1132)]) dd208_275 rfl ?_
      exact zGo_lv (lv := [(0, .ref 1132), (1, .int (0 : Int32))]) ⟨by simp, by simp, by simp⟩ (f208_276_ok hd _ _ _ _ _ h)
def f208_234 (n : Nat) : Nat → Int32 → zσ → Option (Int32 × zσ)
  | 0, _, _ => none
  | j + 1, x1, s =>
    if x1 < (32 : Int32) then
    if zin? x1 32 = true then
    zlet (sI s 1213 (nx x1) (0 : Int32)) fun u1 =>
    f208_234 n j (x1 + (1 : Int32)) u1
    else none
    else f208_255 n n (0 : Int32) s
set_option maxRecDepth 20000 in
theorem f208_234_ok {n d : Nat} (hd : 27 ≤ d) : ∀ (j : Nat) (x1 : Int32) (s : zσ) (v : Int32) (s2 : zσ), f208_234 n j x1 s = some (v, s2) → ∀ {w : zσ} {fz : Bool} {L : Nat} {xs : Nat → Int32}, zGo (zX fz L xs) d q_208 (234, [(0, .ref 1132), (1, .int x1)], [], zmk w s, 0, 0) (some (.int v), zmk w s2, 0, 0) := by
  obtain ⟨d, rfl⟩ : ∃ d0, d = d0 + 1 := ⟨d - 1, by omega⟩
  intro j
  induction j with
  | zero => intro x1 s v s2 h; cases h
  | succ j ih =>
    intro x1 s v s2 h w fz L xs
    rw [f208_234] at h
    refine zGo_s (pc' := 235) (st' := [.int x1]) dd208_234 rfl ?_
    refine zGo_s (pc' := 237) (st' := [.int (32 : Int32), .int x1]) dd208_235 rfl ?_
    rcases oite h with ⟨hc, h⟩ | ⟨hc, h⟩
    · refine zIF dd208_237 (kGeF hc) ?_
      refine zGo_s (pc' := 241) (st' := [.ref 1132]) dd208_240 rfl ?_
      refine mGF (e := 1213) dd208_241 rfl rfl rfl rfl rfl ?_
      refine zGo_s (pc' := 245) (st' := [.int x1, .ref 1213]) dd208_244 rfl ?_
      refine zGo_s (pc' := 246) (st' := [.int (0 : Int32), .int x1, .ref 1213]) dd208_245 rfl ?_
      obtain ⟨hi, h⟩ := ochk h
      obtain ⟨u1, e_u1, h⟩ := olet h
      refine mIS dd208_246 rfl rfl hi e_u1 ?_
      refine zGo_s (pc' := 250) (st' := []) (lv' := [(1, .int (x1 + (1 : Int32))), (0, .ref 1132)]) dd208_247 rfl ?_
      refine zGo_s (pc' := 234) (st' := []) dd208_250 rfl ?_
      exact zGo_lv (lv := [(0, .ref 1132), (1, .int (x1 + (1 : Int32)))]) ⟨by simp, by simp, by simp⟩ (ih _ _ _ _ h)
    · refine zIT dd208_237 rfl (kGeT hc) ?_
      refine zGo_s (pc' := 254) (st' := [.int (0 : Int32)]) dd208_253 rfl ?_
      refine zGo_s (pc' := 255) (st' := []) (lv' := [(1, .int (0 : Int32)), (0, .ref 1132)]) dd208_254 rfl ?_
      exact zGo_lv (lv := [(0, .ref 1132), (1, .int (0 : Int32))]) ⟨by simp, by simp, by simp⟩ (f208_255_ok hd _ _ _ _ _ h)
def f208_157 (n : Nat) : Nat → Int32 → zσ → Option (Int32 × zσ)
  | 0, _, _ => none
  | j + 1, x1, s =>
    if x1 < (4 : Int32) then
    if zin? x1 4 = true then
    zlet (sI s 1208 (nx x1) (-1 : Int32)) fun u1 =>
    zrd 12 (u1.2.2 1132 11) fun a2 =>
    if zin? x1 4 = true then
    if zin? x1 4 = true then
    zlet (sI u1 1211 (nx x1) (u1.1 (a2 + 6) (nx x1))) fun u3 =>
    if zin? x1 4 = true then
    zlet (sI u3 1212 (nx x1) (-1 : Int32)) fun u4 =>
    if zin? x1 4 = true then
    zlet (sI u4 1214 (nx x1) (vp_nar .boolean (1 : Int32))) fun u5 =>
    if zin? x1 4 = true then
    zlet (sI u5 1215 (nx x1) (vp_nar .boolean (0 : Int32))) fun u6 =>
    if zin? x1 4 = true then
    zlet (sI u6 1216 (nx x1) (0 : Int32)) fun u7 =>
    if zin? x1 4 = true then
    zlet (sI u7 1218 (nx x1) (0 : Int32)) fun u8 =>
    if zin? x1 4 = true then
    zlet (sI u8 1220 (nx x1) (0 : Int32)) fun u9 =>
    f208_157 n j (x1 + (1 : Int32)) u9
    else none
    else none
    else none
    else none
    else none
    else none
    else none
    else none
    else none
    else f208_234 n n (0 : Int32) s
set_option maxRecDepth 20000 in
theorem f208_157_ok {n d : Nat} (hd : 27 ≤ d) : ∀ (j : Nat) (x1 : Int32) (s : zσ) (v : Int32) (s2 : zσ), f208_157 n j x1 s = some (v, s2) → ∀ {w : zσ} {fz : Bool} {L : Nat} {xs : Nat → Int32}, zGo (zX fz L xs) d q_208 (157, [(0, .ref 1132), (1, .int x1)], [], zmk w s, 0, 0) (some (.int v), zmk w s2, 0, 0) := by
  obtain ⟨d, rfl⟩ : ∃ d0, d = d0 + 1 := ⟨d - 1, by omega⟩
  intro j
  induction j with
  | zero => intro x1 s v s2 h; cases h
  | succ j ih =>
    intro x1 s v s2 h w fz L xs
    rw [f208_157] at h
    refine zGo_s (pc' := 158) (st' := [.int x1]) dd208_157 rfl ?_
    refine zGo_s (pc' := 159) (st' := [.int (4 : Int32), .int x1]) dd208_158 rfl ?_
    rcases oite h with ⟨hc, h⟩ | ⟨hc, h⟩
    · refine zIF dd208_159 (kGeF hc) ?_
      refine zGo_s (pc' := 163) (st' := [.ref 1132]) dd208_162 rfl ?_
      refine mGF (e := 1208) dd208_163 rfl rfl rfl rfl rfl ?_
      refine zGo_s (pc' := 167) (st' := [.int x1, .ref 1208]) dd208_166 rfl ?_
      refine zGo_s (pc' := 168) (st' := [.int (-1 : Int32), .int x1, .ref 1208]) dd208_167 rfl ?_
      obtain ⟨hi, h⟩ := ochk h
      obtain ⟨u1, e_u1, h⟩ := olet h
      refine mIS dd208_168 rfl rfl hi e_u1 ?_
      refine zGo_s (pc' := 170) (st' := [.ref 1132]) dd208_169 rfl ?_
      refine mGF (e := 1211) dd208_170 rfl rfl rfl rfl rfl ?_
      refine zGo_s (pc' := 174) (st' := [.int x1, .ref 1211]) dd208_173 rfl ?_
      refine zGo_s (pc' := 175) (st' := [.ref 1132, .int x1, .ref 1211]) dd208_174 rfl ?_
      obtain ⟨a2, e_a2, c_a2, h⟩ := ordd h
      refine mGR dd208_175 rfl rfl rfl rfl e_a2 ?_
      refine mGF (e := (a2 + 6)) dd208_178 rfl (ck12_s c_a2).1 (ck12_s c_a2).2 rfl (cf12_6 c_a2).1 ?_
      refine zGo_s (pc' := 182) (st' := [.int x1, .ref (a2 + 6), .int x1, .ref 1211]) dd208_181 rfl ?_
      obtain ⟨hi, h⟩ := ochk h
      refine mIA dd208_182 (cf12_6 c_a2).2.1 (cf12_6 c_a2).2.2 hi ?_
      obtain ⟨hi, h⟩ := ochk h
      obtain ⟨u3, e_u3, h⟩ := olet h
      refine mIS dd208_183 rfl rfl hi e_u3 ?_
      refine zGo_s (pc' := 185) (st' := [.ref 1132]) dd208_184 rfl ?_
      refine mGF (e := 1212) dd208_185 rfl rfl rfl rfl rfl ?_
      refine zGo_s (pc' := 189) (st' := [.int x1, .ref 1212]) dd208_188 rfl ?_
      refine zGo_s (pc' := 190) (st' := [.int (-1 : Int32), .int x1, .ref 1212]) dd208_189 rfl ?_
      obtain ⟨hi, h⟩ := ochk h
      obtain ⟨u4, e_u4, h⟩ := olet h
      refine mIS dd208_190 rfl rfl hi e_u4 ?_
      refine zGo_s (pc' := 192) (st' := [.ref 1132]) dd208_191 rfl ?_
      refine mGF (e := 1214) dd208_192 rfl rfl rfl rfl rfl ?_
      refine zGo_s (pc' := 196) (st' := [.int x1, .ref 1214]) dd208_195 rfl ?_
      refine zGo_s (pc' := 197) (st' := [.int (1 : Int32), .int x1, .ref 1214]) dd208_196 rfl ?_
      obtain ⟨hi, h⟩ := ochk h
      obtain ⟨u5, e_u5, h⟩ := olet h
      refine mBS dd208_197 rfl rfl rfl hi e_u5 ?_
      refine zGo_s (pc' := 199) (st' := [.ref 1132]) dd208_198 rfl ?_
      refine mGF (e := 1215) dd208_199 rfl rfl rfl rfl rfl ?_
      refine zGo_s (pc' := 203) (st' := [.int x1, .ref 1215]) dd208_202 rfl ?_
      refine zGo_s (pc' := 204) (st' := [.int (0 : Int32), .int x1, .ref 1215]) dd208_203 rfl ?_
      obtain ⟨hi, h⟩ := ochk h
      obtain ⟨u6, e_u6, h⟩ := olet h
      refine mBS dd208_204 rfl rfl rfl hi e_u6 ?_
      refine zGo_s (pc' := 206) (st' := [.ref 1132]) dd208_205 rfl ?_
      refine mGF (e := 1216) dd208_206 rfl rfl rfl rfl rfl ?_
      refine zGo_s (pc' := 210) (st' := [.int x1, .ref 1216]) dd208_209 rfl ?_
      refine zGo_s (pc' := 211) (st' := [.int (0 : Int32), .int x1, .ref 1216]) dd208_210 rfl ?_
      obtain ⟨hi, h⟩ := ochk h
      obtain ⟨u7, e_u7, h⟩ := olet h
      refine mIS dd208_211 rfl rfl hi e_u7 ?_
      refine zGo_s (pc' := 213) (st' := [.ref 1132]) dd208_212 rfl ?_
      refine mGF (e := 1218) dd208_213 rfl rfl rfl rfl rfl ?_
      refine zGo_s (pc' := 217) (st' := [.int x1, .ref 1218]) dd208_216 rfl ?_
      refine zGo_s (pc' := 218) (st' := [.int (0 : Int32), .int x1, .ref 1218]) dd208_217 rfl ?_
      obtain ⟨hi, h⟩ := ochk h
      obtain ⟨u8, e_u8, h⟩ := olet h
      refine mIS dd208_218 rfl rfl hi e_u8 ?_
      refine zGo_s (pc' := 220) (st' := [.ref 1132]) dd208_219 rfl ?_
      refine mGF (e := 1220) dd208_220 rfl rfl rfl rfl rfl ?_
      refine zGo_s (pc' := 224) (st' := [.int x1, .ref 1220]) dd208_223 rfl ?_
      refine zGo_s (pc' := 225) (st' := [.int (0 : Int32), .int x1, .ref 1220]) dd208_224 rfl ?_
      obtain ⟨hi, h⟩ := ochk h
      obtain ⟨u9, e_u9, h⟩ := olet h
      refine mIS dd208_225 rfl rfl hi e_u9 ?_
      refine zGo_s (pc' := 229) (st' := []) (lv' := [(1, .int (x1 + (1 : Int32))), (0, .ref 1132)]) dd208_226 rfl ?_
      refine zGo_s (pc' := 157) (st' := []) dd208_229 rfl ?_
      exact zGo_lv (lv := [(0, .ref 1132), (1, .int (x1 + (1 : Int32)))]) ⟨by simp, by simp, by simp⟩ (ih _ _ _ _ h)
    · refine zIT dd208_159 rfl (kGeT hc) ?_
      refine zGo_s (pc' := 233) (st' := [.int (0 : Int32)]) dd208_232 rfl ?_
      refine zGo_s (pc' := 234) (st' := []) (lv' := [(1, .int (0 : Int32)), (0, .ref 1132)]) dd208_233 rfl ?_
      exact zGo_lv (lv := [(0, .ref 1132), (1, .int (0 : Int32))]) ⟨by simp, by simp, by simp⟩ (f208_234_ok hd _ _ _ _ _ h)
def f208_65 (n : Nat) : Nat → Int32 → zσ → Option (Int32 × zσ)
  | 0, _, _ => none
  | j + 1, x1, s =>
    if x1 < (8 : Int32) then
    zrd 12 (s.2.2 1132 11) fun a1 =>
    if zin? x1 8 = true then
    if zin? x1 8 = true then
    zlet (sI s 1207 (nx x1) (s.1 (a1 + 5) (nx x1))) fun u2 =>
    if zin? x1 8 = true then
    zlet (sI u2 1225 (nx x1) (0 : Int32)) fun u3 =>
    if zin? x1 8 = true then
    zlet (sI u3 1226 (nx x1) (0 : Int32)) fun u4 =>
    if zin? x1 8 = true then
    zlet (sI u4 1229 (nx x1) (0 : Int32)) fun u5 =>
    if zin? x1 8 = true then
    zlet (sI u5 1230 (nx x1) (0 : Int32)) fun u6 =>
    if zin? x1 8 = true then
    zlet (sI u6 1231 (nx x1) (0 : Int32)) fun u7 =>
    if zin? x1 8 = true then
    zlet (sI u7 1232 (nx x1) (0 : Int32)) fun u8 =>
    if zin? x1 8 = true then
    zlet (sI u8 1233 (nx x1) (0 : Int32)) fun u9 =>
    if zin? x1 8 = true then
    zlet (sI u9 1234 (nx x1) (0 : Int32)) fun u10 =>
    if zin? x1 8 = true then
    zlet (sI u10 1235 (nx x1) (0 : Int32)) fun u11 =>
    f208_65 n j (x1 + (1 : Int32)) u11
    else none
    else none
    else none
    else none
    else none
    else none
    else none
    else none
    else none
    else none
    else none
    else f208_157 n n (0 : Int32) s
set_option maxRecDepth 20000 in
theorem f208_65_ok {n d : Nat} (hd : 27 ≤ d) : ∀ (j : Nat) (x1 : Int32) (s : zσ) (v : Int32) (s2 : zσ), f208_65 n j x1 s = some (v, s2) → ∀ {w : zσ} {fz : Bool} {L : Nat} {xs : Nat → Int32}, zGo (zX fz L xs) d q_208 (65, [(0, .ref 1132), (1, .int x1)], [], zmk w s, 0, 0) (some (.int v), zmk w s2, 0, 0) := by
  obtain ⟨d, rfl⟩ : ∃ d0, d = d0 + 1 := ⟨d - 1, by omega⟩
  intro j
  induction j with
  | zero => intro x1 s v s2 h; cases h
  | succ j ih =>
    intro x1 s v s2 h w fz L xs
    rw [f208_65] at h
    refine zGo_s (pc' := 66) (st' := [.int x1]) dd208_65 rfl ?_
    refine zGo_s (pc' := 68) (st' := [.int (8 : Int32), .int x1]) dd208_66 rfl ?_
    rcases oite h with ⟨hc, h⟩ | ⟨hc, h⟩
    · refine zIF dd208_68 (kGeF hc) ?_
      refine zGo_s (pc' := 72) (st' := [.ref 1132]) dd208_71 rfl ?_
      refine mGF (e := 1207) dd208_72 rfl rfl rfl rfl rfl ?_
      refine zGo_s (pc' := 76) (st' := [.int x1, .ref 1207]) dd208_75 rfl ?_
      refine zGo_s (pc' := 77) (st' := [.ref 1132, .int x1, .ref 1207]) dd208_76 rfl ?_
      obtain ⟨a1, e_a1, c_a1, h⟩ := ordd h
      refine mGR dd208_77 rfl rfl rfl rfl e_a1 ?_
      refine mGF (e := (a1 + 5)) dd208_80 rfl (ck12_s c_a1).1 (ck12_s c_a1).2 rfl (cf12_5 c_a1).1 ?_
      refine zGo_s (pc' := 84) (st' := [.int x1, .ref (a1 + 5), .int x1, .ref 1207]) dd208_83 rfl ?_
      obtain ⟨hi, h⟩ := ochk h
      refine mIA dd208_84 (cf12_5 c_a1).2.1 (cf12_5 c_a1).2.2 hi ?_
      obtain ⟨hi, h⟩ := ochk h
      obtain ⟨u2, e_u2, h⟩ := olet h
      refine mIS dd208_85 rfl rfl hi e_u2 ?_
      refine zGo_s (pc' := 87) (st' := [.ref 1132]) dd208_86 rfl ?_
      refine mGF (e := 1225) dd208_87 rfl rfl rfl rfl rfl ?_
      refine zGo_s (pc' := 91) (st' := [.int x1, .ref 1225]) dd208_90 rfl ?_
      refine zGo_s (pc' := 92) (st' := [.int (0 : Int32), .int x1, .ref 1225]) dd208_91 rfl ?_
      obtain ⟨hi, h⟩ := ochk h
      obtain ⟨u3, e_u3, h⟩ := olet h
      refine mIS dd208_92 rfl rfl hi e_u3 ?_
      refine zGo_s (pc' := 94) (st' := [.ref 1132]) dd208_93 rfl ?_
      refine mGF (e := 1226) dd208_94 rfl rfl rfl rfl rfl ?_
      refine zGo_s (pc' := 98) (st' := [.int x1, .ref 1226]) dd208_97 rfl ?_
      refine zGo_s (pc' := 99) (st' := [.int (0 : Int32), .int x1, .ref 1226]) dd208_98 rfl ?_
      obtain ⟨hi, h⟩ := ochk h
      obtain ⟨u4, e_u4, h⟩ := olet h
      refine mIS dd208_99 rfl rfl hi e_u4 ?_
      refine zGo_s (pc' := 101) (st' := [.ref 1132]) dd208_100 rfl ?_
      refine mGF (e := 1229) dd208_101 rfl rfl rfl rfl rfl ?_
      refine zGo_s (pc' := 105) (st' := [.int x1, .ref 1229]) dd208_104 rfl ?_
      refine zGo_s (pc' := 106) (st' := [.int (0 : Int32), .int x1, .ref 1229]) dd208_105 rfl ?_
      obtain ⟨hi, h⟩ := ochk h
      obtain ⟨u5, e_u5, h⟩ := olet h
      refine mIS dd208_106 rfl rfl hi e_u5 ?_
      refine zGo_s (pc' := 108) (st' := [.ref 1132]) dd208_107 rfl ?_
      refine mGF (e := 1230) dd208_108 rfl rfl rfl rfl rfl ?_
      refine zGo_s (pc' := 112) (st' := [.int x1, .ref 1230]) dd208_111 rfl ?_
      refine zGo_s (pc' := 113) (st' := [.int (0 : Int32), .int x1, .ref 1230]) dd208_112 rfl ?_
      obtain ⟨hi, h⟩ := ochk h
      obtain ⟨u6, e_u6, h⟩ := olet h
      refine mIS dd208_113 rfl rfl hi e_u6 ?_
      refine zGo_s (pc' := 115) (st' := [.ref 1132]) dd208_114 rfl ?_
      refine mGF (e := 1231) dd208_115 rfl rfl rfl rfl rfl ?_
      refine zGo_s (pc' := 119) (st' := [.int x1, .ref 1231]) dd208_118 rfl ?_
      refine zGo_s (pc' := 120) (st' := [.int (0 : Int32), .int x1, .ref 1231]) dd208_119 rfl ?_
      obtain ⟨hi, h⟩ := ochk h
      obtain ⟨u7, e_u7, h⟩ := olet h
      refine mIS dd208_120 rfl rfl hi e_u7 ?_
      refine zGo_s (pc' := 122) (st' := [.ref 1132]) dd208_121 rfl ?_
      refine mGF (e := 1232) dd208_122 rfl rfl rfl rfl rfl ?_
      refine zGo_s (pc' := 126) (st' := [.int x1, .ref 1232]) dd208_125 rfl ?_
      refine zGo_s (pc' := 127) (st' := [.int (0 : Int32), .int x1, .ref 1232]) dd208_126 rfl ?_
      obtain ⟨hi, h⟩ := ochk h
      obtain ⟨u8, e_u8, h⟩ := olet h
      refine mIS dd208_127 rfl rfl hi e_u8 ?_
      refine zGo_s (pc' := 129) (st' := [.ref 1132]) dd208_128 rfl ?_
      refine mGF (e := 1233) dd208_129 rfl rfl rfl rfl rfl ?_
      refine zGo_s (pc' := 133) (st' := [.int x1, .ref 1233]) dd208_132 rfl ?_
      refine zGo_s (pc' := 134) (st' := [.int (0 : Int32), .int x1, .ref 1233]) dd208_133 rfl ?_
      obtain ⟨hi, h⟩ := ochk h
      obtain ⟨u9, e_u9, h⟩ := olet h
      refine mIS dd208_134 rfl rfl hi e_u9 ?_
      refine zGo_s (pc' := 136) (st' := [.ref 1132]) dd208_135 rfl ?_
      refine mGF (e := 1234) dd208_136 rfl rfl rfl rfl rfl ?_
      refine zGo_s (pc' := 140) (st' := [.int x1, .ref 1234]) dd208_139 rfl ?_
      refine zGo_s (pc' := 141) (st' := [.int (0 : Int32), .int x1, .ref 1234]) dd208_140 rfl ?_
      obtain ⟨hi, h⟩ := ochk h
      obtain ⟨u10, e_u10, h⟩ := olet h
      refine mIS dd208_141 rfl rfl hi e_u10 ?_
      refine zGo_s (pc' := 143) (st' := [.ref 1132]) dd208_142 rfl ?_
      refine mGF (e := 1235) dd208_143 rfl rfl rfl rfl rfl ?_
      refine zGo_s (pc' := 147) (st' := [.int x1, .ref 1235]) dd208_146 rfl ?_
      refine zGo_s (pc' := 148) (st' := [.int (0 : Int32), .int x1, .ref 1235]) dd208_147 rfl ?_
      obtain ⟨hi, h⟩ := ochk h
      obtain ⟨u11, e_u11, h⟩ := olet h
      refine mIS dd208_148 rfl rfl hi e_u11 ?_
      refine zGo_s (pc' := 152) (st' := []) (lv' := [(1, .int (x1 + (1 : Int32))), (0, .ref 1132)]) dd208_149 rfl ?_
      refine zGo_s (pc' := 65) (st' := []) dd208_152 rfl ?_
      exact zGo_lv (lv := [(0, .ref 1132), (1, .int (x1 + (1 : Int32)))]) ⟨by simp, by simp, by simp⟩ (ih _ _ _ _ h)
    · refine zIT dd208_68 rfl (kGeT hc) ?_
      refine zGo_s (pc' := 156) (st' := [.int (0 : Int32)]) dd208_155 rfl ?_
      refine zGo_s (pc' := 157) (st' := []) (lv' := [(1, .int (0 : Int32)), (0, .ref 1132)]) dd208_156 rfl ?_
      exact zGo_lv (lv := [(0, .ref 1132), (1, .int (0 : Int32))]) ⟨by simp, by simp, by simp⟩ (f208_157_ok hd _ _ _ _ _ h)
def f208 (n : Nat) (s : zσ) : Option (Int32 × zσ) :=
    if (s.1 1132 13) = (0 : Int32) then
    some ((-3 : Int32), s)
    else zlet (sI s 1132 17 (1 : Int32)) fun u1 =>
    zlet (sI u1 1132 19 (u1.1 1132 18)) fun u2 =>
    zlet (sI u2 1132 20 (0 : Int32)) fun u3 =>
    zlet (sI u3 1132 21 (0 : Int32)) fun u4 =>
    zlet (sI u4 1132 22 (0 : Int32)) fun u5 =>
    zlet (sI u5 1132 23 (0 : Int32)) fun u6 =>
    zlet (sI u6 1132 24 (0 : Int32)) fun u7 =>
    zlet (sI u7 1132 25 (0 : Int32)) fun u8 =>
    zlet (sI u8 1132 26 (0 : Int32)) fun u9 =>
    zlet (sI u9 1132 27 (0 : Int32)) fun u10 =>
    f208_65 n n (0 : Int32) u10
set_option maxRecDepth 20000 in
theorem f208_ok {n d : Nat} {s : zσ} {v : Int32} {s2 : zσ} (hd : 27 ≤ d) (h : f208 n s = some (v, s2)) {w : zσ} {fz : Bool} {L : Nat} {xs : Nat → Int32} : zGo (zX fz L xs) d q_208 (0, [(0, .ref 1132)], [], zmk w s, 0, 0) (some (.int v), zmk w s2, 0, 0) := by
  obtain ⟨d, rfl⟩ : ∃ d0, d = d0 + 1 := ⟨d - 1, by omega⟩
  unfold f208 at h
  refine zGo_s (pc' := 1) (st' := [.ref 1132]) dd208_0 rfl ?_
  refine mGI dd208_1 rfl rfl rfl rfl ?_
  rcases oite h with ⟨hc, h⟩ | ⟨hc, h⟩
  · refine zUF dd208_4 (kNeF hc) ?_
    refine zGo_s (pc' := 9) (st' := [.int (-3 : Int32)]) dd208_7 rfl ?_
    obtain ⟨rfl, rfl⟩ := oret h
    exact zGo_ret dd208_9 rfl rfl
  · refine zUT dd208_4 rfl (kNeT hc) ?_
    refine zGo_s (pc' := 11) (st' := [.ref 1132]) dd208_10 rfl ?_
    refine zGo_s (pc' := 12) (st' := [.int (1 : Int32), .ref 1132]) dd208_11 rfl ?_
    obtain ⟨u1, e_u1, h⟩ := olet h
    refine mPI dd208_12 rfl rfl rfl rfl rfl rfl e_u1 ?_
    refine zGo_s (pc' := 16) (st' := [.ref 1132]) dd208_15 rfl ?_
    refine zGo_s (pc' := 17) (st' := [.ref 1132, .ref 1132]) dd208_16 rfl ?_
    refine mGI dd208_17 rfl rfl rfl rfl ?_
    obtain ⟨u2, e_u2, h⟩ := olet h
    refine mPI dd208_20 rfl rfl rfl rfl rfl rfl e_u2 ?_
    refine zGo_s (pc' := 24) (st' := [.ref 1132]) dd208_23 rfl ?_
    refine zGo_s (pc' := 25) (st' := [.int (0 : Int32), .ref 1132]) dd208_24 rfl ?_
    obtain ⟨u3, e_u3, h⟩ := olet h
    refine mPI dd208_25 rfl rfl rfl rfl rfl rfl e_u3 ?_
    refine zGo_s (pc' := 29) (st' := [.ref 1132]) dd208_28 rfl ?_
    refine zGo_s (pc' := 30) (st' := [.int (0 : Int32), .ref 1132]) dd208_29 rfl ?_
    obtain ⟨u4, e_u4, h⟩ := olet h
    refine mPI dd208_30 rfl rfl rfl rfl rfl rfl e_u4 ?_
    refine zGo_s (pc' := 34) (st' := [.ref 1132]) dd208_33 rfl ?_
    refine zGo_s (pc' := 35) (st' := [.int (0 : Int32), .ref 1132]) dd208_34 rfl ?_
    obtain ⟨u5, e_u5, h⟩ := olet h
    refine mPI dd208_35 rfl rfl rfl rfl rfl rfl e_u5 ?_
    refine zGo_s (pc' := 39) (st' := [.ref 1132]) dd208_38 rfl ?_
    refine zGo_s (pc' := 40) (st' := [.int (0 : Int32), .ref 1132]) dd208_39 rfl ?_
    obtain ⟨u6, e_u6, h⟩ := olet h
    refine mPI dd208_40 rfl rfl rfl rfl rfl rfl e_u6 ?_
    refine zGo_s (pc' := 44) (st' := [.ref 1132]) dd208_43 rfl ?_
    refine zGo_s (pc' := 45) (st' := [.int (0 : Int32), .ref 1132]) dd208_44 rfl ?_
    obtain ⟨u7, e_u7, h⟩ := olet h
    refine mPI dd208_45 rfl rfl rfl rfl rfl rfl e_u7 ?_
    refine zGo_s (pc' := 49) (st' := [.ref 1132]) dd208_48 rfl ?_
    refine zGo_s (pc' := 50) (st' := [.int (0 : Int32), .ref 1132]) dd208_49 rfl ?_
    obtain ⟨u8, e_u8, h⟩ := olet h
    refine mPI dd208_50 rfl rfl rfl rfl rfl rfl e_u8 ?_
    refine zGo_s (pc' := 54) (st' := [.ref 1132]) dd208_53 rfl ?_
    refine zGo_s (pc' := 55) (st' := [.int (0 : Int32), .ref 1132]) dd208_54 rfl ?_
    obtain ⟨u9, e_u9, h⟩ := olet h
    refine mPI dd208_55 rfl rfl rfl rfl rfl rfl e_u9 ?_
    refine zGo_s (pc' := 59) (st' := [.ref 1132]) dd208_58 rfl ?_
    refine zGo_s (pc' := 60) (st' := [.int (0 : Int32), .ref 1132]) dd208_59 rfl ?_
    obtain ⟨u10, e_u10, h⟩ := olet h
    refine mPI dd208_60 rfl rfl rfl rfl rfl rfl e_u10 ?_
    refine zGo_s (pc' := 64) (st' := [.int (0 : Int32)]) dd208_63 rfl ?_
    refine zGo_s (pc' := 65) (st' := []) (lv' := [(1, .int (0 : Int32)), (0, .ref 1132)]) dd208_64 rfl ?_
    exact zGo_lv (lv := [(0, .ref 1132), (1, .int (0 : Int32))]) ⟨by simp, by simp, by simp⟩ (f208_65_ok hd _ _ _ _ _ h)
/-! PHModel.nextDue()I -/
theorem dd223_0 : decode cX13_nextDue 0 = .ok (.iconst (-1), 1) := by decide +kernel
theorem dd223_1 : decode cX13_nextDue 1 = .ok (.istore_n 1, 1) := by decide +kernel
theorem dd223_2 : decode cX13_nextDue 2 = .ok (.iconst 0, 1) := by decide +kernel
theorem dd223_3 : decode cX13_nextDue 3 = .ok (.istore_n 2, 1) := by decide +kernel
theorem dd223_4 : decode cX13_nextDue 4 = .ok (.iload_n 2, 1) := by decide +kernel
theorem dd223_5 : decode cX13_nextDue 5 = .ok (.bipush 16, 2) := by decide +kernel
theorem dd223_7 : decode cX13_nextDue 7 = .ok (.if_icmp .ge 50, 3) := by decide +kernel
theorem dd223_10 : decode cX13_nextDue 10 = .ok (.aload_n 0, 1) := by decide +kernel
theorem dd223_11 : decode cX13_nextDue 11 = .ok (.getfield 136, 3) := by decide +kernel
theorem dd223_14 : decode cX13_nextDue 14 = .ok (.iload_n 2, 1) := by decide +kernel
theorem dd223_15 : decode cX13_nextDue 15 = .ok (.baload, 1) := by decide +kernel
theorem dd223_16 : decode cX13_nextDue 16 = .ok (.ifCond .eq 35, 3) := by decide +kernel
theorem dd223_19 : decode cX13_nextDue 19 = .ok (.aload_n 0, 1) := by decide +kernel
theorem dd223_20 : decode cX13_nextDue 20 = .ok (.getfield 148, 3) := by decide +kernel
theorem dd223_23 : decode cX13_nextDue 23 = .ok (.iload_n 2, 1) := by decide +kernel
theorem dd223_24 : decode cX13_nextDue 24 = .ok (.iaload, 1) := by decide +kernel
theorem dd223_25 : decode cX13_nextDue 25 = .ok (.iconst (-1), 1) := by decide +kernel
theorem dd223_26 : decode cX13_nextDue 26 = .ok (.if_icmp .ne 25, 3) := by decide +kernel
theorem dd223_29 : decode cX13_nextDue 29 = .ok (.iload_n 1, 1) := by decide +kernel
theorem dd223_30 : decode cX13_nextDue 30 = .ok (.iconst (-1), 1) := by decide +kernel
theorem dd223_31 : decode cX13_nextDue 31 = .ok (.if_icmp .eq 18, 3) := by decide +kernel
theorem dd223_34 : decode cX13_nextDue 34 = .ok (.aload_n 0, 1) := by decide +kernel
theorem dd223_35 : decode cX13_nextDue 35 = .ok (.getfield 139, 3) := by decide +kernel
theorem dd223_38 : decode cX13_nextDue 38 = .ok (.iload_n 2, 1) := by decide +kernel
theorem dd223_39 : decode cX13_nextDue 39 = .ok (.iaload, 1) := by decide +kernel
theorem dd223_40 : decode cX13_nextDue 40 = .ok (.aload_n 0, 1) := by decide +kernel
theorem dd223_41 : decode cX13_nextDue 41 = .ok (.getfield 139, 3) := by decide +kernel
theorem dd223_44 : decode cX13_nextDue 44 = .ok (.iload_n 1, 1) := by decide +kernel
theorem dd223_45 : decode cX13_nextDue 45 = .ok (.iaload, 1) := by decide +kernel
theorem dd223_46 : decode cX13_nextDue 46 = .ok (.if_icmp .ge 5, 3) := by decide +kernel
theorem dd223_49 : decode cX13_nextDue 49 = .ok (.iload_n 2, 1) := by decide +kernel
theorem dd223_50 : decode cX13_nextDue 50 = .ok (.istore_n 1, 1) := by decide +kernel
theorem dd223_51 : decode cX13_nextDue 51 = .ok (.iinc 2 1, 3) := by decide +kernel
theorem dd223_54 : decode cX13_nextDue 54 = .ok (.goto (-50), 3) := by decide +kernel
theorem dd223_57 : decode cX13_nextDue 57 = .ok (.iload_n 1, 1) := by decide +kernel
theorem dd223_58 : decode cX13_nextDue 58 = .ok (.ireturn, 1) := by decide +kernel
def f223_51 (n : Nat) (r4 : Int32 → Int32 → zσ → Option (Int32 × zσ)) (x1 : Int32) (x2 : Int32) (s : zσ) : Option (Int32 × zσ) :=
    r4 x1 (x2 + (1 : Int32)) s
set_option maxRecDepth 20000 in
theorem f223_51_ok {n d : Nat} {r4 : Int32 → Int32 → zσ → Option (Int32 × zσ)} {x1 : Int32} {x2 : Int32} {s : zσ} {v : Int32} {s2 : zσ} (hd : 0 ≤ d) (hr4 : ∀ (x1 : Int32) (x2 : Int32) (s : zσ) (v : Int32) (s2 : zσ), r4 x1 x2 s = some (v, s2) → ∀ {w : zσ} {fz : Bool} {L : Nat} {xs : Nat → Int32}, zGo (zX fz L xs) d q_223 (4, [(0, .ref 1132), (1, .int x1), (2, .int x2)], [], zmk w s, 0, 0) (some (.int v), zmk w s2, 0, 0)) (h : f223_51 n r4 x1 x2 s = some (v, s2)) {w : zσ} {fz : Bool} {L : Nat} {xs : Nat → Int32} : zGo (zX fz L xs) d q_223 (51, [(0, .ref 1132), (1, .int x1), (2, .int x2)], [], zmk w s, 0, 0) (some (.int v), zmk w s2, 0, 0) := by
  unfold f223_51 at h
  refine zGo_s (pc' := 54) (st' := []) (lv' := [(2, .int (x2 + (1 : Int32))), (0, .ref 1132), (1, .int x1)]) dd223_51 rfl ?_
  refine zGo_s (pc' := 4) (st' := []) dd223_54 rfl ?_
  exact zGo_lv (lv := [(0, .ref 1132), (1, .int x1), (2, .int (x2 + (1 : Int32)))]) ⟨by simp, by simp, by simp⟩ (hr4 _ _ _ _ _ h)
def f223_49 (n : Nat) (r4 : Int32 → Int32 → zσ → Option (Int32 × zσ)) (x2 : Int32) (s : zσ) : Option (Int32 × zσ) :=
    f223_51 n r4 x2 x2 s
set_option maxRecDepth 20000 in
theorem f223_49_ok {n d : Nat} {r4 : Int32 → Int32 → zσ → Option (Int32 × zσ)} {x2 : Int32} {s : zσ} {v : Int32} {s2 : zσ} (hd : 0 ≤ d) (hr4 : ∀ (x1 : Int32) (x2 : Int32) (s : zσ) (v : Int32) (s2 : zσ), r4 x1 x2 s = some (v, s2) → ∀ {w : zσ} {fz : Bool} {L : Nat} {xs : Nat → Int32}, zGo (zX fz L xs) d q_223 (4, [(0, .ref 1132), (1, .int x1), (2, .int x2)], [], zmk w s, 0, 0) (some (.int v), zmk w s2, 0, 0)) (h : f223_49 n r4 x2 s = some (v, s2)) {w : zσ} {fz : Bool} {L : Nat} {xs : Nat → Int32} : zGo (zX fz L xs) d q_223 (49, [(0, .ref 1132), (2, .int x2)], [], zmk w s, 0, 0) (some (.int v), zmk w s2, 0, 0) := by
  unfold f223_49 at h
  refine zGo_s (pc' := 50) (st' := [.int x2]) dd223_49 rfl ?_
  refine zGo_s (pc' := 51) (st' := []) (lv' := [(1, .int x2), (0, .ref 1132), (2, .int x2)]) dd223_50 rfl ?_
  exact zGo_lv (lv := [(0, .ref 1132), (1, .int x2), (2, .int x2)]) ⟨by simp, by simp, by simp⟩ (f223_51_ok hd hr4 h)
def f223_4 (n : Nat) : Nat → Int32 → Int32 → zσ → Option (Int32 × zσ)
  | 0, _, _, _ => none
  | j + 1, x1, x2, s =>
    if x2 < (16 : Int32) then
    if zin? x2 16 = true then
    if (s.1 1240 (nx x2)) = (0 : Int32) then
    f223_51 n (f223_4 n j) x1 x2 s
    else if zin? x2 16 = true then
    if (s.1 1244 (nx x2)) = (-1 : Int32) then
    if x1 = (-1 : Int32) then
    f223_49 n (f223_4 n j) x2 s
    else if zin? x2 16 = true then
    if zin? x1 16 = true then
    if (s.1 1241 (nx x2)) < (s.1 1241 (nx x1)) then
    f223_49 n (f223_4 n j) x2 s
    else f223_51 n (f223_4 n j) x1 x2 s
    else none
    else none
    else f223_51 n (f223_4 n j) x1 x2 s
    else none
    else none
    else some (x1, s)
set_option maxRecDepth 20000 in
theorem f223_4_ok {n d : Nat} (hd : 0 ≤ d) : ∀ (j : Nat) (x1 : Int32) (x2 : Int32) (s : zσ) (v : Int32) (s2 : zσ), f223_4 n j x1 x2 s = some (v, s2) → ∀ {w : zσ} {fz : Bool} {L : Nat} {xs : Nat → Int32}, zGo (zX fz L xs) d q_223 (4, [(0, .ref 1132), (1, .int x1), (2, .int x2)], [], zmk w s, 0, 0) (some (.int v), zmk w s2, 0, 0) := by
  intro j
  induction j with
  | zero => intro x1 x2 s v s2 h; cases h
  | succ j ih =>
    intro x1 x2 s v s2 h w fz L xs
    rw [f223_4] at h
    refine zGo_s (pc' := 5) (st' := [.int x2]) dd223_4 rfl ?_
    refine zGo_s (pc' := 7) (st' := [.int (16 : Int32), .int x2]) dd223_5 rfl ?_
    rcases oite h with ⟨hc, h⟩ | ⟨hc, h⟩
    · refine zIF dd223_7 (kGeF hc) ?_
      refine zGo_s (pc' := 11) (st' := [.ref 1132]) dd223_10 rfl ?_
      refine mGF (e := 1240) dd223_11 rfl rfl rfl rfl rfl ?_
      refine zGo_s (pc' := 15) (st' := [.int x2, .ref 1240]) dd223_14 rfl ?_
      obtain ⟨hi, h⟩ := ochk h
      refine mBA dd223_15 rfl rfl rfl hi ?_
      rcases oite h with ⟨hc, h⟩ | ⟨hc, h⟩
      · refine zUT dd223_16 rfl (kEqT hc) ?_
        exact f223_51_ok hd ih h
      · refine zUF dd223_16 (kEqF hc) ?_
        refine zGo_s (pc' := 20) (st' := [.ref 1132]) dd223_19 rfl ?_
        refine mGF (e := 1244) dd223_20 rfl rfl rfl rfl rfl ?_
        refine zGo_s (pc' := 24) (st' := [.int x2, .ref 1244]) dd223_23 rfl ?_
        obtain ⟨hi, h⟩ := ochk h
        refine mIA dd223_24 rfl rfl hi ?_
        refine zGo_s (pc' := 26) (st' := [.int (-1 : Int32), .int (s.1 1244 (nx x2))]) dd223_25 rfl ?_
        rcases oite h with ⟨hc, h⟩ | ⟨hc, h⟩
        · refine zIF dd223_26 (kNeF hc) ?_
          refine zGo_s (pc' := 30) (st' := [.int x1]) dd223_29 rfl ?_
          refine zGo_s (pc' := 31) (st' := [.int (-1 : Int32), .int x1]) dd223_30 rfl ?_
          rcases oite h with ⟨hc, h⟩ | ⟨hc, h⟩
          · refine zIT dd223_31 rfl (kEqT hc) ?_
            exact zGo_lv (lv := [(0, .ref 1132), (2, .int x2)]) ⟨by simp, by simp, by simp⟩ (f223_49_ok hd ih h)
          · refine zIF dd223_31 (kEqF hc) ?_
            refine zGo_s (pc' := 35) (st' := [.ref 1132]) dd223_34 rfl ?_
            refine mGF (e := 1241) dd223_35 rfl rfl rfl rfl rfl ?_
            refine zGo_s (pc' := 39) (st' := [.int x2, .ref 1241]) dd223_38 rfl ?_
            obtain ⟨hi, h⟩ := ochk h
            refine mIA dd223_39 rfl rfl hi ?_
            refine zGo_s (pc' := 41) (st' := [.ref 1132, .int (s.1 1241 (nx x2))]) dd223_40 rfl ?_
            refine mGF (e := 1241) dd223_41 rfl rfl rfl rfl rfl ?_
            refine zGo_s (pc' := 45) (st' := [.int x1, .ref 1241, .int (s.1 1241 (nx x2))]) dd223_44 rfl ?_
            obtain ⟨hi, h⟩ := ochk h
            refine mIA dd223_45 rfl rfl hi ?_
            rcases oite h with ⟨hc, h⟩ | ⟨hc, h⟩
            · refine zIF dd223_46 (kGeF hc) ?_
              exact zGo_lv (lv := [(0, .ref 1132), (2, .int x2)]) ⟨by simp, by simp, by simp⟩ (f223_49_ok hd ih h)
            · refine zIT dd223_46 rfl (kGeT hc) ?_
              exact f223_51_ok hd ih h
        · refine zIT dd223_26 rfl (kNeT hc) ?_
          exact f223_51_ok hd ih h
    · refine zIT dd223_7 rfl (kGeT hc) ?_
      refine zGo_s (pc' := 58) (st' := [.int x1]) dd223_57 rfl ?_
      obtain ⟨rfl, rfl⟩ := oret h
      exact zGo_ret dd223_58 rfl rfl
def f223 (n : Nat) (s : zσ) : Option (Int32 × zσ) :=
    f223_4 n n (-1 : Int32) (0 : Int32) s
set_option maxRecDepth 20000 in
theorem f223_ok {n d : Nat} {s : zσ} {v : Int32} {s2 : zσ} (hd : 0 ≤ d) (h : f223 n s = some (v, s2)) {w : zσ} {fz : Bool} {L : Nat} {xs : Nat → Int32} : zGo (zX fz L xs) d q_223 (0, [(0, .ref 1132)], [], zmk w s, 0, 0) (some (.int v), zmk w s2, 0, 0) := by
  unfold f223 at h
  refine zGo_s (pc' := 1) (st' := [.int (-1 : Int32)]) dd223_0 rfl ?_
  refine zGo_s (pc' := 2) (st' := []) (lv' := [(1, .int (-1 : Int32)), (0, .ref 1132)]) dd223_1 rfl ?_
  refine zGo_s (pc' := 3) (st' := [.int (0 : Int32)]) dd223_2 rfl ?_
  refine zGo_s (pc' := 4) (st' := []) (lv' := [(2, .int (0 : Int32)), (1, .int (-1 : Int32)), (0, .ref 1132)]) dd223_3 rfl ?_
  exact zGo_lv (lv := [(0, .ref 1132), (1, .int (-1 : Int32)), (2, .int (0 : Int32))]) ⟨by simp, by simp, by simp⟩ (f223_4_ok hd _ _ _ _ _ _ h)
/-! PHModel.goesOnAgain(I)Z -/
theorem dd225_0 : decode cX13_goesOnAgain 0 = .ok (.aload_n 0, 1) := by decide +kernel
theorem dd225_1 : decode cX13_goesOnAgain 1 = .ok (.getfield 91, 3) := by decide +kernel
theorem dd225_4 : decode cX13_goesOnAgain 4 = .ok (.iload_n 1, 1) := by decide +kernel
theorem dd225_5 : decode cX13_goesOnAgain 5 = .ok (.iaload, 1) := by decide +kernel
theorem dd225_6 : decode cX13_goesOnAgain 6 = .ok (.iconst 2, 1) := by decide +kernel
theorem dd225_7 : decode cX13_goesOnAgain 7 = .ok (.if_icmp .ne 33, 3) := by decide +kernel
theorem dd225_10 : decode cX13_goesOnAgain 10 = .ok (.aload_n 0, 1) := by decide +kernel
theorem dd225_11 : decode cX13_goesOnAgain 11 = .ok (.getfield 91, 3) := by decide +kernel
theorem dd225_14 : decode cX13_goesOnAgain 14 = .ok (.iload_n 1, 1) := by decide +kernel
theorem dd225_15 : decode cX13_goesOnAgain 15 = .ok (.iconst 1, 1) := by decide +kernel
theorem dd225_16 : decode cX13_goesOnAgain 16 = .ok (.iastore, 1) := by decide +kernel
theorem dd225_17 : decode cX13_goesOnAgain 17 = .ok (.aload_n 0, 1) := by decide +kernel
theorem dd225_18 : decode cX13_goesOnAgain 18 = .ok (.getfield 97, 3) := by decide +kernel
theorem dd225_21 : decode cX13_goesOnAgain 21 = .ok (.iload_n 1, 1) := by decide +kernel
theorem dd225_22 : decode cX13_goesOnAgain 22 = .ok (.aload_n 0, 1) := by decide +kernel
theorem dd225_23 : decode cX13_goesOnAgain 23 = .ok (.getfield 610, 3) := by decide +kernel
theorem dd225_26 : decode cX13_goesOnAgain 26 = .ok (.iastore, 1) := by decide +kernel
theorem dd225_27 : decode cX13_goesOnAgain 27 = .ok (.aload_n 0, 1) := by decide +kernel
theorem dd225_28 : decode cX13_goesOnAgain 28 = .ok (.dup, 1) := by decide +kernel
theorem dd225_29 : decode cX13_goesOnAgain 29 = .ok (.getfield 610, 3) := by decide +kernel
theorem dd225_32 : decode cX13_goesOnAgain 32 = .ok (.iconst 1, 1) := by decide +kernel
theorem dd225_33 : decode cX13_goesOnAgain 33 = .ok (.iadd, 1) := by decide +kernel
theorem dd225_34 : decode cX13_goesOnAgain 34 = .ok (.putfield 610, 3) := by decide +kernel
theorem dd225_37 : decode cX13_goesOnAgain 37 = .ok (.goto 25, 3) := by decide +kernel
theorem dd225_40 : decode cX13_goesOnAgain 40 = .ok (.aload_n 0, 1) := by decide +kernel
theorem dd225_41 : decode cX13_goesOnAgain 41 = .ok (.getfield 91, 3) := by decide +kernel
theorem dd225_44 : decode cX13_goesOnAgain 44 = .ok (.iload_n 1, 1) := by decide +kernel
theorem dd225_45 : decode cX13_goesOnAgain 45 = .ok (.iaload, 1) := by decide +kernel
theorem dd225_46 : decode cX13_goesOnAgain 46 = .ok (.iconst 4, 1) := by decide +kernel
theorem dd225_47 : decode cX13_goesOnAgain 47 = .ok (.if_icmp .ne 13, 3) := by decide +kernel
theorem dd225_50 : decode cX13_goesOnAgain 50 = .ok (.aload_n 0, 1) := by decide +kernel
theorem dd225_51 : decode cX13_goesOnAgain 51 = .ok (.getfield 91, 3) := by decide +kernel
theorem dd225_54 : decode cX13_goesOnAgain 54 = .ok (.iload_n 1, 1) := by decide +kernel
theorem dd225_55 : decode cX13_goesOnAgain 55 = .ok (.iconst 3, 1) := by decide +kernel
theorem dd225_56 : decode cX13_goesOnAgain 56 = .ok (.iastore, 1) := by decide +kernel
theorem dd225_57 : decode cX13_goesOnAgain 57 = .ok (.goto 5, 3) := by decide +kernel
theorem dd225_60 : decode cX13_goesOnAgain 60 = .ok (.iconst 0, 1) := by decide +kernel
theorem dd225_61 : decode cX13_goesOnAgain 61 = .ok (.ireturn, 1) := by decide +kernel
theorem dd225_62 : decode cX13_goesOnAgain 62 = .ok (.iconst 1, 1) := by decide +kernel
theorem dd225_63 : decode cX13_goesOnAgain 63 = .ok (.ireturn, 1) := by decide +kernel
def f225 (n : Nat) (x1 : Int32) (s : zσ) : Option (Int32 × zσ) :=
    if zin? x1 8 = true then
    if (s.1 1225 (nx x1)) = (2 : Int32) then
    if zin? x1 8 = true then
    zlet (sI s 1225 (nx x1) (1 : Int32)) fun u2 =>
    if zin? x1 8 = true then
    zlet (sI u2 1227 (nx x1) (u2.1 1132 30)) fun u3 =>
    zlet (sI u3 1132 30 ((u3.1 1132 30) + (1 : Int32))) fun u4 =>
    some ((1 : Int32), u4)
    else none
    else none
    else if zin? x1 8 = true then
    if (s.1 1225 (nx x1)) = (4 : Int32) then
    if zin? x1 8 = true then
    zlet (sI s 1225 (nx x1) (3 : Int32)) fun u1 =>
    some ((1 : Int32), u1)
    else none
    else some ((0 : Int32), s)
    else none
    else none
set_option maxRecDepth 20000 in
theorem f225_ok {n d : Nat} {x1 : Int32} {s : zσ} {v : Int32} {s2 : zσ} (hd : 0 ≤ d) (h : f225 n x1 s = some (v, s2)) {w : zσ} {fz : Bool} {L : Nat} {xs : Nat → Int32} : zGo (zX fz L xs) d q_225 (0, [(0, .ref 1132), (1, .int x1)], [], zmk w s, 0, 0) (some (.int v), zmk w s2, 0, 0) := by
  unfold f225 at h
  refine zGo_s (pc' := 1) (st' := [.ref 1132]) dd225_0 rfl ?_
  refine mGF (e := 1225) dd225_1 rfl rfl rfl rfl rfl ?_
  refine zGo_s (pc' := 5) (st' := [.int x1, .ref 1225]) dd225_4 rfl ?_
  obtain ⟨hi, h⟩ := ochk h
  refine mIA dd225_5 rfl rfl hi ?_
  refine zGo_s (pc' := 7) (st' := [.int (2 : Int32), .int (s.1 1225 (nx x1))]) dd225_6 rfl ?_
  rcases oite h with ⟨hc, h⟩ | ⟨hc, h⟩
  · refine zIF dd225_7 (kNeF hc) ?_
    refine zGo_s (pc' := 11) (st' := [.ref 1132]) dd225_10 rfl ?_
    refine mGF (e := 1225) dd225_11 rfl rfl rfl rfl rfl ?_
    refine zGo_s (pc' := 15) (st' := [.int x1, .ref 1225]) dd225_14 rfl ?_
    refine zGo_s (pc' := 16) (st' := [.int (1 : Int32), .int x1, .ref 1225]) dd225_15 rfl ?_
    obtain ⟨hi, h⟩ := ochk h
    obtain ⟨u2, e_u2, h⟩ := olet h
    refine mIS dd225_16 rfl rfl hi e_u2 ?_
    refine zGo_s (pc' := 18) (st' := [.ref 1132]) dd225_17 rfl ?_
    refine mGF (e := 1227) dd225_18 rfl rfl rfl rfl rfl ?_
    refine zGo_s (pc' := 22) (st' := [.int x1, .ref 1227]) dd225_21 rfl ?_
    refine zGo_s (pc' := 23) (st' := [.ref 1132, .int x1, .ref 1227]) dd225_22 rfl ?_
    refine mGI dd225_23 rfl rfl rfl rfl ?_
    obtain ⟨hi, h⟩ := ochk h
    obtain ⟨u3, e_u3, h⟩ := olet h
    refine mIS dd225_26 rfl rfl hi e_u3 ?_
    refine zGo_s (pc' := 28) (st' := [.ref 1132]) dd225_27 rfl ?_
    refine zGo_s (pc' := 29) (st' := [.ref 1132, .ref 1132]) dd225_28 rfl ?_
    refine mGI dd225_29 rfl rfl rfl rfl ?_
    refine zGo_s (pc' := 33) (st' := [.int (1 : Int32), .int (u3.1 1132 30), .ref 1132]) dd225_32 rfl ?_
    refine zGo_s (pc' := 34) (st' := [.int ((u3.1 1132 30) + (1 : Int32)), .ref 1132]) dd225_33 rfl ?_
    obtain ⟨u4, e_u4, h⟩ := olet h
    refine mPI dd225_34 rfl rfl rfl rfl rfl rfl e_u4 ?_
    refine zGo_s (pc' := 62) (st' := []) dd225_37 rfl ?_
    refine zGo_s (pc' := 63) (st' := [.int (1 : Int32)]) dd225_62 rfl ?_
    obtain ⟨rfl, rfl⟩ := oret h
    exact zGo_ret dd225_63 rfl rfl
  · refine zIT dd225_7 rfl (kNeT hc) ?_
    refine zGo_s (pc' := 41) (st' := [.ref 1132]) dd225_40 rfl ?_
    refine mGF (e := 1225) dd225_41 rfl rfl rfl rfl rfl ?_
    refine zGo_s (pc' := 45) (st' := [.int x1, .ref 1225]) dd225_44 rfl ?_
    obtain ⟨hi, h⟩ := ochk h
    refine mIA dd225_45 rfl rfl hi ?_
    refine zGo_s (pc' := 47) (st' := [.int (4 : Int32), .int (s.1 1225 (nx x1))]) dd225_46 rfl ?_
    rcases oite h with ⟨hc, h⟩ | ⟨hc, h⟩
    · refine zIF dd225_47 (kNeF hc) ?_
      refine zGo_s (pc' := 51) (st' := [.ref 1132]) dd225_50 rfl ?_
      refine mGF (e := 1225) dd225_51 rfl rfl rfl rfl rfl ?_
      refine zGo_s (pc' := 55) (st' := [.int x1, .ref 1225]) dd225_54 rfl ?_
      refine zGo_s (pc' := 56) (st' := [.int (3 : Int32), .int x1, .ref 1225]) dd225_55 rfl ?_
      obtain ⟨hi, h⟩ := ochk h
      obtain ⟨u1, e_u1, h⟩ := olet h
      refine mIS dd225_56 rfl rfl hi e_u1 ?_
      refine zGo_s (pc' := 62) (st' := []) dd225_57 rfl ?_
      refine zGo_s (pc' := 63) (st' := [.int (1 : Int32)]) dd225_62 rfl ?_
      obtain ⟨rfl, rfl⟩ := oret h
      exact zGo_ret dd225_63 rfl rfl
    · refine zIT dd225_47 rfl (kNeT hc) ?_
      refine zGo_s (pc' := 61) (st' := [.int (0 : Int32)]) dd225_60 rfl ?_
      obtain ⟨rfl, rfl⟩ := oret h
      exact zGo_ret dd225_61 rfl rfl
/-! PHModel.isWaiting(I)Z -/
theorem dd228_0 : decode cX13_isWaiting 0 = .ok (.aload_n 0, 1) := by decide +kernel
theorem dd228_1 : decode cX13_isWaiting 1 = .ok (.getfield 91, 3) := by decide +kernel
theorem dd228_4 : decode cX13_isWaiting 4 = .ok (.iload_n 1, 1) := by decide +kernel
theorem dd228_5 : decode cX13_isWaiting 5 = .ok (.iaload, 1) := by decide +kernel
theorem dd228_6 : decode cX13_isWaiting 6 = .ok (.iconst 3, 1) := by decide +kernel
theorem dd228_7 : decode cX13_isWaiting 7 = .ok (.if_icmp .eq 13, 3) := by decide +kernel
theorem dd228_10 : decode cX13_isWaiting 10 = .ok (.aload_n 0, 1) := by decide +kernel
theorem dd228_11 : decode cX13_isWaiting 11 = .ok (.getfield 91, 3) := by decide +kernel
theorem dd228_14 : decode cX13_isWaiting 14 = .ok (.iload_n 1, 1) := by decide +kernel
theorem dd228_15 : decode cX13_isWaiting 15 = .ok (.iaload, 1) := by decide +kernel
theorem dd228_16 : decode cX13_isWaiting 16 = .ok (.iconst 4, 1) := by decide +kernel
theorem dd228_17 : decode cX13_isWaiting 17 = .ok (.if_icmp .ne 7, 3) := by decide +kernel
theorem dd228_20 : decode cX13_isWaiting 20 = .ok (.iconst 1, 1) := by decide +kernel
theorem dd228_21 : decode cX13_isWaiting 21 = .ok (.goto 4, 3) := by decide +kernel
theorem dd228_24 : decode cX13_isWaiting 24 = .ok (.iconst 0, 1) := by decide +kernel
theorem dd228_25 : decode cX13_isWaiting 25 = .ok (.ireturn, 1) := by decide +kernel
def f228_20 (n : Nat) (s : zσ) : Option (Int32 × zσ) :=
    some ((1 : Int32), s)
set_option maxRecDepth 20000 in
theorem f228_20_ok {n d : Nat} {s : zσ} {v : Int32} {s2 : zσ} (hd : 0 ≤ d) (h : f228_20 n s = some (v, s2)) {w : zσ} {fz : Bool} {L : Nat} {xs : Nat → Int32} : zGo (zX fz L xs) d q_228 (20, [], [], zmk w s, 0, 0) (some (.int v), zmk w s2, 0, 0) := by
  unfold f228_20 at h
  refine zGo_s (pc' := 21) (st' := [.int (1 : Int32)]) dd228_20 rfl ?_
  refine zGo_s (pc' := 25) (st' := [.int (1 : Int32)]) dd228_21 rfl ?_
  obtain ⟨rfl, rfl⟩ := oret h
  exact zGo_ret dd228_25 rfl rfl
def f228 (n : Nat) (x1 : Int32) (s : zσ) : Option (Int32 × zσ) :=
    if zin? x1 8 = true then
    if (s.1 1225 (nx x1)) = (3 : Int32) then
    f228_20 n s
    else if zin? x1 8 = true then
    if (s.1 1225 (nx x1)) = (4 : Int32) then
    f228_20 n s
    else some ((0 : Int32), s)
    else none
    else none
set_option maxRecDepth 20000 in
theorem f228_ok {n d : Nat} {x1 : Int32} {s : zσ} {v : Int32} {s2 : zσ} (hd : 0 ≤ d) (h : f228 n x1 s = some (v, s2)) {w : zσ} {fz : Bool} {L : Nat} {xs : Nat → Int32} : zGo (zX fz L xs) d q_228 (0, [(0, .ref 1132), (1, .int x1)], [], zmk w s, 0, 0) (some (.int v), zmk w s2, 0, 0) := by
  unfold f228 at h
  refine zGo_s (pc' := 1) (st' := [.ref 1132]) dd228_0 rfl ?_
  refine mGF (e := 1225) dd228_1 rfl rfl rfl rfl rfl ?_
  refine zGo_s (pc' := 5) (st' := [.int x1, .ref 1225]) dd228_4 rfl ?_
  obtain ⟨hi, h⟩ := ochk h
  refine mIA dd228_5 rfl rfl hi ?_
  refine zGo_s (pc' := 7) (st' := [.int (3 : Int32), .int (s.1 1225 (nx x1))]) dd228_6 rfl ?_
  rcases oite h with ⟨hc, h⟩ | ⟨hc, h⟩
  · refine zIT dd228_7 rfl (kEqT hc) ?_
    exact zGo_lv (lv := []) ⟨by simp, by simp, by simp⟩ (f228_20_ok hd h)
  · refine zIF dd228_7 (kEqF hc) ?_
    refine zGo_s (pc' := 11) (st' := [.ref 1132]) dd228_10 rfl ?_
    refine mGF (e := 1225) dd228_11 rfl rfl rfl rfl rfl ?_
    refine zGo_s (pc' := 15) (st' := [.int x1, .ref 1225]) dd228_14 rfl ?_
    obtain ⟨hi, h⟩ := ochk h
    refine mIA dd228_15 rfl rfl hi ?_
    refine zGo_s (pc' := 17) (st' := [.int (4 : Int32), .int (s.1 1225 (nx x1))]) dd228_16 rfl ?_
    rcases oite h with ⟨hc, h⟩ | ⟨hc, h⟩
    · refine zIF dd228_17 (kNeF hc) ?_
      exact zGo_lv (lv := []) ⟨by simp, by simp, by simp⟩ (f228_20_ok hd h)
    · refine zIT dd228_17 rfl (kNeT hc) ?_
      refine zGo_s (pc' := 25) (st' := [.int (0 : Int32)]) dd228_24 rfl ?_
      obtain ⟨rfl, rfl⟩ := oret h
      exact zGo_ret dd228_25 rfl rfl
/-! PHModel.isAhead(II)Z -/
theorem dd229_0 : decode cX13_isAhead 0 = .ok (.aload_n 0, 1) := by decide +kernel
theorem dd229_1 : decode cX13_isAhead 1 = .ok (.getfield 94, 3) := by decide +kernel
theorem dd229_4 : decode cX13_isAhead 4 = .ok (.iload_n 1, 1) := by decide +kernel
theorem dd229_5 : decode cX13_isAhead 5 = .ok (.iaload, 1) := by decide +kernel
theorem dd229_6 : decode cX13_isAhead 6 = .ok (.aload_n 0, 1) := by decide +kernel
theorem dd229_7 : decode cX13_isAhead 7 = .ok (.getfield 94, 3) := by decide +kernel
theorem dd229_10 : decode cX13_isAhead 10 = .ok (.iload_n 2, 1) := by decide +kernel
theorem dd229_11 : decode cX13_isAhead 11 = .ok (.iaload, 1) := by decide +kernel
theorem dd229_12 : decode cX13_isAhead 12 = .ok (.if_icmp .eq 26, 3) := by decide +kernel
theorem dd229_15 : decode cX13_isAhead 15 = .ok (.aload_n 0, 1) := by decide +kernel
theorem dd229_16 : decode cX13_isAhead 16 = .ok (.getfield 94, 3) := by decide +kernel
theorem dd229_19 : decode cX13_isAhead 19 = .ok (.iload_n 1, 1) := by decide +kernel
theorem dd229_20 : decode cX13_isAhead 20 = .ok (.iaload, 1) := by decide +kernel
theorem dd229_21 : decode cX13_isAhead 21 = .ok (.aload_n 0, 1) := by decide +kernel
theorem dd229_22 : decode cX13_isAhead 22 = .ok (.getfield 94, 3) := by decide +kernel
theorem dd229_25 : decode cX13_isAhead 25 = .ok (.iload_n 2, 1) := by decide +kernel
theorem dd229_26 : decode cX13_isAhead 26 = .ok (.iaload, 1) := by decide +kernel
theorem dd229_27 : decode cX13_isAhead 27 = .ok (.if_icmp .ge 7, 3) := by decide +kernel
theorem dd229_30 : decode cX13_isAhead 30 = .ok (.iconst 1, 1) := by decide +kernel
theorem dd229_31 : decode cX13_isAhead 31 = .ok (.goto 27, 3) := by decide +kernel
theorem dd229_34 : decode cX13_isAhead 34 = .ok (.iconst 0, 1) := by decide +kernel
theorem dd229_35 : decode cX13_isAhead 35 = .ok (.goto 23, 3) := by decide +kernel
theorem dd229_38 : decode cX13_isAhead 38 = .ok (.aload_n 0, 1) := by decide +kernel
theorem dd229_39 : decode cX13_isAhead 39 = .ok (.getfield 100, 3) := by decide +kernel
theorem dd229_42 : decode cX13_isAhead 42 = .ok (.iload_n 1, 1) := by decide +kernel
theorem dd229_43 : decode cX13_isAhead 43 = .ok (.iaload, 1) := by decide +kernel
theorem dd229_44 : decode cX13_isAhead 44 = .ok (.aload_n 0, 1) := by decide +kernel
theorem dd229_45 : decode cX13_isAhead 45 = .ok (.getfield 100, 3) := by decide +kernel
theorem dd229_48 : decode cX13_isAhead 48 = .ok (.iload_n 2, 1) := by decide +kernel
theorem dd229_49 : decode cX13_isAhead 49 = .ok (.iaload, 1) := by decide +kernel
theorem dd229_50 : decode cX13_isAhead 50 = .ok (.if_icmp .ge 7, 3) := by decide +kernel
theorem dd229_53 : decode cX13_isAhead 53 = .ok (.iconst 1, 1) := by decide +kernel
theorem dd229_54 : decode cX13_isAhead 54 = .ok (.goto 4, 3) := by decide +kernel
theorem dd229_57 : decode cX13_isAhead 57 = .ok (.iconst 0, 1) := by decide +kernel
theorem dd229_58 : decode cX13_isAhead 58 = .ok (.ireturn, 1) := by decide +kernel
def f229 (n : Nat) (x1 : Int32) (x2 : Int32) (s : zσ) : Option (Int32 × zσ) :=
    if zin? x1 8 = true then
    if zin? x2 8 = true then
    if (s.1 1226 (nx x1)) = (s.1 1226 (nx x2)) then
    if zin? x1 8 = true then
    if zin? x2 8 = true then
    if (s.1 1228 (nx x1)) < (s.1 1228 (nx x2)) then
    some ((1 : Int32), s)
    else some ((0 : Int32), s)
    else none
    else none
    else if zin? x1 8 = true then
    if zin? x2 8 = true then
    if (s.1 1226 (nx x1)) < (s.1 1226 (nx x2)) then
    some ((1 : Int32), s)
    else some ((0 : Int32), s)
    else none
    else none
    else none
    else none
set_option maxRecDepth 20000 in
theorem f229_ok {n d : Nat} {x1 : Int32} {x2 : Int32} {s : zσ} {v : Int32} {s2 : zσ} (hd : 0 ≤ d) (h : f229 n x1 x2 s = some (v, s2)) {w : zσ} {fz : Bool} {L : Nat} {xs : Nat → Int32} : zGo (zX fz L xs) d q_229 (0, [(0, .ref 1132), (1, .int x1), (2, .int x2)], [], zmk w s, 0, 0) (some (.int v), zmk w s2, 0, 0) := by
  unfold f229 at h
  refine zGo_s (pc' := 1) (st' := [.ref 1132]) dd229_0 rfl ?_
  refine mGF (e := 1226) dd229_1 rfl rfl rfl rfl rfl ?_
  refine zGo_s (pc' := 5) (st' := [.int x1, .ref 1226]) dd229_4 rfl ?_
  obtain ⟨hi, h⟩ := ochk h
  refine mIA dd229_5 rfl rfl hi ?_
  refine zGo_s (pc' := 7) (st' := [.ref 1132, .int (s.1 1226 (nx x1))]) dd229_6 rfl ?_
  refine mGF (e := 1226) dd229_7 rfl rfl rfl rfl rfl ?_
  refine zGo_s (pc' := 11) (st' := [.int x2, .ref 1226, .int (s.1 1226 (nx x1))]) dd229_10 rfl ?_
  obtain ⟨hi, h⟩ := ochk h
  refine mIA dd229_11 rfl rfl hi ?_
  rcases oite h with ⟨hc, h⟩ | ⟨hc, h⟩
  · refine zIT dd229_12 rfl (kEqT hc) ?_
    refine zGo_s (pc' := 39) (st' := [.ref 1132]) dd229_38 rfl ?_
    refine mGF (e := 1228) dd229_39 rfl rfl rfl rfl rfl ?_
    refine zGo_s (pc' := 43) (st' := [.int x1, .ref 1228]) dd229_42 rfl ?_
    obtain ⟨hi, h⟩ := ochk h
    refine mIA dd229_43 rfl rfl hi ?_
    refine zGo_s (pc' := 45) (st' := [.ref 1132, .int (s.1 1228 (nx x1))]) dd229_44 rfl ?_
    refine mGF (e := 1228) dd229_45 rfl rfl rfl rfl rfl ?_
    refine zGo_s (pc' := 49) (st' := [.int x2, .ref 1228, .int (s.1 1228 (nx x1))]) dd229_48 rfl ?_
    obtain ⟨hi, h⟩ := ochk h
    refine mIA dd229_49 rfl rfl hi ?_
    rcases oite h with ⟨hc, h⟩ | ⟨hc, h⟩
    · refine zIF dd229_50 (kGeF hc) ?_
      refine zGo_s (pc' := 54) (st' := [.int (1 : Int32)]) dd229_53 rfl ?_
      refine zGo_s (pc' := 58) (st' := [.int (1 : Int32)]) dd229_54 rfl ?_
      obtain ⟨rfl, rfl⟩ := oret h
      exact zGo_ret dd229_58 rfl rfl
    · refine zIT dd229_50 rfl (kGeT hc) ?_
      refine zGo_s (pc' := 58) (st' := [.int (0 : Int32)]) dd229_57 rfl ?_
      obtain ⟨rfl, rfl⟩ := oret h
      exact zGo_ret dd229_58 rfl rfl
  · refine zIF dd229_12 (kEqF hc) ?_
    refine zGo_s (pc' := 16) (st' := [.ref 1132]) dd229_15 rfl ?_
    refine mGF (e := 1226) dd229_16 rfl rfl rfl rfl rfl ?_
    refine zGo_s (pc' := 20) (st' := [.int x1, .ref 1226]) dd229_19 rfl ?_
    obtain ⟨hi, h⟩ := ochk h
    refine mIA dd229_20 rfl rfl hi ?_
    refine zGo_s (pc' := 22) (st' := [.ref 1132, .int (s.1 1226 (nx x1))]) dd229_21 rfl ?_
    refine mGF (e := 1226) dd229_22 rfl rfl rfl rfl rfl ?_
    refine zGo_s (pc' := 26) (st' := [.int x2, .ref 1226, .int (s.1 1226 (nx x1))]) dd229_25 rfl ?_
    obtain ⟨hi, h⟩ := ochk h
    refine mIA dd229_26 rfl rfl hi ?_
    rcases oite h with ⟨hc, h⟩ | ⟨hc, h⟩
    · refine zIF dd229_27 (kGeF hc) ?_
      refine zGo_s (pc' := 31) (st' := [.int (1 : Int32)]) dd229_30 rfl ?_
      refine zGo_s (pc' := 58) (st' := [.int (1 : Int32)]) dd229_31 rfl ?_
      obtain ⟨rfl, rfl⟩ := oret h
      exact zGo_ret dd229_58 rfl rfl
    · refine zIT dd229_27 rfl (kGeT hc) ?_
      refine zGo_s (pc' := 35) (st' := [.int (0 : Int32)]) dd229_34 rfl ?_
      refine zGo_s (pc' := 58) (st' := [.int (0 : Int32)]) dd229_35 rfl ?_
      obtain ⟨rfl, rfl⟩ := oret h
      exact zGo_ret dd229_58 rfl rfl
/-! PHModel.waitsBehind(I)I -/
theorem dd227_0 : decode cX13_waitsBehind 0 = .ok (.iconst (-1), 1) := by decide +kernel
theorem dd227_1 : decode cX13_waitsBehind 1 = .ok (.istore_n 2, 1) := by decide +kernel
theorem dd227_2 : decode cX13_waitsBehind 2 = .ok (.iconst 0, 1) := by decide +kernel
theorem dd227_3 : decode cX13_waitsBehind 3 = .ok (.istore_n 3, 1) := by decide +kernel
theorem dd227_4 : decode cX13_waitsBehind 4 = .ok (.iload_n 3, 1) := by decide +kernel
theorem dd227_5 : decode cX13_waitsBehind 5 = .ok (.aload_n 0, 1) := by decide +kernel
theorem dd227_6 : decode cX13_waitsBehind 6 = .ok (.invokevirtual 583, 3) := by decide +kernel
theorem dd227_9 : decode cX13_waitsBehind 9 = .ok (.if_icmp .ge 47, 3) := by decide +kernel
theorem dd227_12 : decode cX13_waitsBehind 12 = .ok (.aload_n 0, 1) := by decide +kernel
theorem dd227_13 : decode cX13_waitsBehind 13 = .ok (.iload_n 3, 1) := by decide +kernel
theorem dd227_14 : decode cX13_waitsBehind 14 = .ok (.invokevirtual 709, 3) := by decide +kernel
theorem dd227_17 : decode cX13_waitsBehind 17 = .ok (.ifCond .eq 33, 3) := by decide +kernel
theorem dd227_20 : decode cX13_waitsBehind 20 = .ok (.iload_n 1, 1) := by decide +kernel
theorem dd227_21 : decode cX13_waitsBehind 21 = .ok (.iconst (-1), 1) := by decide +kernel
theorem dd227_22 : decode cX13_waitsBehind 22 = .ok (.if_icmp .eq 12, 3) := by decide +kernel
theorem dd227_25 : decode cX13_waitsBehind 25 = .ok (.aload_n 0, 1) := by decide +kernel
theorem dd227_26 : decode cX13_waitsBehind 26 = .ok (.iload_n 1, 1) := by decide +kernel
theorem dd227_27 : decode cX13_waitsBehind 27 = .ok (.iload_n 3, 1) := by decide +kernel
theorem dd227_28 : decode cX13_waitsBehind 28 = .ok (.invokevirtual 745, 3) := by decide +kernel
theorem dd227_31 : decode cX13_waitsBehind 31 = .ok (.ifCond .eq 19, 3) := by decide +kernel
theorem dd227_34 : decode cX13_waitsBehind 34 = .ok (.iload_n 2, 1) := by decide +kernel
theorem dd227_35 : decode cX13_waitsBehind 35 = .ok (.iconst (-1), 1) := by decide +kernel
theorem dd227_36 : decode cX13_waitsBehind 36 = .ok (.if_icmp .eq 12, 3) := by decide +kernel
theorem dd227_39 : decode cX13_waitsBehind 39 = .ok (.aload_n 0, 1) := by decide +kernel
theorem dd227_40 : decode cX13_waitsBehind 40 = .ok (.iload_n 3, 1) := by decide +kernel
theorem dd227_41 : decode cX13_waitsBehind 41 = .ok (.iload_n 2, 1) := by decide +kernel
theorem dd227_42 : decode cX13_waitsBehind 42 = .ok (.invokevirtual 745, 3) := by decide +kernel
theorem dd227_45 : decode cX13_waitsBehind 45 = .ok (.ifCond .eq 5, 3) := by decide +kernel
theorem dd227_48 : decode cX13_waitsBehind 48 = .ok (.iload_n 3, 1) := by decide +kernel
theorem dd227_49 : decode cX13_waitsBehind 49 = .ok (.istore_n 2, 1) := by decide +kernel
theorem dd227_50 : decode cX13_waitsBehind 50 = .ok (.iinc 3 1, 3) := by decide +kernel
theorem dd227_53 : decode cX13_waitsBehind 53 = .ok (.goto (-49), 3) := by decide +kernel
theorem dd227_56 : decode cX13_waitsBehind 56 = .ok (.iload_n 2, 1) := by decide +kernel
theorem dd227_57 : decode cX13_waitsBehind 57 = .ok (.ireturn, 1) := by decide +kernel
def f227_50 (n : Nat) (r4 : Int32 → Int32 → Int32 → zσ → Option (Int32 × zσ)) (x1 : Int32) (x2 : Int32) (x3 : Int32) (s : zσ) : Option (Int32 × zσ) :=
    r4 x1 x2 (x3 + (1 : Int32)) s
set_option maxRecDepth 20000 in
theorem f227_50_ok {n d : Nat} {r4 : Int32 → Int32 → Int32 → zσ → Option (Int32 × zσ)} {x1 : Int32} {x2 : Int32} {x3 : Int32} {s : zσ} {v : Int32} {s2 : zσ} (hd : 1 ≤ d) (hr4 : ∀ (x1 : Int32) (x2 : Int32) (x3 : Int32) (s : zσ) (v : Int32) (s2 : zσ), r4 x1 x2 x3 s = some (v, s2) → ∀ {w : zσ} {fz : Bool} {L : Nat} {xs : Nat → Int32}, zGo (zX fz L xs) d q_227 (4, [(0, .ref 1132), (1, .int x1), (2, .int x2), (3, .int x3)], [], zmk w s, 0, 0) (some (.int v), zmk w s2, 0, 0)) (h : f227_50 n r4 x1 x2 x3 s = some (v, s2)) {w : zσ} {fz : Bool} {L : Nat} {xs : Nat → Int32} : zGo (zX fz L xs) d q_227 (50, [(0, .ref 1132), (1, .int x1), (2, .int x2), (3, .int x3)], [], zmk w s, 0, 0) (some (.int v), zmk w s2, 0, 0) := by
  obtain ⟨d, rfl⟩ : ∃ d0, d = d0 + 1 := ⟨d - 1, by omega⟩
  unfold f227_50 at h
  refine zGo_s (pc' := 53) (st' := []) (lv' := [(3, .int (x3 + (1 : Int32))), (0, .ref 1132), (1, .int x1), (2, .int x2)]) dd227_50 rfl ?_
  refine zGo_s (pc' := 4) (st' := []) dd227_53 rfl ?_
  exact zGo_lv (lv := [(0, .ref 1132), (1, .int x1), (2, .int x2), (3, .int (x3 + (1 : Int32)))]) ⟨by simp, by simp, by simp⟩ (hr4 _ _ _ _ _ _ h)
def f227_48 (n : Nat) (r4 : Int32 → Int32 → Int32 → zσ → Option (Int32 × zσ)) (x1 : Int32) (x3 : Int32) (s : zσ) : Option (Int32 × zσ) :=
    f227_50 n r4 x1 x3 x3 s
set_option maxRecDepth 20000 in
theorem f227_48_ok {n d : Nat} {r4 : Int32 → Int32 → Int32 → zσ → Option (Int32 × zσ)} {x1 : Int32} {x3 : Int32} {s : zσ} {v : Int32} {s2 : zσ} (hd : 1 ≤ d) (hr4 : ∀ (x1 : Int32) (x2 : Int32) (x3 : Int32) (s : zσ) (v : Int32) (s2 : zσ), r4 x1 x2 x3 s = some (v, s2) → ∀ {w : zσ} {fz : Bool} {L : Nat} {xs : Nat → Int32}, zGo (zX fz L xs) d q_227 (4, [(0, .ref 1132), (1, .int x1), (2, .int x2), (3, .int x3)], [], zmk w s, 0, 0) (some (.int v), zmk w s2, 0, 0)) (h : f227_48 n r4 x1 x3 s = some (v, s2)) {w : zσ} {fz : Bool} {L : Nat} {xs : Nat → Int32} : zGo (zX fz L xs) d q_227 (48, [(0, .ref 1132), (1, .int x1), (3, .int x3)], [], zmk w s, 0, 0) (some (.int v), zmk w s2, 0, 0) := by
  obtain ⟨d, rfl⟩ : ∃ d0, d = d0 + 1 := ⟨d - 1, by omega⟩
  unfold f227_48 at h
  refine zGo_s (pc' := 49) (st' := [.int x3]) dd227_48 rfl ?_
  refine zGo_s (pc' := 50) (st' := []) (lv' := [(2, .int x3), (0, .ref 1132), (1, .int x1), (3, .int x3)]) dd227_49 rfl ?_
  exact zGo_lv (lv := [(0, .ref 1132), (1, .int x1), (2, .int x3), (3, .int x3)]) ⟨by simp, by simp, by simp⟩ (f227_50_ok hd hr4 h)
def f227_34 (n : Nat) (r4 : Int32 → Int32 → Int32 → zσ → Option (Int32 × zσ)) (x1 : Int32) (x2 : Int32) (x3 : Int32) (s : zσ) : Option (Int32 × zσ) :=
    if x2 = (-1 : Int32) then
    f227_48 n r4 x1 x3 s
    else yb1 (f229 n x3 x2 s) fun v2 u1 =>
    if v2 = (0 : Int32) then
    f227_50 n r4 x1 x2 x3 u1
    else f227_48 n r4 x1 x3 u1
set_option maxRecDepth 20000 in
theorem f227_34_ok {n d : Nat} {r4 : Int32 → Int32 → Int32 → zσ → Option (Int32 × zσ)} {x1 : Int32} {x2 : Int32} {x3 : Int32} {s : zσ} {v : Int32} {s2 : zσ} (hd : 1 ≤ d) (hr4 : ∀ (x1 : Int32) (x2 : Int32) (x3 : Int32) (s : zσ) (v : Int32) (s2 : zσ), r4 x1 x2 x3 s = some (v, s2) → ∀ {w : zσ} {fz : Bool} {L : Nat} {xs : Nat → Int32}, zGo (zX fz L xs) d q_227 (4, [(0, .ref 1132), (1, .int x1), (2, .int x2), (3, .int x3)], [], zmk w s, 0, 0) (some (.int v), zmk w s2, 0, 0)) (h : f227_34 n r4 x1 x2 x3 s = some (v, s2)) {w : zσ} {fz : Bool} {L : Nat} {xs : Nat → Int32} : zGo (zX fz L xs) d q_227 (34, [(0, .ref 1132), (1, .int x1), (2, .int x2), (3, .int x3)], [], zmk w s, 0, 0) (some (.int v), zmk w s2, 0, 0) := by
  obtain ⟨d, rfl⟩ : ∃ d0, d = d0 + 1 := ⟨d - 1, by omega⟩
  unfold f227_34 at h
  refine zGo_s (pc' := 35) (st' := [.int x2]) dd227_34 rfl ?_
  refine zGo_s (pc' := 36) (st' := [.int (-1 : Int32), .int x2]) dd227_35 rfl ?_
  rcases oite h with ⟨hc, h⟩ | ⟨hc, h⟩
  · refine zIT dd227_36 rfl (kEqT hc) ?_
    exact zGo_lv (lv := [(0, .ref 1132), (1, .int x1), (3, .int x3)]) ⟨by simp, by simp, by simp⟩ (f227_48_ok hd hr4 h)
  · refine zIF dd227_36 (kEqF hc) ?_
    refine zGo_s (pc' := 40) (st' := [.ref 1132]) dd227_39 rfl ?_
    refine zGo_s (pc' := 41) (st' := [.int x3, .ref 1132]) dd227_40 rfl ?_
    refine zGo_s (pc' := 42) (st' := [.int x2, .int x3, .ref 1132]) dd227_41 rfl ?_
    obtain ⟨v2, u1, hq, h⟩ := obnd h
    refine zCV1 (As := [.int x3, .int x2]) (rest := []) (b := 1132) (q' := q_229) dd227_42 rfl rfl (rcv_m rfl rfl (by decide)) rfl rfl rfl (f229_ok (d := d) (by omega)  hq) ?_
    rcases oite h with ⟨hc, h⟩ | ⟨hc, h⟩
    · refine zUT dd227_45 rfl (kEqT hc) ?_
      exact f227_50_ok hd hr4 h
    · refine zUF dd227_45 (kEqF hc) ?_
      exact zGo_lv (lv := [(0, .ref 1132), (1, .int x1), (3, .int x3)]) ⟨by simp, by simp, by simp⟩ (f227_48_ok hd hr4 h)
def f227_4 (n : Nat) : Nat → Int32 → Int32 → Int32 → zσ → Option (Int32 × zσ)
  | 0, _, _, _, _ => none
  | j + 1, x1, x2, x3, s =>
    yb1 (f209 n s) fun v2 u1 =>
    if x3 < v2 then
    yb1 (f228 n x3 u1) fun v4 u3 =>
    if v4 = (0 : Int32) then
    f227_50 n (f227_4 n j) x1 x2 x3 u3
    else if x1 = (-1 : Int32) then
    f227_34 n (f227_4 n j) x1 x2 x3 u3
    else yb1 (f229 n x1 x3 u3) fun v6 u5 =>
    if v6 = (0 : Int32) then
    f227_50 n (f227_4 n j) x1 x2 x3 u5
    else f227_34 n (f227_4 n j) x1 x2 x3 u5
    else some (x2, u1)
set_option maxRecDepth 20000 in
theorem f227_4_ok {n d : Nat} (hd : 1 ≤ d) : ∀ (j : Nat) (x1 : Int32) (x2 : Int32) (x3 : Int32) (s : zσ) (v : Int32) (s2 : zσ), f227_4 n j x1 x2 x3 s = some (v, s2) → ∀ {w : zσ} {fz : Bool} {L : Nat} {xs : Nat → Int32}, zGo (zX fz L xs) d q_227 (4, [(0, .ref 1132), (1, .int x1), (2, .int x2), (3, .int x3)], [], zmk w s, 0, 0) (some (.int v), zmk w s2, 0, 0) := by
  obtain ⟨d, rfl⟩ : ∃ d0, d = d0 + 1 := ⟨d - 1, by omega⟩
  intro j
  induction j with
  | zero => intro x1 x2 x3 s v s2 h; cases h
  | succ j ih =>
    intro x1 x2 x3 s v s2 h w fz L xs
    rw [f227_4] at h
    refine zGo_s (pc' := 5) (st' := [.int x3]) dd227_4 rfl ?_
    refine zGo_s (pc' := 6) (st' := [.ref 1132, .int x3]) dd227_5 rfl ?_
    obtain ⟨v2, u1, hq, h⟩ := obnd h
    refine zCV1 (As := []) (rest := [.int x3]) (b := 1132) (q' := q_209) dd227_6 rfl rfl (rcv_m rfl rfl (by decide)) rfl rfl rfl (f209_ok (d := d) (by omega)  hq) ?_
    rcases oite h with ⟨hc, h⟩ | ⟨hc, h⟩
    · refine zIF dd227_9 (kGeF hc) ?_
      refine zGo_s (pc' := 13) (st' := [.ref 1132]) dd227_12 rfl ?_
      refine zGo_s (pc' := 14) (st' := [.int x3, .ref 1132]) dd227_13 rfl ?_
      obtain ⟨v4, u3, hq, h⟩ := obnd h
      refine zCV1 (As := [.int x3]) (rest := []) (b := 1132) (q' := q_228) dd227_14 rfl rfl (rcv_m rfl rfl (by decide)) rfl rfl rfl (f228_ok (d := d) (by omega)  hq) ?_
      rcases oite h with ⟨hc, h⟩ | ⟨hc, h⟩
      · refine zUT dd227_17 rfl (kEqT hc) ?_
        exact f227_50_ok hd ih h
      · refine zUF dd227_17 (kEqF hc) ?_
        refine zGo_s (pc' := 21) (st' := [.int x1]) dd227_20 rfl ?_
        refine zGo_s (pc' := 22) (st' := [.int (-1 : Int32), .int x1]) dd227_21 rfl ?_
        rcases oite h with ⟨hc, h⟩ | ⟨hc, h⟩
        · refine zIT dd227_22 rfl (kEqT hc) ?_
          exact f227_34_ok hd ih h
        · refine zIF dd227_22 (kEqF hc) ?_
          refine zGo_s (pc' := 26) (st' := [.ref 1132]) dd227_25 rfl ?_
          refine zGo_s (pc' := 27) (st' := [.int x1, .ref 1132]) dd227_26 rfl ?_
          refine zGo_s (pc' := 28) (st' := [.int x3, .int x1, .ref 1132]) dd227_27 rfl ?_
          obtain ⟨v6, u5, hq, h⟩ := obnd h
          refine zCV1 (As := [.int x1, .int x3]) (rest := []) (b := 1132) (q' := q_229) dd227_28 rfl rfl (rcv_m rfl rfl (by decide)) rfl rfl rfl (f229_ok (d := d) (by omega)  hq) ?_
          rcases oite h with ⟨hc, h⟩ | ⟨hc, h⟩
          · refine zUT dd227_31 rfl (kEqT hc) ?_
            exact f227_50_ok hd ih h
          · refine zUF dd227_31 (kEqF hc) ?_
            exact f227_34_ok hd ih h
    · refine zIT dd227_9 rfl (kGeT hc) ?_
      refine zGo_s (pc' := 57) (st' := [.int x2]) dd227_56 rfl ?_
      obtain ⟨rfl, rfl⟩ := oret h
      exact zGo_ret dd227_57 rfl rfl
def f227 (n : Nat) (x1 : Int32) (s : zσ) : Option (Int32 × zσ) :=
    f227_4 n n x1 (-1 : Int32) (0 : Int32) s
set_option maxRecDepth 20000 in
theorem f227_ok {n d : Nat} {x1 : Int32} {s : zσ} {v : Int32} {s2 : zσ} (hd : 1 ≤ d) (h : f227 n x1 s = some (v, s2)) {w : zσ} {fz : Bool} {L : Nat} {xs : Nat → Int32} : zGo (zX fz L xs) d q_227 (0, [(0, .ref 1132), (1, .int x1)], [], zmk w s, 0, 0) (some (.int v), zmk w s2, 0, 0) := by
  obtain ⟨d, rfl⟩ : ∃ d0, d = d0 + 1 := ⟨d - 1, by omega⟩
  unfold f227 at h
  refine zGo_s (pc' := 1) (st' := [.int (-1 : Int32)]) dd227_0 rfl ?_
  refine zGo_s (pc' := 2) (st' := []) (lv' := [(2, .int (-1 : Int32)), (0, .ref 1132), (1, .int x1)]) dd227_1 rfl ?_
  refine zGo_s (pc' := 3) (st' := [.int (0 : Int32)]) dd227_2 rfl ?_
  refine zGo_s (pc' := 4) (st' := []) (lv' := [(3, .int (0 : Int32)), (2, .int (-1 : Int32)), (0, .ref 1132), (1, .int x1)]) dd227_3 rfl ?_
  exact zGo_lv (lv := [(0, .ref 1132), (1, .int x1), (2, .int (-1 : Int32)), (3, .int (0 : Int32))]) ⟨by simp, by simp, by simp⟩ (f227_4_ok hd _ _ _ _ _ _ _ h)
/-! PHModel.wantedOf(II)I -/
theorem dd232_0 : decode cX13_wantedOf 0 = .ok (.iconst 0, 1) := by decide +kernel
theorem dd232_1 : decode cX13_wantedOf 1 = .ok (.istore_n 3, 1) := by decide +kernel
theorem dd232_2 : decode cX13_wantedOf 2 = .ok (.iconst 0, 1) := by decide +kernel
theorem dd232_3 : decode cX13_wantedOf 3 = .ok (.istore 4, 2) := by decide +kernel
theorem dd232_5 : decode cX13_wantedOf 5 = .ok (.iload 4, 2) := by decide +kernel
theorem dd232_7 : decode cX13_wantedOf 7 = .ok (.aload_n 0, 1) := by decide +kernel
theorem dd232_8 : decode cX13_wantedOf 8 = .ok (.getfield 20, 3) := by decide +kernel
theorem dd232_11 : decode cX13_wantedOf 11 = .ok (.getfield 450, 3) := by decide +kernel
theorem dd232_14 : decode cX13_wantedOf 14 = .ok (.iload_n 1, 1) := by decide +kernel
theorem dd232_15 : decode cX13_wantedOf 15 = .ok (.iaload, 1) := by decide +kernel
theorem dd232_16 : decode cX13_wantedOf 16 = .ok (.if_icmp .ge 43, 3) := by decide +kernel
theorem dd232_19 : decode cX13_wantedOf 19 = .ok (.iload_n 3, 1) := by decide +kernel
theorem dd232_20 : decode cX13_wantedOf 20 = .ok (.aload_n 0, 1) := by decide +kernel
theorem dd232_21 : decode cX13_wantedOf 21 = .ok (.getfield 20, 3) := by decide +kernel
theorem dd232_24 : decode cX13_wantedOf 24 = .ok (.getfield 544, 3) := by decide +kernel
theorem dd232_27 : decode cX13_wantedOf 27 = .ok (.aload_n 0, 1) := by decide +kernel
theorem dd232_28 : decode cX13_wantedOf 28 = .ok (.getfield 20, 3) := by decide +kernel
theorem dd232_31 : decode cX13_wantedOf 31 = .ok (.getfield 487, 3) := by decide +kernel
theorem dd232_34 : decode cX13_wantedOf 34 = .ok (.iconst 4, 1) := by decide +kernel
theorem dd232_35 : decode cX13_wantedOf 35 = .ok (.iload_n 1, 1) := by decide +kernel
theorem dd232_36 : decode cX13_wantedOf 36 = .ok (.imul, 1) := by decide +kernel
theorem dd232_37 : decode cX13_wantedOf 37 = .ok (.iload 4, 2) := by decide +kernel
theorem dd232_39 : decode cX13_wantedOf 39 = .ok (.iadd, 1) := by decide +kernel
theorem dd232_40 : decode cX13_wantedOf 40 = .ok (.iaload, 1) := by decide +kernel
theorem dd232_41 : decode cX13_wantedOf 41 = .ok (.iaload, 1) := by decide +kernel
theorem dd232_42 : decode cX13_wantedOf 42 = .ok (.iload_n 2, 1) := by decide +kernel
theorem dd232_43 : decode cX13_wantedOf 43 = .ok (.if_icmp .ne 7, 3) := by decide +kernel
theorem dd232_46 : decode cX13_wantedOf 46 = .ok (.iconst 1, 1) := by decide +kernel
theorem dd232_47 : decode cX13_wantedOf 47 = .ok (.goto 4, 3) := by decide +kernel
theorem dd232_50 : decode cX13_wantedOf 50 = .ok (.iconst 0, 1) := by decide +kernel
theorem dd232_51 : decode cX13_wantedOf 51 = .ok (.iadd, 1) := by decide +kernel
theorem dd232_52 : decode cX13_wantedOf 52 = .ok (.istore_n 3, 1) := by decide +kernel
theorem dd232_53 : decode cX13_wantedOf 53 = .ok (.iinc 4 1, 3) := by decide +kernel
theorem dd232_56 : decode cX13_wantedOf 56 = .ok (.goto (-51), 3) := by decide +kernel
theorem dd232_59 : decode cX13_wantedOf 59 = .ok (.iload_n 3, 1) := by decide +kernel
theorem dd232_60 : decode cX13_wantedOf 60 = .ok (.ireturn, 1) := by decide +kernel
def f232_51 (n : Nat) (r5 : Int32 → Int32 → Int32 → Int32 → zσ → Option (Int32 × zσ)) (x1 : Int32) (x2 : Int32) (x4 : Int32) (y0 : Int32) (y1 : Int32) (s : zσ) : Option (Int32 × zσ) :=
    zlet ((y1 + y0)) fun v1 =>
    r5 x1 x2 v1 (x4 + (1 : Int32)) s
set_option maxRecDepth 20000 in
theorem f232_51_ok {n d : Nat} {r5 : Int32 → Int32 → Int32 → Int32 → zσ → Option (Int32 × zσ)} {x1 : Int32} {x2 : Int32} {x4 : Int32} {y0 : Int32} {y1 : Int32} {s : zσ} {v : Int32} {s2 : zσ} (hd : 0 ≤ d) (hr5 : ∀ (x1 : Int32) (x2 : Int32) (x3 : Int32) (x4 : Int32) (s : zσ) (v : Int32) (s2 : zσ), r5 x1 x2 x3 x4 s = some (v, s2) → ∀ {w : zσ} {fz : Bool} {L : Nat} {xs : Nat → Int32}, zGo (zX fz L xs) d q_232 (5, [(0, .ref 1132), (1, .int x1), (2, .int x2), (3, .int x3), (4, .int x4)], [], zmk w s, 0, 0) (some (.int v), zmk w s2, 0, 0)) (h : f232_51 n r5 x1 x2 x4 y0 y1 s = some (v, s2)) {w : zσ} {fz : Bool} {L : Nat} {xs : Nat → Int32} : zGo (zX fz L xs) d q_232 (51, [(0, .ref 1132), (1, .int x1), (2, .int x2), (4, .int x4)], [.int y0, .int y1], zmk w s, 0, 0) (some (.int v), zmk w s2, 0, 0) := by
  unfold f232_51 at h
  refine zGo_s (pc' := 52) (st' := [.int (y1 + y0)]) dd232_51 rfl ?_
  obtain ⟨v1, e_v1, h⟩ := olet h
  refine zGo_is1 e_v1 dd232_52 (x' := (53, [(3, .int v1), (0, .ref 1132), (1, .int x1), (2, .int x2), (4, .int x4)], [], _, _, _)) rfl ?_
  refine zGo_s (pc' := 56) (st' := []) (lv' := [(4, .int (x4 + (1 : Int32))), (3, .int v1), (0, .ref 1132), (1, .int x1), (2, .int x2)]) dd232_53 rfl ?_
  refine zGo_s (pc' := 5) (st' := []) dd232_56 rfl ?_
  exact zGo_lv (lv := [(0, .ref 1132), (1, .int x1), (2, .int x2), (3, .int v1), (4, .int (x4 + (1 : Int32)))]) ⟨by simp, by simp, by simp⟩ (hr5 _ _ _ _ _ _ _ h)
def f232_5 (n : Nat) : Nat → Int32 → Int32 → Int32 → Int32 → zσ → Option (Int32 × zσ)
  | 0, _, _, _, _, _ => none
  | j + 1, x1, x2, x3, x4, s =>
    zrd 12 (s.2.2 1132 11) fun a1 =>
    if zin? x1 200 = true then
    if x4 < (s.1 (a1 + 20) (nx x1)) then
    zrd 12 (s.2.2 1132 11) fun a2 =>
    zrd 12 (s.2.2 1132 11) fun a3 =>
    if zin? (((4 : Int32) * x1) + x4) 800 = true then
    if zin? (s.1 (a3 + 21) (nx (((4 : Int32) * x1) + x4))) 1400 = true then
    if (s.1 (a2 + 33) (nx (s.1 (a3 + 21) (nx (((4 : Int32) * x1) + x4))))) = x2 then
    f232_51 n (f232_5 n j) x1 x2 x4 (1 : Int32) x3 s
    else f232_51 n (f232_5 n j) x1 x2 x4 (0 : Int32) x3 s
    else none
    else none
    else some (x3, s)
    else none
set_option maxRecDepth 20000 in
theorem f232_5_ok {n d : Nat} (hd : 0 ≤ d) : ∀ (j : Nat) (x1 : Int32) (x2 : Int32) (x3 : Int32) (x4 : Int32) (s : zσ) (v : Int32) (s2 : zσ), f232_5 n j x1 x2 x3 x4 s = some (v, s2) → ∀ {w : zσ} {fz : Bool} {L : Nat} {xs : Nat → Int32}, zGo (zX fz L xs) d q_232 (5, [(0, .ref 1132), (1, .int x1), (2, .int x2), (3, .int x3), (4, .int x4)], [], zmk w s, 0, 0) (some (.int v), zmk w s2, 0, 0) := by
  intro j
  induction j with
  | zero => intro x1 x2 x3 x4 s v s2 h; cases h
  | succ j ih =>
    intro x1 x2 x3 x4 s v s2 h w fz L xs
    rw [f232_5] at h
    refine zGo_s (pc' := 7) (st' := [.int x4]) dd232_5 rfl ?_
    refine zGo_s (pc' := 8) (st' := [.ref 1132, .int x4]) dd232_7 rfl ?_
    obtain ⟨a1, e_a1, c_a1, h⟩ := ordd h
    refine mGR dd232_8 rfl rfl rfl rfl e_a1 ?_
    refine mGF (e := (a1 + 20)) dd232_11 rfl (ck12_s c_a1).1 (ck12_s c_a1).2 rfl (cf12_22 c_a1).1 ?_
    refine zGo_s (pc' := 15) (st' := [.int x1, .ref (a1 + 20), .int x4]) dd232_14 rfl ?_
    obtain ⟨hi, h⟩ := ochk h
    refine mIA dd232_15 (cf12_22 c_a1).2.1 (cf12_22 c_a1).2.2 hi ?_
    rcases oite h with ⟨hc, h⟩ | ⟨hc, h⟩
    · refine zIF dd232_16 (kGeF hc) ?_
      refine zGo_s (pc' := 20) (st' := [.int x3]) dd232_19 rfl ?_
      refine zGo_s (pc' := 21) (st' := [.ref 1132, .int x3]) dd232_20 rfl ?_
      obtain ⟨a2, e_a2, c_a2, h⟩ := ordd h
      refine mGR dd232_21 rfl rfl rfl rfl e_a2 ?_
      refine mGF (e := (a2 + 33)) dd232_24 rfl (ck12_s c_a2).1 (ck12_s c_a2).2 rfl (cf12_39 c_a2).1 ?_
      refine zGo_s (pc' := 28) (st' := [.ref 1132, .ref (a2 + 33), .int x3]) dd232_27 rfl ?_
      obtain ⟨a3, e_a3, c_a3, h⟩ := ordd h
      refine mGR dd232_28 rfl rfl rfl rfl e_a3 ?_
      refine mGF (e := (a3 + 21)) dd232_31 rfl (ck12_s c_a3).1 (ck12_s c_a3).2 rfl (cf12_23 c_a3).1 ?_
      refine zGo_s (pc' := 35) (st' := [.int (4 : Int32), .ref (a3 + 21), .ref (a2 + 33), .int x3]) dd232_34 rfl ?_
      refine zGo_s (pc' := 36) (st' := [.int x1, .int (4 : Int32), .ref (a3 + 21), .ref (a2 + 33), .int x3]) dd232_35 rfl ?_
      refine zGo_s (pc' := 37) (st' := [.int ((4 : Int32) * x1), .ref (a3 + 21), .ref (a2 + 33), .int x3]) dd232_36 rfl ?_
      refine zGo_s (pc' := 39) (st' := [.int x4, .int ((4 : Int32) * x1), .ref (a3 + 21), .ref (a2 + 33), .int x3]) dd232_37 rfl ?_
      refine zGo_s (pc' := 40) (st' := [.int (((4 : Int32) * x1) + x4), .ref (a3 + 21), .ref (a2 + 33), .int x3]) dd232_39 rfl ?_
      obtain ⟨hi, h⟩ := ochk h
      refine mIA dd232_40 (cf12_23 c_a3).2.1 (cf12_23 c_a3).2.2 hi ?_
      obtain ⟨hi, h⟩ := ochk h
      refine mIA dd232_41 (cf12_39 c_a2).2.1 (cf12_39 c_a2).2.2 hi ?_
      refine zGo_s (pc' := 43) (st' := [.int x2, .int (s.1 (a2 + 33) (nx (s.1 (a3 + 21) (nx (((4 : Int32) * x1) + x4))))), .int x3]) dd232_42 rfl ?_
      rcases oite h with ⟨hc, h⟩ | ⟨hc, h⟩
      · refine zIF dd232_43 (kNeF hc) ?_
        refine zGo_s (pc' := 47) (st' := [.int (1 : Int32), .int x3]) dd232_46 rfl ?_
        refine zGo_s (pc' := 51) (st' := [.int (1 : Int32), .int x3]) dd232_47 rfl ?_
        exact zGo_lv (lv := [(0, .ref 1132), (1, .int x1), (2, .int x2), (4, .int x4)]) ⟨by simp, by simp, by simp⟩ (f232_51_ok hd ih h)
      · refine zIT dd232_43 rfl (kNeT hc) ?_
        refine zGo_s (pc' := 51) (st' := [.int (0 : Int32), .int x3]) dd232_50 rfl ?_
        exact zGo_lv (lv := [(0, .ref 1132), (1, .int x1), (2, .int x2), (4, .int x4)]) ⟨by simp, by simp, by simp⟩ (f232_51_ok hd ih h)
    · refine zIT dd232_16 rfl (kGeT hc) ?_
      refine zGo_s (pc' := 60) (st' := [.int x3]) dd232_59 rfl ?_
      obtain ⟨rfl, rfl⟩ := oret h
      exact zGo_ret dd232_60 rfl rfl
def f232 (n : Nat) (x1 : Int32) (x2 : Int32) (s : zσ) : Option (Int32 × zσ) :=
    f232_5 n n x1 x2 (0 : Int32) (0 : Int32) s
set_option maxRecDepth 20000 in
theorem f232_ok {n d : Nat} {x1 : Int32} {x2 : Int32} {s : zσ} {v : Int32} {s2 : zσ} (hd : 0 ≤ d) (h : f232 n x1 x2 s = some (v, s2)) {w : zσ} {fz : Bool} {L : Nat} {xs : Nat → Int32} : zGo (zX fz L xs) d q_232 (0, [(0, .ref 1132), (1, .int x1), (2, .int x2)], [], zmk w s, 0, 0) (some (.int v), zmk w s2, 0, 0) := by
  unfold f232 at h
  refine zGo_s (pc' := 1) (st' := [.int (0 : Int32)]) dd232_0 rfl ?_
  refine zGo_s (pc' := 2) (st' := []) (lv' := [(3, .int (0 : Int32)), (0, .ref 1132), (1, .int x1), (2, .int x2)]) dd232_1 rfl ?_
  refine zGo_s (pc' := 3) (st' := [.int (0 : Int32)]) dd232_2 rfl ?_
  refine zGo_s (pc' := 5) (st' := []) (lv' := [(4, .int (0 : Int32)), (3, .int (0 : Int32)), (0, .ref 1132), (1, .int x1), (2, .int x2)]) dd232_3 rfl ?_
  exact zGo_lv (lv := [(0, .ref 1132), (1, .int x1), (2, .int x2), (3, .int (0 : Int32)), (4, .int (0 : Int32))]) ⟨by simp, by simp, by simp⟩ (f232_5_ok hd _ _ _ _ _ _ _ _ h)
/-! PHModel.canAsk(I)Z -/
theorem dd231_0 : decode cX13_canAsk 0 = .ok (.iconst 1, 1) := by decide +kernel
theorem dd231_1 : decode cX13_canAsk 1 = .ok (.istore_n 2, 1) := by decide +kernel
theorem dd231_2 : decode cX13_canAsk 2 = .ok (.iconst 0, 1) := by decide +kernel
theorem dd231_3 : decode cX13_canAsk 3 = .ok (.istore_n 3, 1) := by decide +kernel
theorem dd231_4 : decode cX13_canAsk 4 = .ok (.iload_n 3, 1) := by decide +kernel
theorem dd231_5 : decode cX13_canAsk 5 = .ok (.iconst 4, 1) := by decide +kernel
theorem dd231_6 : decode cX13_canAsk 6 = .ok (.if_icmp .ge 34, 3) := by decide +kernel
theorem dd231_9 : decode cX13_canAsk 9 = .ok (.iload_n 2, 1) := by decide +kernel
theorem dd231_10 : decode cX13_canAsk 10 = .ok (.ifCond .eq 22, 3) := by decide +kernel
theorem dd231_13 : decode cX13_canAsk 13 = .ok (.aload_n 0, 1) := by decide +kernel
theorem dd231_14 : decode cX13_canAsk 14 = .ok (.getfield 48, 3) := by decide +kernel
theorem dd231_17 : decode cX13_canAsk 17 = .ok (.iload_n 3, 1) := by decide +kernel
theorem dd231_18 : decode cX13_canAsk 18 = .ok (.iaload, 1) := by decide +kernel
theorem dd231_19 : decode cX13_canAsk 19 = .ok (.aload_n 0, 1) := by decide +kernel
theorem dd231_20 : decode cX13_canAsk 20 = .ok (.iload_n 1, 1) := by decide +kernel
theorem dd231_21 : decode cX13_canAsk 21 = .ok (.iload_n 3, 1) := by decide +kernel
theorem dd231_22 : decode cX13_canAsk 22 = .ok (.invokevirtual 700, 3) := by decide +kernel
theorem dd231_25 : decode cX13_canAsk 25 = .ok (.if_icmp .lt 7, 3) := by decide +kernel
theorem dd231_28 : decode cX13_canAsk 28 = .ok (.iconst 1, 1) := by decide +kernel
theorem dd231_29 : decode cX13_canAsk 29 = .ok (.goto 4, 3) := by decide +kernel
theorem dd231_32 : decode cX13_canAsk 32 = .ok (.iconst 0, 1) := by decide +kernel
theorem dd231_33 : decode cX13_canAsk 33 = .ok (.istore_n 2, 1) := by decide +kernel
theorem dd231_34 : decode cX13_canAsk 34 = .ok (.iinc 3 1, 3) := by decide +kernel
theorem dd231_37 : decode cX13_canAsk 37 = .ok (.goto (-33), 3) := by decide +kernel
theorem dd231_40 : decode cX13_canAsk 40 = .ok (.iload_n 2, 1) := by decide +kernel
theorem dd231_41 : decode cX13_canAsk 41 = .ok (.ireturn, 1) := by decide +kernel
def f231_33 (n : Nat) (r4 : Int32 → Int32 → Int32 → zσ → Option (Int32 × zσ)) (x1 : Int32) (x3 : Int32) (y0 : Int32) (s : zσ) : Option (Int32 × zσ) :=
    r4 x1 y0 (x3 + (1 : Int32)) s
set_option maxRecDepth 20000 in
theorem f231_33_ok {n d : Nat} {r4 : Int32 → Int32 → Int32 → zσ → Option (Int32 × zσ)} {x1 : Int32} {x3 : Int32} {y0 : Int32} {s : zσ} {v : Int32} {s2 : zσ} (hd : 1 ≤ d) (hr4 : ∀ (x1 : Int32) (x2 : Int32) (x3 : Int32) (s : zσ) (v : Int32) (s2 : zσ), r4 x1 x2 x3 s = some (v, s2) → ∀ {w : zσ} {fz : Bool} {L : Nat} {xs : Nat → Int32}, zGo (zX fz L xs) d q_231 (4, [(0, .ref 1132), (1, .int x1), (2, .int x2), (3, .int x3)], [], zmk w s, 0, 0) (some (.int v), zmk w s2, 0, 0)) (h : f231_33 n r4 x1 x3 y0 s = some (v, s2)) {w : zσ} {fz : Bool} {L : Nat} {xs : Nat → Int32} : zGo (zX fz L xs) d q_231 (33, [(0, .ref 1132), (1, .int x1), (3, .int x3)], [.int y0], zmk w s, 0, 0) (some (.int v), zmk w s2, 0, 0) := by
  obtain ⟨d, rfl⟩ : ∃ d0, d = d0 + 1 := ⟨d - 1, by omega⟩
  unfold f231_33 at h
  refine zGo_s (pc' := 34) (st' := []) (lv' := [(2, .int y0), (0, .ref 1132), (1, .int x1), (3, .int x3)]) dd231_33 rfl ?_
  refine zGo_s (pc' := 37) (st' := []) (lv' := [(3, .int (x3 + (1 : Int32))), (2, .int y0), (0, .ref 1132), (1, .int x1)]) dd231_34 rfl ?_
  refine zGo_s (pc' := 4) (st' := []) dd231_37 rfl ?_
  exact zGo_lv (lv := [(0, .ref 1132), (1, .int x1), (2, .int y0), (3, .int (x3 + (1 : Int32)))]) ⟨by simp, by simp, by simp⟩ (hr4 _ _ _ _ _ _ h)
def f231_32 (n : Nat) (r4 : Int32 → Int32 → Int32 → zσ → Option (Int32 × zσ)) (x1 : Int32) (x3 : Int32) (s : zσ) : Option (Int32 × zσ) :=
    f231_33 n r4 x1 x3 (0 : Int32) s
set_option maxRecDepth 20000 in
theorem f231_32_ok {n d : Nat} {r4 : Int32 → Int32 → Int32 → zσ → Option (Int32 × zσ)} {x1 : Int32} {x3 : Int32} {s : zσ} {v : Int32} {s2 : zσ} (hd : 1 ≤ d) (hr4 : ∀ (x1 : Int32) (x2 : Int32) (x3 : Int32) (s : zσ) (v : Int32) (s2 : zσ), r4 x1 x2 x3 s = some (v, s2) → ∀ {w : zσ} {fz : Bool} {L : Nat} {xs : Nat → Int32}, zGo (zX fz L xs) d q_231 (4, [(0, .ref 1132), (1, .int x1), (2, .int x2), (3, .int x3)], [], zmk w s, 0, 0) (some (.int v), zmk w s2, 0, 0)) (h : f231_32 n r4 x1 x3 s = some (v, s2)) {w : zσ} {fz : Bool} {L : Nat} {xs : Nat → Int32} : zGo (zX fz L xs) d q_231 (32, [(0, .ref 1132), (1, .int x1), (3, .int x3)], [], zmk w s, 0, 0) (some (.int v), zmk w s2, 0, 0) := by
  obtain ⟨d, rfl⟩ : ∃ d0, d = d0 + 1 := ⟨d - 1, by omega⟩
  unfold f231_32 at h
  refine zGo_s (pc' := 33) (st' := [.int (0 : Int32)]) dd231_32 rfl ?_
  exact f231_33_ok hd hr4 h
def f231_4 (n : Nat) : Nat → Int32 → Int32 → Int32 → zσ → Option (Int32 × zσ)
  | 0, _, _, _, _ => none
  | j + 1, x1, x2, x3, s =>
    if x3 < (4 : Int32) then
    if x2 = (0 : Int32) then
    f231_32 n (f231_4 n j) x1 x3 s
    else if zin? x3 4 = true then
    yb1 (f232 n x1 x3 s) fun v2 u1 =>
    if (s.1 1211 (nx x3)) < v2 then
    f231_32 n (f231_4 n j) x1 x3 u1
    else f231_33 n (f231_4 n j) x1 x3 (1 : Int32) u1
    else none
    else if x2 = 0 ∨ x2 = 1 then
    some (x2, s)
    else none
set_option maxRecDepth 20000 in
theorem f231_4_ok {n d : Nat} (hd : 1 ≤ d) : ∀ (j : Nat) (x1 : Int32) (x2 : Int32) (x3 : Int32) (s : zσ) (v : Int32) (s2 : zσ), f231_4 n j x1 x2 x3 s = some (v, s2) → ∀ {w : zσ} {fz : Bool} {L : Nat} {xs : Nat → Int32}, zGo (zX fz L xs) d q_231 (4, [(0, .ref 1132), (1, .int x1), (2, .int x2), (3, .int x3)], [], zmk w s, 0, 0) (some (.int v), zmk w s2, 0, 0) := by
  obtain ⟨d, rfl⟩ : ∃ d0, d = d0 + 1 := ⟨d - 1, by omega⟩
  intro j
  induction j with
  | zero => intro x1 x2 x3 s v s2 h; cases h
  | succ j ih =>
    intro x1 x2 x3 s v s2 h w fz L xs
    rw [f231_4] at h
    refine zGo_s (pc' := 5) (st' := [.int x3]) dd231_4 rfl ?_
    refine zGo_s (pc' := 6) (st' := [.int (4 : Int32), .int x3]) dd231_5 rfl ?_
    rcases oite h with ⟨hc, h⟩ | ⟨hc, h⟩
    · refine zIF dd231_6 (kGeF hc) ?_
      refine zGo_s (pc' := 10) (st' := [.int x2]) dd231_9 rfl ?_
      rcases oite h with ⟨hc, h⟩ | ⟨hc, h⟩
      · refine zUT dd231_10 rfl (kEqT hc) ?_
        exact zGo_lv (lv := [(0, .ref 1132), (1, .int x1), (3, .int x3)]) ⟨by simp, by simp, by simp⟩ (f231_32_ok hd ih h)
      · refine zUF dd231_10 (kEqF hc) ?_
        refine zGo_s (pc' := 14) (st' := [.ref 1132]) dd231_13 rfl ?_
        refine mGF (e := 1211) dd231_14 rfl rfl rfl rfl rfl ?_
        refine zGo_s (pc' := 18) (st' := [.int x3, .ref 1211]) dd231_17 rfl ?_
        obtain ⟨hi, h⟩ := ochk h
        refine mIA dd231_18 rfl rfl hi ?_
        refine zGo_s (pc' := 20) (st' := [.ref 1132, .int (s.1 1211 (nx x3))]) dd231_19 rfl ?_
        refine zGo_s (pc' := 21) (st' := [.int x1, .ref 1132, .int (s.1 1211 (nx x3))]) dd231_20 rfl ?_
        refine zGo_s (pc' := 22) (st' := [.int x3, .int x1, .ref 1132, .int (s.1 1211 (nx x3))]) dd231_21 rfl ?_
        obtain ⟨v2, u1, hq, h⟩ := obnd h
        refine zCV1 (As := [.int x1, .int x3]) (rest := [.int (s.1 1211 (nx x3))]) (b := 1132) (q' := q_232) dd231_22 rfl rfl (rcv_m rfl rfl (by decide)) rfl rfl rfl (f232_ok (d := d) (by omega)  hq) ?_
        rcases oite h with ⟨hc, h⟩ | ⟨hc, h⟩
        · refine zIT dd231_25 rfl (kLtT hc) ?_
          exact zGo_lv (lv := [(0, .ref 1132), (1, .int x1), (3, .int x3)]) ⟨by simp, by simp, by simp⟩ (f231_32_ok hd ih h)
        · refine zIF dd231_25 (kLtF hc) ?_
          refine zGo_s (pc' := 29) (st' := [.int (1 : Int32)]) dd231_28 rfl ?_
          refine zGo_s (pc' := 33) (st' := [.int (1 : Int32)]) dd231_29 rfl ?_
          exact zGo_lv (lv := [(0, .ref 1132), (1, .int x1), (3, .int x3)]) ⟨by simp, by simp, by simp⟩ (f231_33_ok hd ih h)
    · refine zIT dd231_6 rfl (kGeT hc) ?_
      refine zGo_s (pc' := 41) (st' := [.int x2]) dd231_40 rfl ?_
      obtain ⟨hb, h⟩ := ochk h
      obtain ⟨rfl, rfl⟩ := oret h
      exact zGo_ret dd231_41 rfl (if_pos hb)
def f231 (n : Nat) (x1 : Int32) (s : zσ) : Option (Int32 × zσ) :=
    f231_4 n n x1 (1 : Int32) (0 : Int32) s
set_option maxRecDepth 20000 in
theorem f231_ok {n d : Nat} {x1 : Int32} {s : zσ} {v : Int32} {s2 : zσ} (hd : 1 ≤ d) (h : f231 n x1 s = some (v, s2)) {w : zσ} {fz : Bool} {L : Nat} {xs : Nat → Int32} : zGo (zX fz L xs) d q_231 (0, [(0, .ref 1132), (1, .int x1)], [], zmk w s, 0, 0) (some (.int v), zmk w s2, 0, 0) := by
  obtain ⟨d, rfl⟩ : ∃ d0, d = d0 + 1 := ⟨d - 1, by omega⟩
  unfold f231 at h
  refine zGo_s (pc' := 1) (st' := [.int (1 : Int32)]) dd231_0 rfl ?_
  refine zGo_s (pc' := 2) (st' := []) (lv' := [(2, .int (1 : Int32)), (0, .ref 1132), (1, .int x1)]) dd231_1 rfl ?_
  refine zGo_s (pc' := 3) (st' := [.int (0 : Int32)]) dd231_2 rfl ?_
  refine zGo_s (pc' := 4) (st' := []) (lv' := [(3, .int (0 : Int32)), (2, .int (1 : Int32)), (0, .ref 1132), (1, .int x1)]) dd231_3 rfl ?_
  exact zGo_lv (lv := [(0, .ref 1132), (1, .int x1), (2, .int (1 : Int32)), (3, .int (0 : Int32))]) ⟨by simp, by simp, by simp⟩ (f231_4_ok hd _ _ _ _ _ _ _ h)
/-! PHModel.entries(I)I -/
theorem dd233_0 : decode cX13_entries 0 = .ok (.iconst 0, 1) := by decide +kernel
theorem dd233_1 : decode cX13_entries 1 = .ok (.istore_n 2, 1) := by decide +kernel
theorem dd233_2 : decode cX13_entries 2 = .ok (.iconst 0, 1) := by decide +kernel
theorem dd233_3 : decode cX13_entries 3 = .ok (.istore_n 3, 1) := by decide +kernel
theorem dd233_4 : decode cX13_entries 4 = .ok (.iload_n 3, 1) := by decide +kernel
theorem dd233_5 : decode cX13_entries 5 = .ok (.bipush 8, 2) := by decide +kernel
theorem dd233_7 : decode cX13_entries 7 = .ok (.if_icmp .ge 23, 3) := by decide +kernel
theorem dd233_10 : decode cX13_entries 10 = .ok (.iload_n 2, 1) := by decide +kernel
theorem dd233_11 : decode cX13_entries 11 = .ok (.aload_n 0, 1) := by decide +kernel
theorem dd233_12 : decode cX13_entries 12 = .ok (.getfield 54, 3) := by decide +kernel
theorem dd233_15 : decode cX13_entries 15 = .ok (.bipush 8, 2) := by decide +kernel
theorem dd233_17 : decode cX13_entries 17 = .ok (.iload_n 1, 1) := by decide +kernel
theorem dd233_18 : decode cX13_entries 18 = .ok (.imul, 1) := by decide +kernel
theorem dd233_19 : decode cX13_entries 19 = .ok (.iload_n 3, 1) := by decide +kernel
theorem dd233_20 : decode cX13_entries 20 = .ok (.iadd, 1) := by decide +kernel
theorem dd233_21 : decode cX13_entries 21 = .ok (.iaload, 1) := by decide +kernel
theorem dd233_22 : decode cX13_entries 22 = .ok (.iadd, 1) := by decide +kernel
theorem dd233_23 : decode cX13_entries 23 = .ok (.istore_n 2, 1) := by decide +kernel
theorem dd233_24 : decode cX13_entries 24 = .ok (.iinc 3 1, 3) := by decide +kernel
theorem dd233_27 : decode cX13_entries 27 = .ok (.goto (-23), 3) := by decide +kernel
theorem dd233_30 : decode cX13_entries 30 = .ok (.iload_n 2, 1) := by decide +kernel
theorem dd233_31 : decode cX13_entries 31 = .ok (.ireturn, 1) := by decide +kernel
def f233_4 (n : Nat) : Nat → Int32 → Int32 → Int32 → zσ → Option (Int32 × zσ)
  | 0, _, _, _, _ => none
  | j + 1, x1, x2, x3, s =>
    if x3 < (8 : Int32) then
    if zin? (((8 : Int32) * x1) + x3) 32 = true then
    zlet ((x2 + (s.1 1213 (nx (((8 : Int32) * x1) + x3))))) fun v1 =>
    f233_4 n j x1 v1 (x3 + (1 : Int32)) s
    else none
    else some (x2, s)
set_option maxRecDepth 20000 in
theorem f233_4_ok {n d : Nat} (hd : 0 ≤ d) : ∀ (j : Nat) (x1 : Int32) (x2 : Int32) (x3 : Int32) (s : zσ) (v : Int32) (s2 : zσ), f233_4 n j x1 x2 x3 s = some (v, s2) → ∀ {w : zσ} {fz : Bool} {L : Nat} {xs : Nat → Int32}, zGo (zX fz L xs) d q_233 (4, [(0, .ref 1132), (1, .int x1), (2, .int x2), (3, .int x3)], [], zmk w s, 0, 0) (some (.int v), zmk w s2, 0, 0) := by
  intro j
  induction j with
  | zero => intro x1 x2 x3 s v s2 h; cases h
  | succ j ih =>
    intro x1 x2 x3 s v s2 h w fz L xs
    rw [f233_4] at h
    refine zGo_s (pc' := 5) (st' := [.int x3]) dd233_4 rfl ?_
    refine zGo_s (pc' := 7) (st' := [.int (8 : Int32), .int x3]) dd233_5 rfl ?_
    rcases oite h with ⟨hc, h⟩ | ⟨hc, h⟩
    · refine zIF dd233_7 (kGeF hc) ?_
      refine zGo_s (pc' := 11) (st' := [.int x2]) dd233_10 rfl ?_
      refine zGo_s (pc' := 12) (st' := [.ref 1132, .int x2]) dd233_11 rfl ?_
      refine mGF (e := 1213) dd233_12 rfl rfl rfl rfl rfl ?_
      refine zGo_s (pc' := 17) (st' := [.int (8 : Int32), .ref 1213, .int x2]) dd233_15 rfl ?_
      refine zGo_s (pc' := 18) (st' := [.int x1, .int (8 : Int32), .ref 1213, .int x2]) dd233_17 rfl ?_
      refine zGo_s (pc' := 19) (st' := [.int ((8 : Int32) * x1), .ref 1213, .int x2]) dd233_18 rfl ?_
      refine zGo_s (pc' := 20) (st' := [.int x3, .int ((8 : Int32) * x1), .ref 1213, .int x2]) dd233_19 rfl ?_
      refine zGo_s (pc' := 21) (st' := [.int (((8 : Int32) * x1) + x3), .ref 1213, .int x2]) dd233_20 rfl ?_
      obtain ⟨hi, h⟩ := ochk h
      refine mIA dd233_21 rfl rfl hi ?_
      refine zGo_s (pc' := 23) (st' := [.int (x2 + (s.1 1213 (nx (((8 : Int32) * x1) + x3))))]) dd233_22 rfl ?_
      obtain ⟨v1, e_v1, h⟩ := olet h
      refine zGo_is1 e_v1 dd233_23 (x' := (24, [(2, .int v1), (0, .ref 1132), (1, .int x1), (3, .int x3)], [], _, _, _)) rfl ?_
      refine zGo_s (pc' := 27) (st' := []) (lv' := [(3, .int (x3 + (1 : Int32))), (2, .int v1), (0, .ref 1132), (1, .int x1)]) dd233_24 rfl ?_
      refine zGo_s (pc' := 4) (st' := []) dd233_27 rfl ?_
      exact zGo_lv (lv := [(0, .ref 1132), (1, .int x1), (2, .int v1), (3, .int (x3 + (1 : Int32)))]) ⟨by simp, by simp, by simp⟩ (ih _ _ _ _ _ _ h)
    · refine zIT dd233_7 rfl (kGeT hc) ?_
      refine zGo_s (pc' := 31) (st' := [.int x2]) dd233_30 rfl ?_
      obtain ⟨rfl, rfl⟩ := oret h
      exact zGo_ret dd233_31 rfl rfl
def f233 (n : Nat) (x1 : Int32) (s : zσ) : Option (Int32 × zσ) :=
    f233_4 n n x1 (0 : Int32) (0 : Int32) s
set_option maxRecDepth 20000 in
theorem f233_ok {n d : Nat} {x1 : Int32} {s : zσ} {v : Int32} {s2 : zσ} (hd : 0 ≤ d) (h : f233 n x1 s = some (v, s2)) {w : zσ} {fz : Bool} {L : Nat} {xs : Nat → Int32} : zGo (zX fz L xs) d q_233 (0, [(0, .ref 1132), (1, .int x1)], [], zmk w s, 0, 0) (some (.int v), zmk w s2, 0, 0) := by
  unfold f233 at h
  refine zGo_s (pc' := 1) (st' := [.int (0 : Int32)]) dd233_0 rfl ?_
  refine zGo_s (pc' := 2) (st' := []) (lv' := [(2, .int (0 : Int32)), (0, .ref 1132), (1, .int x1)]) dd233_1 rfl ?_
  refine zGo_s (pc' := 3) (st' := [.int (0 : Int32)]) dd233_2 rfl ?_
  refine zGo_s (pc' := 4) (st' := []) (lv' := [(3, .int (0 : Int32)), (2, .int (0 : Int32)), (0, .ref 1132), (1, .int x1)]) dd233_3 rfl ?_
  exact zGo_lv (lv := [(0, .ref 1132), (1, .int x1), (2, .int (0 : Int32)), (3, .int (0 : Int32))]) ⟨by simp, by simp, by simp⟩ (f233_4_ok hd _ _ _ _ _ _ _ h)
