/-! PHModel.worked(II)I -/
theorem dd243_0 : decode cX13_worked 0 = .ok (.iconst 0, 1) := by decide +kernel
theorem dd243_1 : decode cX13_worked 1 = .ok (.istore_n 3, 1) := by decide +kernel
theorem dd243_2 : decode cX13_worked 2 = .ok (.aload_n 0, 1) := by decide +kernel
theorem dd243_3 : decode cX13_worked 3 = .ok (.getfield 20, 3) := by decide +kernel
theorem dd243_6 : decode cX13_worked 6 = .ok (.getfield 300, 3) := by decide +kernel
theorem dd243_9 : decode cX13_worked 9 = .ok (.iload_n 2, 1) := by decide +kernel
theorem dd243_10 : decode cX13_worked 10 = .ok (.iaload, 1) := by decide +kernel
theorem dd243_11 : decode cX13_worked 11 = .ok (.istore 4, 2) := by decide +kernel
theorem dd243_13 : decode cX13_worked 13 = .ok (.iload 4, 2) := by decide +kernel
theorem dd243_15 : decode cX13_worked 15 = .ok (.aload_n 0, 1) := by decide +kernel
theorem dd243_16 : decode cX13_worked 16 = .ok (.getfield 20, 3) := by decide +kernel
theorem dd243_19 : decode cX13_worked 19 = .ok (.getfield 306, 3) := by decide +kernel
theorem dd243_22 : decode cX13_worked 22 = .ok (.iload_n 2, 1) := by decide +kernel
theorem dd243_23 : decode cX13_worked 23 = .ok (.iaload, 1) := by decide +kernel
theorem dd243_24 : decode cX13_worked 24 = .ok (.if_icmp .ge 243, 3) := by decide +kernel
theorem dd243_27 : decode cX13_worked 27 = .ok (.aload_n 0, 1) := by decide +kernel
theorem dd243_28 : decode cX13_worked 28 = .ok (.getfield 623, 3) := by decide +kernel
theorem dd243_31 : decode cX13_worked 31 = .ok (.ifCond .ne 236, 3) := by decide +kernel
theorem dd243_34 : decode cX13_worked 34 = .ok (.aload_n 0, 1) := by decide +kernel
theorem dd243_35 : decode cX13_worked 35 = .ok (.getfield 20, 3) := by decide +kernel
theorem dd243_38 : decode cX13_worked 38 = .ok (.getfield 294, 3) := by decide +kernel
theorem dd243_41 : decode cX13_worked 41 = .ok (.iload 4, 2) := by decide +kernel
theorem dd243_43 : decode cX13_worked 43 = .ok (.iaload, 1) := by decide +kernel
theorem dd243_44 : decode cX13_worked 44 = .ok (.istore 5, 2) := by decide +kernel
theorem dd243_46 : decode cX13_worked 46 = .ok (.aload_n 0, 1) := by decide +kernel
theorem dd243_47 : decode cX13_worked 47 = .ok (.getfield 20, 3) := by decide +kernel
theorem dd243_50 : decode cX13_worked 50 = .ok (.getfield 288, 3) := by decide +kernel
theorem dd243_53 : decode cX13_worked 53 = .ok (.iload 4, 2) := by decide +kernel
theorem dd243_55 : decode cX13_worked 55 = .ok (.iaload, 1) := by decide +kernel
theorem dd243_56 : decode cX13_worked 56 = .ok (.istore 6, 2) := by decide +kernel
theorem dd243_58 : decode cX13_worked 58 = .ok (.iload 6, 2) := by decide +kernel
theorem dd243_60 : decode cX13_worked 60 = .ok (.bipush 7, 2) := by decide +kernel
theorem dd243_62 : decode cX13_worked 62 = .ok (.if_icmp .ne 37, 3) := by decide +kernel
theorem dd243_65 : decode cX13_worked 65 = .ok (.iinc 3 (-1), 3) := by decide +kernel
theorem dd243_68 : decode cX13_worked 68 = .ok (.aload_n 0, 1) := by decide +kernel
theorem dd243_69 : decode cX13_worked 69 = .ok (.getfield 151, 3) := by decide +kernel
theorem dd243_72 : decode cX13_worked 72 = .ok (.iload_n 3, 1) := by decide +kernel
theorem dd243_73 : decode cX13_worked 73 = .ok (.iconst 1, 1) := by decide +kernel
theorem dd243_74 : decode cX13_worked 74 = .ok (.isub, 1) := by decide +kernel
theorem dd243_75 : decode cX13_worked 75 = .ok (.aload_n 0, 1) := by decide +kernel
theorem dd243_76 : decode cX13_worked 76 = .ok (.iload 5, 2) := by decide +kernel
theorem dd243_78 : decode cX13_worked 78 = .ok (.aload_n 0, 1) := by decide +kernel
theorem dd243_79 : decode cX13_worked 79 = .ok (.getfield 151, 3) := by decide +kernel
theorem dd243_82 : decode cX13_worked 82 = .ok (.iload_n 3, 1) := by decide +kernel
theorem dd243_83 : decode cX13_worked 83 = .ok (.iconst 1, 1) := by decide +kernel
theorem dd243_84 : decode cX13_worked 84 = .ok (.isub, 1) := by decide +kernel
theorem dd243_85 : decode cX13_worked 85 = .ok (.laload, 1) := by decide +kernel
theorem dd243_86 : decode cX13_worked 86 = .ok (.aload_n 0, 1) := by decide +kernel
theorem dd243_87 : decode cX13_worked 87 = .ok (.getfield 151, 3) := by decide +kernel
theorem dd243_90 : decode cX13_worked 90 = .ok (.iload_n 3, 1) := by decide +kernel
theorem dd243_91 : decode cX13_worked 91 = .ok (.laload, 1) := by decide +kernel
theorem dd243_92 : decode cX13_worked 92 = .ok (.invokevirtual 626, 3) := by decide +kernel
theorem dd243_95 : decode cX13_worked 95 = .ok (.lastore, 1) := by decide +kernel
theorem dd243_96 : decode cX13_worked 96 = .ok (.goto 165, 3) := by decide +kernel
theorem dd243_99 : decode cX13_worked 99 = .ok (.iload 6, 2) := by decide +kernel
theorem dd243_101 : decode cX13_worked 101 = .ok (.bipush 6, 2) := by decide +kernel
theorem dd243_103 : decode cX13_worked 103 = .ok (.if_icmp .ne 27, 3) := by decide +kernel
theorem dd243_106 : decode cX13_worked 106 = .ok (.aload_n 0, 1) := by decide +kernel
theorem dd243_107 : decode cX13_worked 107 = .ok (.getfield 151, 3) := by decide +kernel
theorem dd243_110 : decode cX13_worked 110 = .ok (.iload_n 3, 1) := by decide +kernel
theorem dd243_111 : decode cX13_worked 111 = .ok (.iconst 1, 1) := by decide +kernel
theorem dd243_112 : decode cX13_worked 112 = .ok (.isub, 1) := by decide +kernel
theorem dd243_113 : decode cX13_worked 113 = .ok (.aload_n 0, 1) := by decide +kernel
theorem dd243_114 : decode cX13_worked 114 = .ok (.aload_n 0, 1) := by decide +kernel
theorem dd243_115 : decode cX13_worked 115 = .ok (.getfield 151, 3) := by decide +kernel
theorem dd243_118 : decode cX13_worked 118 = .ok (.iload_n 3, 1) := by decide +kernel
theorem dd243_119 : decode cX13_worked 119 = .ok (.iconst 1, 1) := by decide +kernel
theorem dd243_120 : decode cX13_worked 120 = .ok (.isub, 1) := by decide +kernel
theorem dd243_121 : decode cX13_worked 121 = .ok (.laload, 1) := by decide +kernel
theorem dd243_122 : decode cX13_worked 122 = .ok (.lneg, 1) := by decide +kernel
theorem dd243_123 : decode cX13_worked 123 = .ok (.invokevirtual 630, 3) := by decide +kernel
theorem dd243_126 : decode cX13_worked 126 = .ok (.lastore, 1) := by decide +kernel
theorem dd243_127 : decode cX13_worked 127 = .ok (.goto 134, 3) := by decide +kernel
theorem dd243_130 : decode cX13_worked 130 = .ok (.iload 6, 2) := by decide +kernel
theorem dd243_132 : decode cX13_worked 132 = .ok (.iconst 2, 1) := by decide +kernel
theorem dd243_133 : decode cX13_worked 133 = .ok (.if_icmp .ne 37, 3) := by decide +kernel
theorem dd243_136 : decode cX13_worked 136 = .ok (.aload_n 0, 1) := by decide +kernel
theorem dd243_137 : decode cX13_worked 137 = .ok (.getfield 151, 3) := by decide +kernel
theorem dd243_140 : decode cX13_worked 140 = .ok (.iload_n 3, 1) := by decide +kernel
theorem dd243_141 : decode cX13_worked 141 = .ok (.iconst 1, 1) := by decide +kernel
theorem dd243_142 : decode cX13_worked 142 = .ok (.isub, 1) := by decide +kernel
theorem dd243_143 : decode cX13_worked 143 = .ok (.aload_n 0, 1) := by decide +kernel
theorem dd243_144 : decode cX13_worked 144 = .ok (.aload_n 0, 1) := by decide +kernel
theorem dd243_145 : decode cX13_worked 145 = .ok (.getfield 20, 3) := by decide +kernel
theorem dd243_148 : decode cX13_worked 148 = .ok (.getfield 544, 3) := by decide +kernel
theorem dd243_151 : decode cX13_worked 151 = .ok (.iload 5, 2) := by decide +kernel
theorem dd243_153 : decode cX13_worked 153 = .ok (.iaload, 1) := by decide +kernel
theorem dd243_154 : decode cX13_worked 154 = .ok (.aload_n 0, 1) := by decide +kernel
theorem dd243_155 : decode cX13_worked 155 = .ok (.getfield 151, 3) := by decide +kernel
theorem dd243_158 : decode cX13_worked 158 = .ok (.iload_n 3, 1) := by decide +kernel
theorem dd243_159 : decode cX13_worked 159 = .ok (.iconst 1, 1) := by decide +kernel
theorem dd243_160 : decode cX13_worked 160 = .ok (.isub, 1) := by decide +kernel
theorem dd243_161 : decode cX13_worked 161 = .ok (.laload, 1) := by decide +kernel
theorem dd243_162 : decode cX13_worked 162 = .ok (.invokevirtual 634, 3) := by decide +kernel
theorem dd243_165 : decode cX13_worked 165 = .ok (.i2l, 1) := by decide +kernel
theorem dd243_166 : decode cX13_worked 166 = .ok (.lastore, 1) := by decide +kernel
theorem dd243_167 : decode cX13_worked 167 = .ok (.goto 94, 3) := by decide +kernel
theorem dd243_170 : decode cX13_worked 170 = .ok (.aload_n 0, 1) := by decide +kernel
theorem dd243_171 : decode cX13_worked 171 = .ok (.getfield 151, 3) := by decide +kernel
theorem dd243_174 : decode cX13_worked 174 = .ok (.iload_n 3, 1) := by decide +kernel
theorem dd243_175 : decode cX13_worked 175 = .ok (.iload 6, 2) := by decide +kernel
theorem dd243_177 : decode cX13_worked 177 = .ok (.ifCond .ne 9, 3) := by decide +kernel
theorem dd243_180 : decode cX13_worked 180 = .ok (.iload 5, 2) := by decide +kernel
theorem dd243_182 : decode cX13_worked 182 = .ok (.i2l, 1) := by decide +kernel
theorem dd243_183 : decode cX13_worked 183 = .ok (.goto 74, 3) := by decide +kernel
theorem dd243_186 : decode cX13_worked 186 = .ok (.iload 6, 2) := by decide +kernel
theorem dd243_188 : decode cX13_worked 188 = .ok (.iconst 1, 1) := by decide +kernel
theorem dd243_189 : decode cX13_worked 189 = .ok (.if_icmp .ne 14, 3) := by decide +kernel
theorem dd243_192 : decode cX13_worked 192 = .ok (.aload_n 0, 1) := by decide +kernel
theorem dd243_193 : decode cX13_worked 193 = .ok (.iload_n 1, 1) := by decide +kernel
theorem dd243_194 : decode cX13_worked 194 = .ok (.iload 5, 2) := by decide +kernel
theorem dd243_196 : decode cX13_worked 196 = .ok (.invokevirtual 638, 3) := by decide +kernel
theorem dd243_199 : decode cX13_worked 199 = .ok (.i2l, 1) := by decide +kernel
theorem dd243_200 : decode cX13_worked 200 = .ok (.goto 57, 3) := by decide +kernel
theorem dd243_203 : decode cX13_worked 203 = .ok (.iload 6, 2) := by decide +kernel
theorem dd243_205 : decode cX13_worked 205 = .ok (.iconst 4, 1) := by decide +kernel
theorem dd243_206 : decode cX13_worked 206 = .ok (.if_icmp .ne 11, 3) := by decide +kernel
theorem dd243_209 : decode cX13_worked 209 = .ok (.aload_n 0, 1) := by decide +kernel
theorem dd243_210 : decode cX13_worked 210 = .ok (.getfield 560, 3) := by decide +kernel
theorem dd243_213 : decode cX13_worked 213 = .ok (.i2l, 1) := by decide +kernel
theorem dd243_214 : decode cX13_worked 214 = .ok (.goto 43, 3) := by decide +kernel
theorem dd243_217 : decode cX13_worked 217 = .ok (.iload 6, 2) := by decide +kernel
theorem dd243_219 : decode cX13_worked 219 = .ok (.iconst 5, 1) := by decide +kernel
theorem dd243_220 : decode cX13_worked 220 = .ok (.if_icmp .ne 22, 3) := by decide +kernel
theorem dd243_223 : decode cX13_worked 223 = .ok (.aload_n 0, 1) := by decide +kernel
theorem dd243_224 : decode cX13_worked 224 = .ok (.getfield 91, 3) := by decide +kernel
theorem dd243_227 : decode cX13_worked 227 = .ok (.aload_n 0, 1) := by decide +kernel
theorem dd243_228 : decode cX13_worked 228 = .ok (.getfield 20, 3) := by decide +kernel
theorem dd243_231 : decode cX13_worked 231 = .ok (.getfield 544, 3) := by decide +kernel
theorem dd243_234 : decode cX13_worked 234 = .ok (.iload 5, 2) := by decide +kernel
theorem dd243_236 : decode cX13_worked 236 = .ok (.iaload, 1) := by decide +kernel
theorem dd243_237 : decode cX13_worked 237 = .ok (.iaload, 1) := by decide +kernel
theorem dd243_238 : decode cX13_worked 238 = .ok (.i2l, 1) := by decide +kernel
theorem dd243_239 : decode cX13_worked 239 = .ok (.goto 18, 3) := by decide +kernel
theorem dd243_242 : decode cX13_worked 242 = .ok (.aload_n 0, 1) := by decide +kernel
theorem dd243_243 : decode cX13_worked 243 = .ok (.aload_n 0, 1) := by decide +kernel
theorem dd243_244 : decode cX13_worked 244 = .ok (.getfield 20, 3) := by decide +kernel
theorem dd243_247 : decode cX13_worked 247 = .ok (.getfield 544, 3) := by decide +kernel
theorem dd243_250 : decode cX13_worked 250 = .ok (.iload 5, 2) := by decide +kernel
theorem dd243_252 : decode cX13_worked 252 = .ok (.iaload, 1) := by decide +kernel
theorem dd243_253 : decode cX13_worked 253 = .ok (.invokevirtual 641, 3) := by decide +kernel
theorem dd243_256 : decode cX13_worked 256 = .ok (.i2l, 1) := by decide +kernel
theorem dd243_257 : decode cX13_worked 257 = .ok (.lastore, 1) := by decide +kernel
theorem dd243_258 : decode cX13_worked 258 = .ok (.iinc 3 1, 3) := by decide +kernel
theorem dd243_261 : decode cX13_worked 261 = .ok (.iinc 4 1, 3) := by decide +kernel
theorem dd243_264 : decode cX13_worked 264 = .ok (.goto (-251), 3) := by decide +kernel
theorem dd243_267 : decode cX13_worked 267 = .ok (.aload_n 0, 1) := by decide +kernel
theorem dd243_268 : decode cX13_worked 268 = .ok (.getfield 623, 3) := by decide +kernel
theorem dd243_271 : decode cX13_worked 271 = .ok (.ifCond .ne 13, 3) := by decide +kernel
theorem dd243_274 : decode cX13_worked 274 = .ok (.aload_n 0, 1) := by decide +kernel
theorem dd243_275 : decode cX13_worked 275 = .ok (.getfield 151, 3) := by decide +kernel
theorem dd243_278 : decode cX13_worked 278 = .ok (.iconst 0, 1) := by decide +kernel
theorem dd243_279 : decode cX13_worked 279 = .ok (.laload, 1) := by decide +kernel
theorem dd243_280 : decode cX13_worked 280 = .ok (.l2i, 1) := by decide +kernel
theorem dd243_281 : decode cX13_worked 281 = .ok (.goto 4, 3) := by decide +kernel
theorem dd243_284 : decode cX13_worked 284 = .ok (.iconst 0, 1) := by decide +kernel
theorem dd243_285 : decode cX13_worked 285 = .ok (.ireturn, 1) := by decide +kernel
def f243_267 (n : Nat) (s : zσ) : Option (Int32 × zσ) :=
    if (s.1 1132 69) = (0 : Int32) then
    if zin? (0 : Int32) 420 = true then
    some (((s.2.1 1245 (nx (0 : Int32))).toInt32), s)
    else none
    else some ((0 : Int32), s)
set_option maxRecDepth 20000 in
theorem f243_267_ok {n d : Nat} {s : zσ} {v : Int32} {s2 : zσ} (hd : 4 ≤ d) (h : f243_267 n s = some (v, s2)) {w : zσ} {fz : Bool} {L : Nat} {xs : Nat → Int32} : zGo (zX fz L xs) d q_243 (267, [(0, .ref 1132)], [], zmk w s, 0, 0) (some (.int v), zmk w s2, 0, 0) := by
  obtain ⟨d, rfl⟩ : ∃ d0, d = d0 + 1 := ⟨d - 1, by omega⟩
  unfold f243_267 at h
  refine zGo_s (pc' := 268) (st' := [.ref 1132]) dd243_267 rfl ?_
  refine mGI dd243_268 rfl rfl rfl rfl ?_
  rcases oite h with ⟨hc, h⟩ | ⟨hc, h⟩
  · refine zUF dd243_271 (kNeF hc) ?_
    refine zGo_s (pc' := 275) (st' := [.ref 1132]) dd243_274 rfl ?_
    refine mGF (e := 1245) dd243_275 rfl rfl rfl rfl rfl ?_
    refine zGo_s (pc' := 279) (st' := [.int (0 : Int32), .ref 1245]) dd243_278 rfl ?_
    obtain ⟨hi, h⟩ := ochk h
    refine mLA dd243_279 rfl rfl hi ?_
    refine zGo_s (pc' := 281) (st' := [.int ((s.2.1 1245 (nx (0 : Int32))).toInt32)]) dd243_280 rfl ?_
    refine zGo_s (pc' := 285) (st' := [.int ((s.2.1 1245 (nx (0 : Int32))).toInt32)]) dd243_281 rfl ?_
    obtain ⟨rfl, rfl⟩ := oret h
    exact zGo_ret dd243_285 rfl rfl
  · refine zUT dd243_271 rfl (kNeT hc) ?_
    refine zGo_s (pc' := 285) (st' := [.int (0 : Int32)]) dd243_284 rfl ?_
    obtain ⟨rfl, rfl⟩ := oret h
    exact zGo_ret dd243_285 rfl rfl
def f243_261 (n : Nat) (r13 : Int32 → Int32 → Int32 → Int32 → zσ → Option (Int32 × zσ)) (x1 : Int32) (x2 : Int32) (x3 : Int32) (x4 : Int32) (s : zσ) : Option (Int32 × zσ) :=
    r13 x1 x2 x3 (x4 + (1 : Int32)) s
set_option maxRecDepth 20000 in
theorem f243_261_ok {n d : Nat} {r13 : Int32 → Int32 → Int32 → Int32 → zσ → Option (Int32 × zσ)} {x1 : Int32} {x2 : Int32} {x3 : Int32} {x4 : Int32} {s : zσ} {v : Int32} {s2 : zσ} (hd : 4 ≤ d) (hr13 : ∀ (x1 : Int32) (x2 : Int32) (x3 : Int32) (x4 : Int32) (s : zσ) (v : Int32) (s2 : zσ), r13 x1 x2 x3 x4 s = some (v, s2) → ∀ {w : zσ} {fz : Bool} {L : Nat} {xs : Nat → Int32}, zGo (zX fz L xs) d q_243 (13, [(0, .ref 1132), (1, .int x1), (2, .int x2), (3, .int x3), (4, .int x4)], [], zmk w s, 0, 0) (some (.int v), zmk w s2, 0, 0)) (h : f243_261 n r13 x1 x2 x3 x4 s = some (v, s2)) {w : zσ} {fz : Bool} {L : Nat} {xs : Nat → Int32} : zGo (zX fz L xs) d q_243 (261, [(0, .ref 1132), (1, .int x1), (2, .int x2), (3, .int x3), (4, .int x4)], [], zmk w s, 0, 0) (some (.int v), zmk w s2, 0, 0) := by
  obtain ⟨d, rfl⟩ : ∃ d0, d = d0 + 1 := ⟨d - 1, by omega⟩
  unfold f243_261 at h
  refine zGo_s (pc' := 264) (st' := []) (lv' := [(4, .int (x4 + (1 : Int32))), (0, .ref 1132), (1, .int x1), (2, .int x2), (3, .int x3)]) dd243_261 rfl ?_
  refine zGo_s (pc' := 13) (st' := []) dd243_264 rfl ?_
  exact zGo_lv (lv := [(0, .ref 1132), (1, .int x1), (2, .int x2), (3, .int x3), (4, .int (x4 + (1 : Int32)))]) ⟨by simp, by simp, by simp⟩ (hr13 _ _ _ _ _ _ _ h)
def f243_257 (n : Nat) (r13 : Int32 → Int32 → Int32 → Int32 → zσ → Option (Int32 × zσ)) (x1 : Int32) (x2 : Int32) (x3 : Int32) (x4 : Int32) (y0 : Int64) (y1 : Int32) (s : zσ) : Option (Int32 × zσ) :=
    if zin? y1 420 = true then
    zlet (sJ s 1245 (nx y1) y0) fun u1 =>
    f243_261 n r13 x1 x2 (x3 + (1 : Int32)) x4 u1
    else none
set_option maxRecDepth 20000 in
theorem f243_257_ok {n d : Nat} {r13 : Int32 → Int32 → Int32 → Int32 → zσ → Option (Int32 × zσ)} {x1 : Int32} {x2 : Int32} {x3 : Int32} {x4 : Int32} {y0 : Int64} {y1 : Int32} {s : zσ} {v : Int32} {s2 : zσ} (hd : 4 ≤ d) (hr13 : ∀ (x1 : Int32) (x2 : Int32) (x3 : Int32) (x4 : Int32) (s : zσ) (v : Int32) (s2 : zσ), r13 x1 x2 x3 x4 s = some (v, s2) → ∀ {w : zσ} {fz : Bool} {L : Nat} {xs : Nat → Int32}, zGo (zX fz L xs) d q_243 (13, [(0, .ref 1132), (1, .int x1), (2, .int x2), (3, .int x3), (4, .int x4)], [], zmk w s, 0, 0) (some (.int v), zmk w s2, 0, 0)) (h : f243_257 n r13 x1 x2 x3 x4 y0 y1 s = some (v, s2)) {w : zσ} {fz : Bool} {L : Nat} {xs : Nat → Int32} : zGo (zX fz L xs) d q_243 (257, [(0, .ref 1132), (1, .int x1), (2, .int x2), (3, .int x3), (4, .int x4)], [.long y0, .int y1, .ref 1245], zmk w s, 0, 0) (some (.int v), zmk w s2, 0, 0) := by
  obtain ⟨d, rfl⟩ : ∃ d0, d = d0 + 1 := ⟨d - 1, by omega⟩
  unfold f243_257 at h
  obtain ⟨hi, h⟩ := ochk h
  obtain ⟨u1, e_u1, h⟩ := olet h
  refine mLS dd243_257 rfl rfl hi e_u1 ?_
  refine zGo_s (pc' := 261) (st' := []) (lv' := [(3, .int (x3 + (1 : Int32))), (0, .ref 1132), (1, .int x1), (2, .int x2), (4, .int x4)]) dd243_258 rfl ?_
  exact zGo_lv (lv := [(0, .ref 1132), (1, .int x1), (2, .int x2), (3, .int (x3 + (1 : Int32))), (4, .int x4)]) ⟨by simp, by simp, by simp⟩ (f243_261_ok hd hr13 h)
def f243_13 (n : Nat) : Nat → Int32 → Int32 → Int32 → Int32 → zσ → Option (Int32 × zσ)
  | 0, _, _, _, _, _ => none
  | j + 1, x1, x2, x3, x4, s =>
    zrd 12 (s.2.2 1132 11) fun a1 =>
    if zin? x2 401 = true then
    if x4 < (s.1 (a1 + 26) (nx x2)) then
    if (s.1 1132 69) = (0 : Int32) then
    zrd 12 (s.2.2 1132 11) fun a2 =>
    if zin? x4 900 = true then
    zlet ((s.1 (a2 + 28) (nx x4))) fun v3 =>
    zrd 12 (s.2.2 1132 11) fun a4 =>
    if zin? x4 900 = true then
    zlet ((s.1 (a4 + 27) (nx x4))) fun v5 =>
    if v5 = (7 : Int32) then
    if zin? ((x3 + (-1 : Int32)) - (1 : Int32)) 420 = true then
    if zin? (x3 + (-1 : Int32)) 420 = true then
    yb1 (f244 n v3 (s.2.1 1245 (nx ((x3 + (-1 : Int32)) - (1 : Int32)))) (s.2.1 1245 (nx (x3 + (-1 : Int32)))) s) fun v20 u19 =>
    if zin? ((x3 + (-1 : Int32)) - (1 : Int32)) 420 = true then
    zlet (sJ u19 1245 (nx ((x3 + (-1 : Int32)) - (1 : Int32))) v20) fun u21 =>
    f243_261 n (f243_13 n j) x1 x2 (x3 + (-1 : Int32)) x4 u21
    else none
    else none
    else none
    else if v5 = (6 : Int32) then
    if zin? (x3 - (1 : Int32)) 420 = true then
    yb1 (f245 n (-(s.2.1 1245 (nx (x3 - (1 : Int32))))) s) fun v17 u16 =>
    if zin? (x3 - (1 : Int32)) 420 = true then
    zlet (sJ u16 1245 (nx (x3 - (1 : Int32))) v17) fun u18 =>
    f243_261 n (f243_13 n j) x1 x2 x3 x4 u18
    else none
    else none
    else if v5 = (2 : Int32) then
    zrd 12 (s.2.2 1132 11) fun a12 =>
    if zin? v3 1400 = true then
    if zin? (x3 - (1 : Int32)) 420 = true then
    yb1 (f247 n (s.1 (a12 + 33) (nx v3)) (s.2.1 1245 (nx (x3 - (1 : Int32)))) s) fun v14 u13 =>
    if zin? (x3 - (1 : Int32)) 420 = true then
    zlet (sJ u13 1245 (nx (x3 - (1 : Int32))) (v14.toInt64)) fun u15 =>
    f243_261 n (f243_13 n j) x1 x2 x3 x4 u15
    else none
    else none
    else none
    else if v5 = (0 : Int32) then
    f243_257 n (f243_13 n j) x1 x2 x3 x4 (v3.toInt64) x3 s
    else if v5 = (1 : Int32) then
    yb1 (f250 n x1 v3 s) fun v11 u10 =>
    f243_257 n (f243_13 n j) x1 x2 x3 x4 (v11.toInt64) x3 u10
    else if v5 = (4 : Int32) then
    f243_257 n (f243_13 n j) x1 x2 x3 x4 ((s.1 1132 20).toInt64) x3 s
    else if v5 = (5 : Int32) then
    zrd 12 (s.2.2 1132 11) fun a9 =>
    if zin? v3 1400 = true then
    if zin? (s.1 (a9 + 33) (nx v3)) 8 = true then
    f243_257 n (f243_13 n j) x1 x2 x3 x4 ((s.1 1225 (nx (s.1 (a9 + 33) (nx v3)))).toInt64) x3 s
    else none
    else none
    else zrd 12 (s.2.2 1132 11) fun a6 =>
    if zin? v3 1400 = true then
    yb1 (f249 n (s.1 (a6 + 33) (nx v3)) s) fun v8 u7 =>
    f243_257 n (f243_13 n j) x1 x2 x3 x4 (v8.toInt64) x3 u7
    else none
    else none
    else none
    else f243_267 n s
    else f243_267 n s
    else none
set_option maxRecDepth 20000 in
theorem f243_13_ok {n d : Nat} (hd : 4 ≤ d) : ∀ (j : Nat) (x1 : Int32) (x2 : Int32) (x3 : Int32) (x4 : Int32) (s : zσ) (v : Int32) (s2 : zσ), f243_13 n j x1 x2 x3 x4 s = some (v, s2) → ∀ {w : zσ} {fz : Bool} {L : Nat} {xs : Nat → Int32}, zGo (zX fz L xs) d q_243 (13, [(0, .ref 1132), (1, .int x1), (2, .int x2), (3, .int x3), (4, .int x4)], [], zmk w s, 0, 0) (some (.int v), zmk w s2, 0, 0) := by
  obtain ⟨d, rfl⟩ : ∃ d0, d = d0 + 1 := ⟨d - 1, by omega⟩
  intro j
  induction j with
  | zero => intro x1 x2 x3 x4 s v s2 h; cases h
  | succ j ih =>
    intro x1 x2 x3 x4 s v s2 h w fz L xs
    rw [f243_13] at h
    refine zGo_s (pc' := 15) (st' := [.int x4]) dd243_13 rfl ?_
    refine zGo_s (pc' := 16) (st' := [.ref 1132, .int x4]) dd243_15 rfl ?_
    obtain ⟨a1, e_a1, c_a1, h⟩ := ordd h
    refine mGR dd243_16 rfl rfl rfl rfl e_a1 ?_
    refine mGF (e := (a1 + 26)) dd243_19 rfl (ck12_s c_a1).1 (ck12_s c_a1).2 rfl (cf12_30 c_a1).1 ?_
    refine zGo_s (pc' := 23) (st' := [.int x2, .ref (a1 + 26), .int x4]) dd243_22 rfl ?_
    obtain ⟨hi, h⟩ := ochk h
    refine mIA dd243_23 (cf12_30 c_a1).2.1 (cf12_30 c_a1).2.2 hi ?_
    rcases oite h with ⟨hc, h⟩ | ⟨hc, h⟩
    · refine zIF dd243_24 (kGeF hc) ?_
      refine zGo_s (pc' := 28) (st' := [.ref 1132]) dd243_27 rfl ?_
      refine mGI dd243_28 rfl rfl rfl rfl ?_
      rcases oite h with ⟨hc, h⟩ | ⟨hc, h⟩
      · refine zUF dd243_31 (kNeF hc) ?_
        refine zGo_s (pc' := 35) (st' := [.ref 1132]) dd243_34 rfl ?_
        obtain ⟨a2, e_a2, c_a2, h⟩ := ordd h
        refine mGR dd243_35 rfl rfl rfl rfl e_a2 ?_
        refine mGF (e := (a2 + 28)) dd243_38 rfl (ck12_s c_a2).1 (ck12_s c_a2).2 rfl (cf12_33 c_a2).1 ?_
        refine zGo_s (pc' := 43) (st' := [.int x4, .ref (a2 + 28)]) dd243_41 rfl ?_
        obtain ⟨hi, h⟩ := ochk h
        refine mIA dd243_43 (cf12_33 c_a2).2.1 (cf12_33 c_a2).2.2 hi ?_
        obtain ⟨v3, e_v3, h⟩ := olet h
        refine zGo_is1 e_v3 dd243_44 (x' := (46, [(5, .int v3), (0, .ref 1132), (1, .int x1), (2, .int x2), (3, .int x3), (4, .int x4)], [], _, _, _)) rfl ?_
        refine zGo_s (pc' := 47) (st' := [.ref 1132]) dd243_46 rfl ?_
        obtain ⟨a4, e_a4, c_a4, h⟩ := ordd h
        refine mGR dd243_47 rfl rfl rfl rfl e_a4 ?_
        refine mGF (e := (a4 + 27)) dd243_50 rfl (ck12_s c_a4).1 (ck12_s c_a4).2 rfl (cf12_32 c_a4).1 ?_
        refine zGo_s (pc' := 55) (st' := [.int x4, .ref (a4 + 27)]) dd243_53 rfl ?_
        obtain ⟨hi, h⟩ := ochk h
        refine mIA dd243_55 (cf12_32 c_a4).2.1 (cf12_32 c_a4).2.2 hi ?_
        obtain ⟨v5, e_v5, h⟩ := olet h
        refine zGo_is1 e_v5 dd243_56 (x' := (58, [(6, .int v5), (5, .int v3), (0, .ref 1132), (1, .int x1), (2, .int x2), (3, .int x3), (4, .int x4)], [], _, _, _)) rfl ?_
        refine zGo_s (pc' := 60) (st' := [.int v5]) dd243_58 rfl ?_
        refine zGo_s (pc' := 62) (st' := [.int (7 : Int32), .int v5]) dd243_60 rfl ?_
        rcases oite h with ⟨hc, h⟩ | ⟨hc, h⟩
        · refine zIF dd243_62 (kNeF hc) ?_
          refine zGo_s (pc' := 68) (st' := []) (lv' := [(3, .int (x3 + (-1 : Int32))), (6, .int v5), (5, .int v3), (0, .ref 1132), (1, .int x1), (2, .int x2), (4, .int x4)]) dd243_65 rfl ?_
          refine zGo_s (pc' := 69) (st' := [.ref 1132]) dd243_68 rfl ?_
          refine mGF (e := 1245) dd243_69 rfl rfl rfl rfl rfl ?_
          refine zGo_s (pc' := 73) (st' := [.int (x3 + (-1 : Int32)), .ref 1245]) dd243_72 rfl ?_
          refine zGo_s (pc' := 74) (st' := [.int (1 : Int32), .int (x3 + (-1 : Int32)), .ref 1245]) dd243_73 rfl ?_
          refine zGo_s (pc' := 75) (st' := [.int ((x3 + (-1 : Int32)) - (1 : Int32)), .ref 1245]) dd243_74 rfl ?_
          refine zGo_s (pc' := 76) (st' := [.ref 1132, .int ((x3 + (-1 : Int32)) - (1 : Int32)), .ref 1245]) dd243_75 rfl ?_
          refine zGo_s (pc' := 78) (st' := [.int v3, .ref 1132, .int ((x3 + (-1 : Int32)) - (1 : Int32)), .ref 1245]) dd243_76 rfl ?_
          refine zGo_s (pc' := 79) (st' := [.ref 1132, .int v3, .ref 1132, .int ((x3 + (-1 : Int32)) - (1 : Int32)), .ref 1245]) dd243_78 rfl ?_
          refine mGF (e := 1245) dd243_79 rfl rfl rfl rfl rfl ?_
          refine zGo_s (pc' := 83) (st' := [.int (x3 + (-1 : Int32)), .ref 1245, .int v3, .ref 1132, .int ((x3 + (-1 : Int32)) - (1 : Int32)), .ref 1245]) dd243_82 rfl ?_
          refine zGo_s (pc' := 84) (st' := [.int (1 : Int32), .int (x3 + (-1 : Int32)), .ref 1245, .int v3, .ref 1132, .int ((x3 + (-1 : Int32)) - (1 : Int32)), .ref 1245]) dd243_83 rfl ?_
          refine zGo_s (pc' := 85) (st' := [.int ((x3 + (-1 : Int32)) - (1 : Int32)), .ref 1245, .int v3, .ref 1132, .int ((x3 + (-1 : Int32)) - (1 : Int32)), .ref 1245]) dd243_84 rfl ?_
          obtain ⟨hi, h⟩ := ochk h
          refine mLA dd243_85 rfl rfl hi ?_
          refine zGo_s (pc' := 87) (st' := [.ref 1132, .long (s.2.1 1245 (nx ((x3 + (-1 : Int32)) - (1 : Int32)))), .int v3, .ref 1132, .int ((x3 + (-1 : Int32)) - (1 : Int32)), .ref 1245]) dd243_86 rfl ?_
          refine mGF (e := 1245) dd243_87 rfl rfl rfl rfl rfl ?_
          refine zGo_s (pc' := 91) (st' := [.int (x3 + (-1 : Int32)), .ref 1245, .long (s.2.1 1245 (nx ((x3 + (-1 : Int32)) - (1 : Int32)))), .int v3, .ref 1132, .int ((x3 + (-1 : Int32)) - (1 : Int32)), .ref 1245]) dd243_90 rfl ?_
          obtain ⟨hi, h⟩ := ochk h
          refine mLA dd243_91 rfl rfl hi ?_
          obtain ⟨v20, u19, hq, h⟩ := obnd h
          refine zCV1 (As := [.int v3, .long (s.2.1 1245 (nx ((x3 + (-1 : Int32)) - (1 : Int32)))), .long (s.2.1 1245 (nx (x3 + (-1 : Int32))))]) (rest := [.int ((x3 + (-1 : Int32)) - (1 : Int32)), .ref 1245]) (b := 1132) (q' := q_244) dd243_92 rfl rfl (rcv_m rfl rfl (by decide)) rfl rfl rfl (f244_ok (d := d) (by omega)  hq) ?_
          obtain ⟨hi, h⟩ := ochk h
          obtain ⟨u21, e_u21, h⟩ := olet h
          refine mLS dd243_95 rfl rfl hi e_u21 ?_
          refine zGo_s (pc' := 261) (st' := []) dd243_96 rfl ?_
          exact zGo_lv (lv := [(0, .ref 1132), (1, .int x1), (2, .int x2), (3, .int (x3 + (-1 : Int32))), (4, .int x4)]) ⟨by simp, by simp, by simp⟩ (f243_261_ok hd ih h)
        · refine zIT dd243_62 rfl (kNeT hc) ?_
          refine zGo_s (pc' := 101) (st' := [.int v5]) dd243_99 rfl ?_
          refine zGo_s (pc' := 103) (st' := [.int (6 : Int32), .int v5]) dd243_101 rfl ?_
          rcases oite h with ⟨hc, h⟩ | ⟨hc, h⟩
          · refine zIF dd243_103 (kNeF hc) ?_
            refine zGo_s (pc' := 107) (st' := [.ref 1132]) dd243_106 rfl ?_
            refine mGF (e := 1245) dd243_107 rfl rfl rfl rfl rfl ?_
            refine zGo_s (pc' := 111) (st' := [.int x3, .ref 1245]) dd243_110 rfl ?_
            refine zGo_s (pc' := 112) (st' := [.int (1 : Int32), .int x3, .ref 1245]) dd243_111 rfl ?_
            refine zGo_s (pc' := 113) (st' := [.int (x3 - (1 : Int32)), .ref 1245]) dd243_112 rfl ?_
            refine zGo_s (pc' := 114) (st' := [.ref 1132, .int (x3 - (1 : Int32)), .ref 1245]) dd243_113 rfl ?_
            refine zGo_s (pc' := 115) (st' := [.ref 1132, .ref 1132, .int (x3 - (1 : Int32)), .ref 1245]) dd243_114 rfl ?_
            refine mGF (e := 1245) dd243_115 rfl rfl rfl rfl rfl ?_
            refine zGo_s (pc' := 119) (st' := [.int x3, .ref 1245, .ref 1132, .int (x3 - (1 : Int32)), .ref 1245]) dd243_118 rfl ?_
            refine zGo_s (pc' := 120) (st' := [.int (1 : Int32), .int x3, .ref 1245, .ref 1132, .int (x3 - (1 : Int32)), .ref 1245]) dd243_119 rfl ?_
            refine zGo_s (pc' := 121) (st' := [.int (x3 - (1 : Int32)), .ref 1245, .ref 1132, .int (x3 - (1 : Int32)), .ref 1245]) dd243_120 rfl ?_
            obtain ⟨hi, h⟩ := ochk h
            refine mLA dd243_121 rfl rfl hi ?_
            refine zGo_s (pc' := 123) (st' := [.long (-(s.2.1 1245 (nx (x3 - (1 : Int32))))), .ref 1132, .int (x3 - (1 : Int32)), .ref 1245]) dd243_122 rfl ?_
            obtain ⟨v17, u16, hq, h⟩ := obnd h
            refine zCV1 (As := [.long (-(s.2.1 1245 (nx (x3 - (1 : Int32)))))]) (rest := [.int (x3 - (1 : Int32)), .ref 1245]) (b := 1132) (q' := q_245) dd243_123 rfl rfl (rcv_m rfl rfl (by decide)) rfl rfl rfl (f245_ok (d := d) (by omega)  hq) ?_
            obtain ⟨hi, h⟩ := ochk h
            obtain ⟨u18, e_u18, h⟩ := olet h
            refine mLS dd243_126 rfl rfl hi e_u18 ?_
            refine zGo_s (pc' := 261) (st' := []) dd243_127 rfl ?_
            exact zGo_lv (lv := [(0, .ref 1132), (1, .int x1), (2, .int x2), (3, .int x3), (4, .int x4)]) ⟨by simp, by simp, by simp⟩ (f243_261_ok hd ih h)
          · refine zIT dd243_103 rfl (kNeT hc) ?_
            refine zGo_s (pc' := 132) (st' := [.int v5]) dd243_130 rfl ?_
            refine zGo_s (pc' := 133) (st' := [.int (2 : Int32), .int v5]) dd243_132 rfl ?_
            rcases oite h with ⟨hc, h⟩ | ⟨hc, h⟩
            · refine zIF dd243_133 (kNeF hc) ?_
              refine zGo_s (pc' := 137) (st' := [.ref 1132]) dd243_136 rfl ?_
              refine mGF (e := 1245) dd243_137 rfl rfl rfl rfl rfl ?_
              refine zGo_s (pc' := 141) (st' := [.int x3, .ref 1245]) dd243_140 rfl ?_
              refine zGo_s (pc' := 142) (st' := [.int (1 : Int32), .int x3, .ref 1245]) dd243_141 rfl ?_
              refine zGo_s (pc' := 143) (st' := [.int (x3 - (1 : Int32)), .ref 1245]) dd243_142 rfl ?_
              refine zGo_s (pc' := 144) (st' := [.ref 1132, .int (x3 - (1 : Int32)), .ref 1245]) dd243_143 rfl ?_
              refine zGo_s (pc' := 145) (st' := [.ref 1132, .ref 1132, .int (x3 - (1 : Int32)), .ref 1245]) dd243_144 rfl ?_
              obtain ⟨a12, e_a12, c_a12, h⟩ := ordd h
              refine mGR dd243_145 rfl rfl rfl rfl e_a12 ?_
              refine mGF (e := (a12 + 33)) dd243_148 rfl (ck12_s c_a12).1 (ck12_s c_a12).2 rfl (cf12_39 c_a12).1 ?_
              refine zGo_s (pc' := 153) (st' := [.int v3, .ref (a12 + 33), .ref 1132, .int (x3 - (1 : Int32)), .ref 1245]) dd243_151 rfl ?_
              obtain ⟨hi, h⟩ := ochk h
              refine mIA dd243_153 (cf12_39 c_a12).2.1 (cf12_39 c_a12).2.2 hi ?_
              refine zGo_s (pc' := 155) (st' := [.ref 1132, .int (s.1 (a12 + 33) (nx v3)), .ref 1132, .int (x3 - (1 : Int32)), .ref 1245]) dd243_154 rfl ?_
              refine mGF (e := 1245) dd243_155 rfl rfl rfl rfl rfl ?_
              refine zGo_s (pc' := 159) (st' := [.int x3, .ref 1245, .int (s.1 (a12 + 33) (nx v3)), .ref 1132, .int (x3 - (1 : Int32)), .ref 1245]) dd243_158 rfl ?_
              refine zGo_s (pc' := 160) (st' := [.int (1 : Int32), .int x3, .ref 1245, .int (s.1 (a12 + 33) (nx v3)), .ref 1132, .int (x3 - (1 : Int32)), .ref 1245]) dd243_159 rfl ?_
              refine zGo_s (pc' := 161) (st' := [.int (x3 - (1 : Int32)), .ref 1245, .int (s.1 (a12 + 33) (nx v3)), .ref 1132, .int (x3 - (1 : Int32)), .ref 1245]) dd243_160 rfl ?_
              obtain ⟨hi, h⟩ := ochk h
              refine mLA dd243_161 rfl rfl hi ?_
              obtain ⟨v14, u13, hq, h⟩ := obnd h
              refine zCV1 (As := [.int (s.1 (a12 + 33) (nx v3)), .long (s.2.1 1245 (nx (x3 - (1 : Int32))))]) (rest := [.int (x3 - (1 : Int32)), .ref 1245]) (b := 1132) (q' := q_247) dd243_162 rfl rfl (rcv_m rfl rfl (by decide)) rfl rfl rfl (f247_ok (d := d) (by omega)  hq) ?_
              refine zGo_s (pc' := 166) (st' := [.long (v14.toInt64), .int (x3 - (1 : Int32)), .ref 1245]) dd243_165 rfl ?_
              obtain ⟨hi, h⟩ := ochk h
              obtain ⟨u15, e_u15, h⟩ := olet h
              refine mLS dd243_166 rfl rfl hi e_u15 ?_
              refine zGo_s (pc' := 261) (st' := []) dd243_167 rfl ?_
              exact zGo_lv (lv := [(0, .ref 1132), (1, .int x1), (2, .int x2), (3, .int x3), (4, .int x4)]) ⟨by simp, by simp, by simp⟩ (f243_261_ok hd ih h)
            · refine zIT dd243_133 rfl (kNeT hc) ?_
              refine zGo_s (pc' := 171) (st' := [.ref 1132]) dd243_170 rfl ?_
              refine mGF (e := 1245) dd243_171 rfl rfl rfl rfl rfl ?_
              refine zGo_s (pc' := 175) (st' := [.int x3, .ref 1245]) dd243_174 rfl ?_
              refine zGo_s (pc' := 177) (st' := [.int v5, .int x3, .ref 1245]) dd243_175 rfl ?_
              rcases oite h with ⟨hc, h⟩ | ⟨hc, h⟩
              · refine zUF dd243_177 (kNeF hc) ?_
                refine zGo_s (pc' := 182) (st' := [.int v3, .int x3, .ref 1245]) dd243_180 rfl ?_
                refine zGo_s (pc' := 183) (st' := [.long (v3.toInt64), .int x3, .ref 1245]) dd243_182 rfl ?_
                refine zGo_s (pc' := 257) (st' := [.long (v3.toInt64), .int x3, .ref 1245]) dd243_183 rfl ?_
                exact zGo_lv (lv := [(0, .ref 1132), (1, .int x1), (2, .int x2), (3, .int x3), (4, .int x4)]) ⟨by simp, by simp, by simp⟩ (f243_257_ok hd ih h)
              · refine zUT dd243_177 rfl (kNeT hc) ?_
                refine zGo_s (pc' := 188) (st' := [.int v5, .int x3, .ref 1245]) dd243_186 rfl ?_
                refine zGo_s (pc' := 189) (st' := [.int (1 : Int32), .int v5, .int x3, .ref 1245]) dd243_188 rfl ?_
                rcases oite h with ⟨hc, h⟩ | ⟨hc, h⟩
                · refine zIF dd243_189 (kNeF hc) ?_
                  refine zGo_s (pc' := 193) (st' := [.ref 1132, .int x3, .ref 1245]) dd243_192 rfl ?_
                  refine zGo_s (pc' := 194) (st' := [.int x1, .ref 1132, .int x3, .ref 1245]) dd243_193 rfl ?_
                  refine zGo_s (pc' := 196) (st' := [.int v3, .int x1, .ref 1132, .int x3, .ref 1245]) dd243_194 rfl ?_
                  obtain ⟨v11, u10, hq, h⟩ := obnd h
                  refine zCV1 (As := [.int x1, .int v3]) (rest := [.int x3, .ref 1245]) (b := 1132) (q' := q_250) dd243_196 rfl rfl (rcv_m rfl rfl (by decide)) rfl rfl rfl (f250_ok (d := d) (by omega)  hq) ?_
                  refine zGo_s (pc' := 200) (st' := [.long (v11.toInt64), .int x3, .ref 1245]) dd243_199 rfl ?_
                  refine zGo_s (pc' := 257) (st' := [.long (v11.toInt64), .int x3, .ref 1245]) dd243_200 rfl ?_
                  exact zGo_lv (lv := [(0, .ref 1132), (1, .int x1), (2, .int x2), (3, .int x3), (4, .int x4)]) ⟨by simp, by simp, by simp⟩ (f243_257_ok hd ih h)
                · refine zIT dd243_189 rfl (kNeT hc) ?_
                  refine zGo_s (pc' := 205) (st' := [.int v5, .int x3, .ref 1245]) dd243_203 rfl ?_
                  refine zGo_s (pc' := 206) (st' := [.int (4 : Int32), .int v5, .int x3, .ref 1245]) dd243_205 rfl ?_
                  rcases oite h with ⟨hc, h⟩ | ⟨hc, h⟩
                  · refine zIF dd243_206 (kNeF hc) ?_
                    refine zGo_s (pc' := 210) (st' := [.ref 1132, .int x3, .ref 1245]) dd243_209 rfl ?_
                    refine mGI dd243_210 rfl rfl rfl rfl ?_
                    refine zGo_s (pc' := 214) (st' := [.long ((s.1 1132 20).toInt64), .int x3, .ref 1245]) dd243_213 rfl ?_
                    refine zGo_s (pc' := 257) (st' := [.long ((s.1 1132 20).toInt64), .int x3, .ref 1245]) dd243_214 rfl ?_
                    exact zGo_lv (lv := [(0, .ref 1132), (1, .int x1), (2, .int x2), (3, .int x3), (4, .int x4)]) ⟨by simp, by simp, by simp⟩ (f243_257_ok hd ih h)
                  · refine zIT dd243_206 rfl (kNeT hc) ?_
                    refine zGo_s (pc' := 219) (st' := [.int v5, .int x3, .ref 1245]) dd243_217 rfl ?_
                    refine zGo_s (pc' := 220) (st' := [.int (5 : Int32), .int v5, .int x3, .ref 1245]) dd243_219 rfl ?_
                    rcases oite h with ⟨hc, h⟩ | ⟨hc, h⟩
                    · refine zIF dd243_220 (kNeF hc) ?_
                      refine zGo_s (pc' := 224) (st' := [.ref 1132, .int x3, .ref 1245]) dd243_223 rfl ?_
                      refine mGF (e := 1225) dd243_224 rfl rfl rfl rfl rfl ?_
                      refine zGo_s (pc' := 228) (st' := [.ref 1132, .ref 1225, .int x3, .ref 1245]) dd243_227 rfl ?_
                      obtain ⟨a9, e_a9, c_a9, h⟩ := ordd h
                      refine mGR dd243_228 rfl rfl rfl rfl e_a9 ?_
                      refine mGF (e := (a9 + 33)) dd243_231 rfl (ck12_s c_a9).1 (ck12_s c_a9).2 rfl (cf12_39 c_a9).1 ?_
                      refine zGo_s (pc' := 236) (st' := [.int v3, .ref (a9 + 33), .ref 1225, .int x3, .ref 1245]) dd243_234 rfl ?_
                      obtain ⟨hi, h⟩ := ochk h
                      refine mIA dd243_236 (cf12_39 c_a9).2.1 (cf12_39 c_a9).2.2 hi ?_
                      obtain ⟨hi, h⟩ := ochk h
                      refine mIA dd243_237 rfl rfl hi ?_
                      refine zGo_s (pc' := 239) (st' := [.long ((s.1 1225 (nx (s.1 (a9 + 33) (nx v3)))).toInt64), .int x3, .ref 1245]) dd243_238 rfl ?_
                      refine zGo_s (pc' := 257) (st' := [.long ((s.1 1225 (nx (s.1 (a9 + 33) (nx v3)))).toInt64), .int x3, .ref 1245]) dd243_239 rfl ?_
                      exact zGo_lv (lv := [(0, .ref 1132), (1, .int x1), (2, .int x2), (3, .int x3), (4, .int x4)]) ⟨by simp, by simp, by simp⟩ (f243_257_ok hd ih h)
                    · refine zIT dd243_220 rfl (kNeT hc) ?_
                      refine zGo_s (pc' := 243) (st' := [.ref 1132, .int x3, .ref 1245]) dd243_242 rfl ?_
                      refine zGo_s (pc' := 244) (st' := [.ref 1132, .ref 1132, .int x3, .ref 1245]) dd243_243 rfl ?_
                      obtain ⟨a6, e_a6, c_a6, h⟩ := ordd h
                      refine mGR dd243_244 rfl rfl rfl rfl e_a6 ?_
                      refine mGF (e := (a6 + 33)) dd243_247 rfl (ck12_s c_a6).1 (ck12_s c_a6).2 rfl (cf12_39 c_a6).1 ?_
                      refine zGo_s (pc' := 252) (st' := [.int v3, .ref (a6 + 33), .ref 1132, .int x3, .ref 1245]) dd243_250 rfl ?_
                      obtain ⟨hi, h⟩ := ochk h
                      refine mIA dd243_252 (cf12_39 c_a6).2.1 (cf12_39 c_a6).2.2 hi ?_
                      obtain ⟨v8, u7, hq, h⟩ := obnd h
                      refine zCV1 (As := [.int (s.1 (a6 + 33) (nx v3))]) (rest := [.int x3, .ref 1245]) (b := 1132) (q' := q_249) dd243_253 rfl rfl (rcv_m rfl rfl (by decide)) rfl rfl rfl (f249_ok (d := d) (by omega)  hq) ?_
                      refine zGo_s (pc' := 257) (st' := [.long (v8.toInt64), .int x3, .ref 1245]) dd243_256 rfl ?_
                      exact zGo_lv (lv := [(0, .ref 1132), (1, .int x1), (2, .int x2), (3, .int x3), (4, .int x4)]) ⟨by simp, by simp, by simp⟩ (f243_257_ok hd ih h)
      · refine zUT dd243_31 rfl (kNeT hc) ?_
        exact zGo_lv (lv := [(0, .ref 1132)]) ⟨by simp, by simp, by simp⟩ (f243_267_ok hd h)
    · refine zIT dd243_24 rfl (kGeT hc) ?_
      exact zGo_lv (lv := [(0, .ref 1132)]) ⟨by simp, by simp, by simp⟩ (f243_267_ok hd h)
def f243 (n : Nat) (x1 : Int32) (x2 : Int32) (s : zσ) : Option (Int32 × zσ) :=
    zrd 12 (s.2.2 1132 11) fun a1 =>
    if zin? x2 401 = true then
    zlet ((s.1 (a1 + 25) (nx x2))) fun v2 =>
    f243_13 n n x1 x2 (0 : Int32) v2 s
    else none
set_option maxRecDepth 20000 in
theorem f243_ok {n d : Nat} {x1 : Int32} {x2 : Int32} {s : zσ} {v : Int32} {s2 : zσ} (hd : 4 ≤ d) (h : f243 n x1 x2 s = some (v, s2)) {w : zσ} {fz : Bool} {L : Nat} {xs : Nat → Int32} : zGo (zX fz L xs) d q_243 (0, [(0, .ref 1132), (1, .int x1), (2, .int x2)], [], zmk w s, 0, 0) (some (.int v), zmk w s2, 0, 0) := by
  obtain ⟨d, rfl⟩ : ∃ d0, d = d0 + 1 := ⟨d - 1, by omega⟩
  unfold f243 at h
  refine zGo_s (pc' := 1) (st' := [.int (0 : Int32)]) dd243_0 rfl ?_
  refine zGo_s (pc' := 2) (st' := []) (lv' := [(3, .int (0 : Int32)), (0, .ref 1132), (1, .int x1), (2, .int x2)]) dd243_1 rfl ?_
  refine zGo_s (pc' := 3) (st' := [.ref 1132]) dd243_2 rfl ?_
  obtain ⟨a1, e_a1, c_a1, h⟩ := ordd h
  refine mGR dd243_3 rfl rfl rfl rfl e_a1 ?_
  refine mGF (e := (a1 + 25)) dd243_6 rfl (ck12_s c_a1).1 (ck12_s c_a1).2 rfl (cf12_29 c_a1).1 ?_
  refine zGo_s (pc' := 10) (st' := [.int x2, .ref (a1 + 25)]) dd243_9 rfl ?_
  obtain ⟨hi, h⟩ := ochk h
  refine mIA dd243_10 (cf12_29 c_a1).2.1 (cf12_29 c_a1).2.2 hi ?_
  obtain ⟨v2, e_v2, h⟩ := olet h
  refine zGo_is1 e_v2 dd243_11 (x' := (13, [(4, .int v2), (3, .int (0 : Int32)), (0, .ref 1132), (1, .int x1), (2, .int x2)], [], _, _, _)) rfl ?_
  exact zGo_lv (lv := [(0, .ref 1132), (1, .int x1), (2, .int x2), (3, .int (0 : Int32)), (4, .int v2)]) ⟨by simp, by simp, by simp⟩ (f243_13_ok hd _ _ _ _ _ _ _ _ h)
/-! PHModel.setItem(II)V -/
theorem dd251_0 : decode cX13_setItem 0 = .ok (.aload_n 0, 1) := by decide +kernel
theorem dd251_1 : decode cX13_setItem 1 = .ok (.iload_n 1, 1) := by decide +kernel
theorem dd251_2 : decode cX13_setItem 2 = .ok (.aload_n 0, 1) := by decide +kernel
theorem dd251_3 : decode cX13_setItem 3 = .ok (.getfield 20, 3) := by decide +kernel
theorem dd251_6 : decode cX13_setItem 6 = .ok (.getfield 469, 3) := by decide +kernel
theorem dd251_9 : decode cX13_setItem 9 = .ok (.iconst 4, 1) := by decide +kernel
theorem dd251_10 : decode cX13_setItem 10 = .ok (.iload_n 2, 1) := by decide +kernel
theorem dd251_11 : decode cX13_setItem 11 = .ok (.imul, 1) := by decide +kernel
theorem dd251_12 : decode cX13_setItem 12 = .ok (.iaload, 1) := by decide +kernel
theorem dd251_13 : decode cX13_setItem 13 = .ok (.invokevirtual 662, 3) := by decide +kernel
theorem dd251_16 : decode cX13_setItem 16 = .ok (.istore_n 3, 1) := by decide +kernel
theorem dd251_17 : decode cX13_setItem 17 = .ok (.aload_n 0, 1) := by decide +kernel
theorem dd251_18 : decode cX13_setItem 18 = .ok (.getfield 623, 3) := by decide +kernel
theorem dd251_21 : decode cX13_setItem 21 = .ok (.ifCond .ne 24, 3) := by decide +kernel
theorem dd251_24 : decode cX13_setItem 24 = .ok (.aload_n 0, 1) := by decide +kernel
theorem dd251_25 : decode cX13_setItem 25 = .ok (.iload_n 1, 1) := by decide +kernel
theorem dd251_26 : decode cX13_setItem 26 = .ok (.aload_n 0, 1) := by decide +kernel
theorem dd251_27 : decode cX13_setItem 27 = .ok (.getfield 20, 3) := by decide +kernel
theorem dd251_30 : decode cX13_setItem 30 = .ok (.getfield 469, 3) := by decide +kernel
theorem dd251_33 : decode cX13_setItem 33 = .ok (.iconst 4, 1) := by decide +kernel
theorem dd251_34 : decode cX13_setItem 34 = .ok (.iload_n 2, 1) := by decide +kernel
theorem dd251_35 : decode cX13_setItem 35 = .ok (.imul, 1) := by decide +kernel
theorem dd251_36 : decode cX13_setItem 36 = .ok (.iconst 1, 1) := by decide +kernel
theorem dd251_37 : decode cX13_setItem 37 = .ok (.iadd, 1) := by decide +kernel
theorem dd251_38 : decode cX13_setItem 38 = .ok (.iaload, 1) := by decide +kernel
theorem dd251_39 : decode cX13_setItem 39 = .ok (.invokevirtual 662, 3) := by decide +kernel
theorem dd251_42 : decode cX13_setItem 42 = .ok (.goto 4, 3) := by decide +kernel
theorem dd251_45 : decode cX13_setItem 45 = .ok (.iconst 0, 1) := by decide +kernel
theorem dd251_46 : decode cX13_setItem 46 = .ok (.istore 4, 2) := by decide +kernel
theorem dd251_48 : decode cX13_setItem 48 = .ok (.aload_n 0, 1) := by decide +kernel
theorem dd251_49 : decode cX13_setItem 49 = .ok (.getfield 623, 3) := by decide +kernel
theorem dd251_52 : decode cX13_setItem 52 = .ok (.ifCond .ne 29, 3) := by decide +kernel
theorem dd251_55 : decode cX13_setItem 55 = .ok (.aload_n 0, 1) := by decide +kernel
theorem dd251_56 : decode cX13_setItem 56 = .ok (.aload_n 0, 1) := by decide +kernel
theorem dd251_57 : decode cX13_setItem 57 = .ok (.getfield 20, 3) := by decide +kernel
theorem dd251_60 : decode cX13_setItem 60 = .ok (.getfield 544, 3) := by decide +kernel
theorem dd251_63 : decode cX13_setItem 63 = .ok (.aload_n 0, 1) := by decide +kernel
theorem dd251_64 : decode cX13_setItem 64 = .ok (.getfield 20, 3) := by decide +kernel
theorem dd251_67 : decode cX13_setItem 67 = .ok (.getfield 441, 3) := by decide +kernel
theorem dd251_70 : decode cX13_setItem 70 = .ok (.iload_n 2, 1) := by decide +kernel
theorem dd251_71 : decode cX13_setItem 71 = .ok (.iaload, 1) := by decide +kernel
theorem dd251_72 : decode cX13_setItem 72 = .ok (.iaload, 1) := by decide +kernel
theorem dd251_73 : decode cX13_setItem 73 = .ok (.iload_n 3, 1) := by decide +kernel
theorem dd251_74 : decode cX13_setItem 74 = .ok (.i2l, 1) := by decide +kernel
theorem dd251_75 : decode cX13_setItem 75 = .ok (.invokevirtual 647, 3) := by decide +kernel
theorem dd251_78 : decode cX13_setItem 78 = .ok (.goto 4, 3) := by decide +kernel
theorem dd251_81 : decode cX13_setItem 81 = .ok (.iconst 0, 1) := by decide +kernel
theorem dd251_82 : decode cX13_setItem 82 = .ok (.istore 5, 2) := by decide +kernel
theorem dd251_84 : decode cX13_setItem 84 = .ok (.aload_n 0, 1) := by decide +kernel
theorem dd251_85 : decode cX13_setItem 85 = .ok (.getfield 623, 3) := by decide +kernel
theorem dd251_88 : decode cX13_setItem 88 = .ok (.ifCond .ne 17, 3) := by decide +kernel
theorem dd251_91 : decode cX13_setItem 91 = .ok (.aload_n 0, 1) := by decide +kernel
theorem dd251_92 : decode cX13_setItem 92 = .ok (.getfield 45, 3) := by decide +kernel
theorem dd251_95 : decode cX13_setItem 95 = .ok (.iload 5, 2) := by decide +kernel
theorem dd251_97 : decode cX13_setItem 97 = .ok (.iload 4, 2) := by decide +kernel
theorem dd251_99 : decode cX13_setItem 99 = .ok (.iastore, 1) := by decide +kernel
theorem dd251_100 : decode cX13_setItem 100 = .ok (.aload_n 0, 1) := by decide +kernel
theorem dd251_101 : decode cX13_setItem 101 = .ok (.iload_n 1, 1) := by decide +kernel
theorem dd251_102 : decode cX13_setItem 102 = .ok (.invokevirtual 665, 3) := by decide +kernel
theorem dd251_105 : decode cX13_setItem 105 = .ok (.return_, 1) := by decide +kernel
def f251_82 (n : Nat) (x1 : Int32) (x4 : Int32) (y0 : Int32) (s : zσ) : Option zσ :=
    if (s.1 1132 69) = (0 : Int32) then
    if zin? y0 100 = true then
    zlet (sI s 1210 (nx y0) x4) fun u1 =>
    yb0 (f237 n x1 u1) fun u2 =>
    some u2
    else none
    else some s
set_option maxRecDepth 20000 in
theorem f251_82_ok {n d : Nat} {x1 : Int32} {x4 : Int32} {y0 : Int32} {s : zσ} {s2 : zσ} (hd : 26 ≤ d) (h : f251_82 n x1 x4 y0 s = some s2) {w : zσ} {fz : Bool} {L : Nat} {xs : Nat → Int32} : zGo (zX fz L xs) d q_251 (82, [(0, .ref 1132), (1, .int x1), (4, .int x4)], [.int y0], zmk w s, 0, 0) (none, zmk w s2, 0, 0) := by
  obtain ⟨d, rfl⟩ : ∃ d0, d = d0 + 1 := ⟨d - 1, by omega⟩
  unfold f251_82 at h
  refine zGo_s (pc' := 84) (st' := []) (lv' := [(5, .int y0), (0, .ref 1132), (1, .int x1), (4, .int x4)]) dd251_82 rfl ?_
  refine zGo_s (pc' := 85) (st' := [.ref 1132]) dd251_84 rfl ?_
  refine mGI dd251_85 rfl rfl rfl rfl ?_
  rcases oite h with ⟨hc, h⟩ | ⟨hc, h⟩
  · refine zUF dd251_88 (kNeF hc) ?_
    refine zGo_s (pc' := 92) (st' := [.ref 1132]) dd251_91 rfl ?_
    refine mGF (e := 1210) dd251_92 rfl rfl rfl rfl rfl ?_
    refine zGo_s (pc' := 97) (st' := [.int y0, .ref 1210]) dd251_95 rfl ?_
    refine zGo_s (pc' := 99) (st' := [.int x4, .int y0, .ref 1210]) dd251_97 rfl ?_
    obtain ⟨hi, h⟩ := ochk h
    obtain ⟨u1, e_u1, h⟩ := olet h
    refine mIS dd251_99 rfl rfl hi e_u1 ?_
    refine zGo_s (pc' := 101) (st' := [.ref 1132]) dd251_100 rfl ?_
    refine zGo_s (pc' := 102) (st' := [.int x1, .ref 1132]) dd251_101 rfl ?_
    obtain ⟨u2, hq, h⟩ := obn0 h
    refine zCV0 (As := [.int x1]) (rest := []) (b := 1132) (q' := q_237) dd251_102 rfl rfl (rcv_m rfl rfl (by decide)) rfl rfl rfl (f237_ok (d := d) (by omega)  hq) ?_
    obtain rfl := ore0 h
    exact zGo_ret dd251_105 rfl rfl
  · refine zUT dd251_88 rfl (kNeT hc) ?_
    obtain rfl := ore0 h
    exact zGo_ret dd251_105 rfl rfl
def f251_46 (n : Nat) (x1 : Int32) (x2 : Int32) (x3 : Int32) (y0 : Int32) (s : zσ) : Option zσ :=
    if (s.1 1132 69) = (0 : Int32) then
    zrd 12 (s.2.2 1132 11) fun a1 =>
    zrd 12 (s.2.2 1132 11) fun a2 =>
    if zin? x2 200 = true then
    if zin? (s.1 (a2 + 17) (nx x2)) 1400 = true then
    yb1 (f248 n (s.1 (a1 + 33) (nx (s.1 (a2 + 17) (nx x2)))) (x3.toInt64) s) fun v4 u3 =>
    f251_82 n x1 y0 v4 u3
    else none
    else none
    else f251_82 n x1 y0 (0 : Int32) s
set_option maxRecDepth 20000 in
theorem f251_46_ok {n d : Nat} {x1 : Int32} {x2 : Int32} {x3 : Int32} {y0 : Int32} {s : zσ} {s2 : zσ} (hd : 26 ≤ d) (h : f251_46 n x1 x2 x3 y0 s = some s2) {w : zσ} {fz : Bool} {L : Nat} {xs : Nat → Int32} : zGo (zX fz L xs) d q_251 (46, [(0, .ref 1132), (1, .int x1), (2, .int x2), (3, .int x3)], [.int y0], zmk w s, 0, 0) (none, zmk w s2, 0, 0) := by
  obtain ⟨d, rfl⟩ : ∃ d0, d = d0 + 1 := ⟨d - 1, by omega⟩
  unfold f251_46 at h
  refine zGo_s (pc' := 48) (st' := []) (lv' := [(4, .int y0), (0, .ref 1132), (1, .int x1), (2, .int x2), (3, .int x3)]) dd251_46 rfl ?_
  refine zGo_s (pc' := 49) (st' := [.ref 1132]) dd251_48 rfl ?_
  refine mGI dd251_49 rfl rfl rfl rfl ?_
  rcases oite h with ⟨hc, h⟩ | ⟨hc, h⟩
  · refine zUF dd251_52 (kNeF hc) ?_
    refine zGo_s (pc' := 56) (st' := [.ref 1132]) dd251_55 rfl ?_
    refine zGo_s (pc' := 57) (st' := [.ref 1132, .ref 1132]) dd251_56 rfl ?_
    obtain ⟨a1, e_a1, c_a1, h⟩ := ordd h
    refine mGR dd251_57 rfl rfl rfl rfl e_a1 ?_
    refine mGF (e := (a1 + 33)) dd251_60 rfl (ck12_s c_a1).1 (ck12_s c_a1).2 rfl (cf12_39 c_a1).1 ?_
    refine zGo_s (pc' := 64) (st' := [.ref 1132, .ref (a1 + 33), .ref 1132]) dd251_63 rfl ?_
    obtain ⟨a2, e_a2, c_a2, h⟩ := ordd h
    refine mGR dd251_64 rfl rfl rfl rfl e_a2 ?_
    refine mGF (e := (a2 + 17)) dd251_67 rfl (ck12_s c_a2).1 (ck12_s c_a2).2 rfl (cf12_19 c_a2).1 ?_
    refine zGo_s (pc' := 71) (st' := [.int x2, .ref (a2 + 17), .ref (a1 + 33), .ref 1132]) dd251_70 rfl ?_
    obtain ⟨hi, h⟩ := ochk h
    refine mIA dd251_71 (cf12_19 c_a2).2.1 (cf12_19 c_a2).2.2 hi ?_
    obtain ⟨hi, h⟩ := ochk h
    refine mIA dd251_72 (cf12_39 c_a1).2.1 (cf12_39 c_a1).2.2 hi ?_
    refine zGo_s (pc' := 74) (st' := [.int x3, .int (s.1 (a1 + 33) (nx (s.1 (a2 + 17) (nx x2)))), .ref 1132]) dd251_73 rfl ?_
    refine zGo_s (pc' := 75) (st' := [.long (x3.toInt64), .int (s.1 (a1 + 33) (nx (s.1 (a2 + 17) (nx x2)))), .ref 1132]) dd251_74 rfl ?_
    obtain ⟨v4, u3, hq, h⟩ := obnd h
    refine zCV1 (As := [.int (s.1 (a1 + 33) (nx (s.1 (a2 + 17) (nx x2)))), .long (x3.toInt64)]) (rest := []) (b := 1132) (q' := q_248) dd251_75 rfl rfl (rcv_m rfl rfl (by decide)) rfl rfl rfl (f248_ok (d := d) (by omega)  hq) ?_
    refine zGo_s (pc' := 82) (st' := [.int v4]) dd251_78 rfl ?_
    exact zGo_lv (lv := [(0, .ref 1132), (1, .int x1), (4, .int y0)]) ⟨by simp, by simp, by simp⟩ (f251_82_ok hd h)
  · refine zUT dd251_52 rfl (kNeT hc) ?_
    refine zGo_s (pc' := 82) (st' := [.int (0 : Int32)]) dd251_81 rfl ?_
    exact zGo_lv (lv := [(0, .ref 1132), (1, .int x1), (4, .int y0)]) ⟨by simp, by simp, by simp⟩ (f251_82_ok hd h)
def f251 (n : Nat) (x1 : Int32) (x2 : Int32) (s : zσ) : Option zσ :=
    zrd 12 (s.2.2 1132 11) fun a1 =>
    if zin? ((4 : Int32) * x2) 800 = true then
    yb1 (f243 n x1 (s.1 (a1 + 22) (nx ((4 : Int32) * x2))) s) fun v3 u2 =>
    if (u2.1 1132 69) = (0 : Int32) then
    zrd 12 (u2.2.2 1132 11) fun a4 =>
    if zin? (((4 : Int32) * x2) + (1 : Int32)) 800 = true then
    yb1 (f243 n x1 (u2.1 (a4 + 22) (nx (((4 : Int32) * x2) + (1 : Int32)))) u2) fun v6 u5 =>
    f251_46 n x1 x2 v3 v6 u5
    else none
    else f251_46 n x1 x2 v3 (0 : Int32) u2
    else none
set_option maxRecDepth 20000 in
theorem f251_ok {n d : Nat} {x1 : Int32} {x2 : Int32} {s : zσ} {s2 : zσ} (hd : 26 ≤ d) (h : f251 n x1 x2 s = some s2) {w : zσ} {fz : Bool} {L : Nat} {xs : Nat → Int32} : zGo (zX fz L xs) d q_251 (0, [(0, .ref 1132), (1, .int x1), (2, .int x2)], [], zmk w s, 0, 0) (none, zmk w s2, 0, 0) := by
  obtain ⟨d, rfl⟩ : ∃ d0, d = d0 + 1 := ⟨d - 1, by omega⟩
  unfold f251 at h
  refine zGo_s (pc' := 1) (st' := [.ref 1132]) dd251_0 rfl ?_
  refine zGo_s (pc' := 2) (st' := [.int x1, .ref 1132]) dd251_1 rfl ?_
  refine zGo_s (pc' := 3) (st' := [.ref 1132, .int x1, .ref 1132]) dd251_2 rfl ?_
  obtain ⟨a1, e_a1, c_a1, h⟩ := ordd h
  refine mGR dd251_3 rfl rfl rfl rfl e_a1 ?_
  refine mGF (e := (a1 + 22)) dd251_6 rfl (ck12_s c_a1).1 (ck12_s c_a1).2 rfl (cf12_24 c_a1).1 ?_
  refine zGo_s (pc' := 10) (st' := [.int (4 : Int32), .ref (a1 + 22), .int x1, .ref 1132]) dd251_9 rfl ?_
  refine zGo_s (pc' := 11) (st' := [.int x2, .int (4 : Int32), .ref (a1 + 22), .int x1, .ref 1132]) dd251_10 rfl ?_
  refine zGo_s (pc' := 12) (st' := [.int ((4 : Int32) * x2), .ref (a1 + 22), .int x1, .ref 1132]) dd251_11 rfl ?_
  obtain ⟨hi, h⟩ := ochk h
  refine mIA dd251_12 (cf12_24 c_a1).2.1 (cf12_24 c_a1).2.2 hi ?_
  obtain ⟨v3, u2, hq, h⟩ := obnd h
  refine zCV1 (As := [.int x1, .int (s.1 (a1 + 22) (nx ((4 : Int32) * x2)))]) (rest := []) (b := 1132) (q' := q_243) dd251_13 rfl rfl (rcv_m rfl rfl (by decide)) rfl rfl rfl (f243_ok (d := d) (by omega)  hq) ?_
  refine zGo_s (pc' := 17) (st' := []) (lv' := [(3, .int v3), (0, .ref 1132), (1, .int x1), (2, .int x2)]) dd251_16 rfl ?_
  refine zGo_s (pc' := 18) (st' := [.ref 1132]) dd251_17 rfl ?_
  refine mGI dd251_18 rfl rfl rfl rfl ?_
  rcases oite h with ⟨hc, h⟩ | ⟨hc, h⟩
  · refine zUF dd251_21 (kNeF hc) ?_
    refine zGo_s (pc' := 25) (st' := [.ref 1132]) dd251_24 rfl ?_
    refine zGo_s (pc' := 26) (st' := [.int x1, .ref 1132]) dd251_25 rfl ?_
    refine zGo_s (pc' := 27) (st' := [.ref 1132, .int x1, .ref 1132]) dd251_26 rfl ?_
    obtain ⟨a4, e_a4, c_a4, h⟩ := ordd h
    refine mGR dd251_27 rfl rfl rfl rfl e_a4 ?_
    refine mGF (e := (a4 + 22)) dd251_30 rfl (ck12_s c_a4).1 (ck12_s c_a4).2 rfl (cf12_24 c_a4).1 ?_
    refine zGo_s (pc' := 34) (st' := [.int (4 : Int32), .ref (a4 + 22), .int x1, .ref 1132]) dd251_33 rfl ?_
    refine zGo_s (pc' := 35) (st' := [.int x2, .int (4 : Int32), .ref (a4 + 22), .int x1, .ref 1132]) dd251_34 rfl ?_
    refine zGo_s (pc' := 36) (st' := [.int ((4 : Int32) * x2), .ref (a4 + 22), .int x1, .ref 1132]) dd251_35 rfl ?_
    refine zGo_s (pc' := 37) (st' := [.int (1 : Int32), .int ((4 : Int32) * x2), .ref (a4 + 22), .int x1, .ref 1132]) dd251_36 rfl ?_
    refine zGo_s (pc' := 38) (st' := [.int (((4 : Int32) * x2) + (1 : Int32)), .ref (a4 + 22), .int x1, .ref 1132]) dd251_37 rfl ?_
    obtain ⟨hi, h⟩ := ochk h
    refine mIA dd251_38 (cf12_24 c_a4).2.1 (cf12_24 c_a4).2.2 hi ?_
    obtain ⟨v6, u5, hq, h⟩ := obnd h
    refine zCV1 (As := [.int x1, .int (u2.1 (a4 + 22) (nx (((4 : Int32) * x2) + (1 : Int32))))]) (rest := []) (b := 1132) (q' := q_243) dd251_39 rfl rfl (rcv_m rfl rfl (by decide)) rfl rfl rfl (f243_ok (d := d) (by omega)  hq) ?_
    refine zGo_s (pc' := 46) (st' := [.int v6]) dd251_42 rfl ?_
    exact zGo_lv (lv := [(0, .ref 1132), (1, .int x1), (2, .int x2), (3, .int v3)]) ⟨by simp, by simp, by simp⟩ (f251_46_ok hd h)
  · refine zUT dd251_21 rfl (kNeT hc) ?_
    refine zGo_s (pc' := 46) (st' := [.int (0 : Int32)]) dd251_45 rfl ?_
    exact zGo_lv (lv := [(0, .ref 1132), (1, .int x1), (2, .int x2), (3, .int v3)]) ⟨by simp, by simp, by simp⟩ (f251_46_ok hd h)
/-! PHModel.call(II)V -/
theorem dd252_0 : decode cX13_call 0 = .ok (.iconst 0, 1) := by decide +kernel
theorem dd252_1 : decode cX13_call 1 = .ok (.istore_n 3, 1) := by decide +kernel
theorem dd252_2 : decode cX13_call 2 = .ok (.iload_n 3, 1) := by decide +kernel
theorem dd252_3 : decode cX13_call 3 = .ok (.aload_n 0, 1) := by decide +kernel
theorem dd252_4 : decode cX13_call 4 = .ok (.getfield 20, 3) := by decide +kernel
theorem dd252_7 : decode cX13_call 7 = .ok (.getfield 450, 3) := by decide +kernel
theorem dd252_10 : decode cX13_call 10 = .ok (.iload_n 2, 1) := by decide +kernel
theorem dd252_11 : decode cX13_call 11 = .ok (.iaload, 1) := by decide +kernel
theorem dd252_12 : decode cX13_call 12 = .ok (.if_icmp .ge 44, 3) := by decide +kernel
theorem dd252_15 : decode cX13_call 15 = .ok (.aload_n 0, 1) := by decide +kernel
theorem dd252_16 : decode cX13_call 16 = .ok (.getfield 155, 3) := by decide +kernel
theorem dd252_19 : decode cX13_call 19 = .ok (.iload_n 3, 1) := by decide +kernel
theorem dd252_20 : decode cX13_call 20 = .ok (.aload_n 0, 1) := by decide +kernel
theorem dd252_21 : decode cX13_call 21 = .ok (.getfield 623, 3) := by decide +kernel
theorem dd252_24 : decode cX13_call 24 = .ok (.ifCond .ne 24, 3) := by decide +kernel
theorem dd252_27 : decode cX13_call 27 = .ok (.aload_n 0, 1) := by decide +kernel
theorem dd252_28 : decode cX13_call 28 = .ok (.iload_n 1, 1) := by decide +kernel
theorem dd252_29 : decode cX13_call 29 = .ok (.aload_n 0, 1) := by decide +kernel
theorem dd252_30 : decode cX13_call 30 = .ok (.getfield 20, 3) := by decide +kernel
theorem dd252_33 : decode cX13_call 33 = .ok (.getfield 469, 3) := by decide +kernel
theorem dd252_36 : decode cX13_call 36 = .ok (.iconst 4, 1) := by decide +kernel
theorem dd252_37 : decode cX13_call 37 = .ok (.iload_n 2, 1) := by decide +kernel
theorem dd252_38 : decode cX13_call 38 = .ok (.imul, 1) := by decide +kernel
theorem dd252_39 : decode cX13_call 39 = .ok (.iload_n 3, 1) := by decide +kernel
theorem dd252_40 : decode cX13_call 40 = .ok (.iadd, 1) := by decide +kernel
theorem dd252_41 : decode cX13_call 41 = .ok (.iaload, 1) := by decide +kernel
theorem dd252_42 : decode cX13_call 42 = .ok (.invokevirtual 662, 3) := by decide +kernel
theorem dd252_45 : decode cX13_call 45 = .ok (.goto 4, 3) := by decide +kernel
theorem dd252_48 : decode cX13_call 48 = .ok (.iconst 0, 1) := by decide +kernel
theorem dd252_49 : decode cX13_call 49 = .ok (.iastore, 1) := by decide +kernel
theorem dd252_50 : decode cX13_call 50 = .ok (.iinc 3 1, 3) := by decide +kernel
theorem dd252_53 : decode cX13_call 53 = .ok (.goto (-51), 3) := by decide +kernel
theorem dd252_56 : decode cX13_call 56 = .ok (.aload_n 0, 1) := by decide +kernel
theorem dd252_57 : decode cX13_call 57 = .ok (.getfield 623, 3) := by decide +kernel
theorem dd252_60 : decode cX13_call 60 = .ok (.ifCond .ne 20, 3) := by decide +kernel
theorem dd252_63 : decode cX13_call 63 = .ok (.aload_n 0, 1) := by decide +kernel
theorem dd252_64 : decode cX13_call 64 = .ok (.getfield 118, 3) := by decide +kernel
theorem dd252_67 : decode cX13_call 67 = .ok (.iload_n 1, 1) := by decide +kernel
theorem dd252_68 : decode cX13_call 68 = .ok (.iaload, 1) := by decide +kernel
theorem dd252_69 : decode cX13_call 69 = .ok (.bipush 8, 2) := by decide +kernel
theorem dd252_71 : decode cX13_call 71 = .ok (.if_icmp .ne 9, 3) := by decide +kernel
theorem dd252_74 : decode cX13_call 74 = .ok (.aload_n 0, 1) := by decide +kernel
theorem dd252_75 : decode cX13_call 75 = .ok (.bipush 6, 2) := by decide +kernel
theorem dd252_77 : decode cX13_call 77 = .ok (.invokevirtual 644, 3) := by decide +kernel
theorem dd252_80 : decode cX13_call 80 = .ok (.aload_n 0, 1) := by decide +kernel
theorem dd252_81 : decode cX13_call 81 = .ok (.getfield 623, 3) := by decide +kernel
theorem dd252_84 : decode cX13_call 84 = .ok (.ifCond .ne 72, 3) := by decide +kernel
theorem dd252_87 : decode cX13_call 87 = .ok (.aload_n 0, 1) := by decide +kernel
theorem dd252_88 : decode cX13_call 88 = .ok (.iload_n 1, 1) := by decide +kernel
theorem dd252_89 : decode cX13_call 89 = .ok (.aload_n 0, 1) := by decide +kernel
theorem dd252_90 : decode cX13_call 90 = .ok (.getfield 20, 3) := by decide +kernel
theorem dd252_93 : decode cX13_call 93 = .ok (.getfield 530, 3) := by decide +kernel
theorem dd252_96 : decode cX13_call 96 = .ok (.aload_n 0, 1) := by decide +kernel
theorem dd252_97 : decode cX13_call 97 = .ok (.getfield 20, 3) := by decide +kernel
theorem dd252_100 : decode cX13_call 100 = .ok (.getfield 544, 3) := by decide +kernel
theorem dd252_103 : decode cX13_call 103 = .ok (.aload_n 0, 1) := by decide +kernel
theorem dd252_104 : decode cX13_call 104 = .ok (.getfield 20, 3) := by decide +kernel
theorem dd252_107 : decode cX13_call 107 = .ok (.getfield 444, 3) := by decide +kernel
theorem dd252_110 : decode cX13_call 110 = .ok (.iload_n 2, 1) := by decide +kernel
theorem dd252_111 : decode cX13_call 111 = .ok (.iaload, 1) := by decide +kernel
theorem dd252_112 : decode cX13_call 112 = .ok (.iaload, 1) := by decide +kernel
theorem dd252_113 : decode cX13_call 113 = .ok (.iaload, 1) := by decide +kernel
theorem dd252_114 : decode cX13_call 114 = .ok (.iconst 1, 1) := by decide +kernel
theorem dd252_115 : decode cX13_call 115 = .ok (.invokevirtual 613, 3) := by decide +kernel
theorem dd252_118 : decode cX13_call 118 = .ok (.iconst 0, 1) := by decide +kernel
theorem dd252_119 : decode cX13_call 119 = .ok (.istore_n 3, 1) := by decide +kernel
theorem dd252_120 : decode cX13_call 120 = .ok (.iload_n 3, 1) := by decide +kernel
theorem dd252_121 : decode cX13_call 121 = .ok (.iconst 3, 1) := by decide +kernel
theorem dd252_122 : decode cX13_call 122 = .ok (.if_icmp .ge 29, 3) := by decide +kernel
theorem dd252_125 : decode cX13_call 125 = .ok (.aload_n 0, 1) := by decide +kernel
theorem dd252_126 : decode cX13_call 126 = .ok (.getfield 133, 3) := by decide +kernel
theorem dd252_129 : decode cX13_call 129 = .ok (.iconst 3, 1) := by decide +kernel
theorem dd252_130 : decode cX13_call 130 = .ok (.aload_n 0, 1) := by decide +kernel
theorem dd252_131 : decode cX13_call 131 = .ok (.iload_n 1, 1) := by decide +kernel
theorem dd252_132 : decode cX13_call 132 = .ok (.invokevirtual 591, 3) := by decide +kernel
theorem dd252_135 : decode cX13_call 135 = .ok (.imul, 1) := by decide +kernel
theorem dd252_136 : decode cX13_call 136 = .ok (.iload_n 3, 1) := by decide +kernel
theorem dd252_137 : decode cX13_call 137 = .ok (.iadd, 1) := by decide +kernel
theorem dd252_138 : decode cX13_call 138 = .ok (.aload_n 0, 1) := by decide +kernel
theorem dd252_139 : decode cX13_call 139 = .ok (.getfield 155, 3) := by decide +kernel
theorem dd252_142 : decode cX13_call 142 = .ok (.iload_n 3, 1) := by decide +kernel
theorem dd252_143 : decode cX13_call 143 = .ok (.iaload, 1) := by decide +kernel
theorem dd252_144 : decode cX13_call 144 = .ok (.iastore, 1) := by decide +kernel
theorem dd252_145 : decode cX13_call 145 = .ok (.iinc 3 1, 3) := by decide +kernel
theorem dd252_148 : decode cX13_call 148 = .ok (.goto (-28), 3) := by decide +kernel
theorem dd252_151 : decode cX13_call 151 = .ok (.aload_n 0, 1) := by decide +kernel
theorem dd252_152 : decode cX13_call 152 = .ok (.iload_n 1, 1) := by decide +kernel
theorem dd252_153 : decode cX13_call 153 = .ok (.invokevirtual 607, 3) := by decide +kernel
theorem dd252_156 : decode cX13_call 156 = .ok (.return_, 1) := by decide +kernel
def f252_120 (n : Nat) : Nat → Int32 → Int32 → zσ → Option zσ
  | 0, _, _, _ => none
  | j + 1, x1, x3, s =>
    if x3 < (3 : Int32) then
    yb1 (f214 n x1 s) fun v3 u2 =>
    if zin? x3 3 = true then
    if zin? (((3 : Int32) * v3) + x3) 3360 = true then
    zlet (sI u2 1239 (nx (((3 : Int32) * v3) + x3)) (u2.1 1246 (nx x3))) fun u4 =>
    f252_120 n j x1 (x3 + (1 : Int32)) u4
    else none
    else none
    else yb0 (f213 n (f219 n 4) x1 s) fun u1 =>
    some u1
set_option maxRecDepth 20000 in
theorem f252_120_ok {n d : Nat} (hd : 25 ≤ d) : ∀ (j : Nat) (x1 : Int32) (x3 : Int32) (s : zσ) (s2 : zσ), f252_120 n j x1 x3 s = some s2 → ∀ {w : zσ} {fz : Bool} {L : Nat} {xs : Nat → Int32}, zGo (zX fz L xs) d q_252 (120, [(0, .ref 1132), (1, .int x1), (3, .int x3)], [], zmk w s, 0, 0) (none, zmk w s2, 0, 0) := by
  obtain ⟨d, rfl⟩ : ∃ d0, d = d0 + 1 := ⟨d - 1, by omega⟩
  intro j
  induction j with
  | zero => intro x1 x3 s s2 h; cases h
  | succ j ih =>
    intro x1 x3 s s2 h w fz L xs
    rw [f252_120] at h
    refine zGo_s (pc' := 121) (st' := [.int x3]) dd252_120 rfl ?_
    refine zGo_s (pc' := 122) (st' := [.int (3 : Int32), .int x3]) dd252_121 rfl ?_
    rcases oite h with ⟨hc, h⟩ | ⟨hc, h⟩
    · refine zIF dd252_122 (kGeF hc) ?_
      refine zGo_s (pc' := 126) (st' := [.ref 1132]) dd252_125 rfl ?_
      refine mGF (e := 1239) dd252_126 rfl rfl rfl rfl rfl ?_
      refine zGo_s (pc' := 130) (st' := [.int (3 : Int32), .ref 1239]) dd252_129 rfl ?_
      refine zGo_s (pc' := 131) (st' := [.ref 1132, .int (3 : Int32), .ref 1239]) dd252_130 rfl ?_
      refine zGo_s (pc' := 132) (st' := [.int x1, .ref 1132, .int (3 : Int32), .ref 1239]) dd252_131 rfl ?_
      obtain ⟨v3, u2, hq, h⟩ := obnd h
      refine zCV1 (As := [.int x1]) (rest := [.int (3 : Int32), .ref 1239]) (b := 1132) (q' := q_214) dd252_132 rfl rfl (rcv_m rfl rfl (by decide)) rfl rfl rfl (f214_ok (d := d) (by omega)  hq) ?_
      refine zGo_s (pc' := 136) (st' := [.int ((3 : Int32) * v3), .ref 1239]) dd252_135 rfl ?_
      refine zGo_s (pc' := 137) (st' := [.int x3, .int ((3 : Int32) * v3), .ref 1239]) dd252_136 rfl ?_
      refine zGo_s (pc' := 138) (st' := [.int (((3 : Int32) * v3) + x3), .ref 1239]) dd252_137 rfl ?_
      refine zGo_s (pc' := 139) (st' := [.ref 1132, .int (((3 : Int32) * v3) + x3), .ref 1239]) dd252_138 rfl ?_
      refine mGF (e := 1246) dd252_139 rfl rfl rfl rfl rfl ?_
      refine zGo_s (pc' := 143) (st' := [.int x3, .ref 1246, .int (((3 : Int32) * v3) + x3), .ref 1239]) dd252_142 rfl ?_
      obtain ⟨hi, h⟩ := ochk h
      refine mIA dd252_143 rfl rfl hi ?_
      obtain ⟨hi, h⟩ := ochk h
      obtain ⟨u4, e_u4, h⟩ := olet h
      refine mIS dd252_144 rfl rfl hi e_u4 ?_
      refine zGo_s (pc' := 148) (st' := []) (lv' := [(3, .int (x3 + (1 : Int32))), (0, .ref 1132), (1, .int x1)]) dd252_145 rfl ?_
      refine zGo_s (pc' := 120) (st' := []) dd252_148 rfl ?_
      exact zGo_lv (lv := [(0, .ref 1132), (1, .int x1), (3, .int (x3 + (1 : Int32)))]) ⟨by simp, by simp, by simp⟩ (ih _ _ _ _ h)
    · refine zIT dd252_122 rfl (kGeT hc) ?_
      refine zGo_s (pc' := 152) (st' := [.ref 1132]) dd252_151 rfl ?_
      refine zGo_s (pc' := 153) (st' := [.int x1, .ref 1132]) dd252_152 rfl ?_
      obtain ⟨u1, hq, h⟩ := obn0 h
      refine zCV0 (As := [.int x1]) (rest := []) (b := 1132) (q' := q_213) dd252_153 rfl rfl (rcv_m rfl rfl (by decide)) rfl rfl rfl (f213_ok (d := d) (Df := 23) (by omega) f219_okk4  hq) ?_
      obtain rfl := ore0 h
      exact zGo_ret dd252_156 rfl rfl
def f252_80 (n : Nat) (x1 : Int32) (x2 : Int32) (s : zσ) : Option zσ :=
    if (s.1 1132 69) = (0 : Int32) then
    zrd 12 (s.2.2 1132 11) fun a1 =>
    zrd 12 (s.2.2 1132 11) fun a2 =>
    zrd 12 (s.2.2 1132 11) fun a3 =>
    if zin? x2 200 = true then
    if zin? (s.1 (a3 + 18) (nx x2)) 1400 = true then
    if zin? (s.1 (a2 + 33) (nx (s.1 (a3 + 18) (nx x2)))) 6 = true then
    yb0 (f212 n x1 (s.1 (a1 + 10) (nx (s.1 (a2 + 33) (nx (s.1 (a3 + 18) (nx x2)))))) (1 : Int32) s) fun u4 =>
    f252_120 n n x1 (0 : Int32) u4
    else none
    else none
    else none
    else some s
set_option maxRecDepth 20000 in
theorem f252_80_ok {n d : Nat} {x1 : Int32} {x2 : Int32} {s : zσ} {s2 : zσ} (hd : 25 ≤ d) (h : f252_80 n x1 x2 s = some s2) {w : zσ} {fz : Bool} {L : Nat} {xs : Nat → Int32} : zGo (zX fz L xs) d q_252 (80, [(0, .ref 1132), (1, .int x1), (2, .int x2)], [], zmk w s, 0, 0) (none, zmk w s2, 0, 0) := by
  obtain ⟨d, rfl⟩ : ∃ d0, d = d0 + 1 := ⟨d - 1, by omega⟩
  unfold f252_80 at h
  refine zGo_s (pc' := 81) (st' := [.ref 1132]) dd252_80 rfl ?_
  refine mGI dd252_81 rfl rfl rfl rfl ?_
  rcases oite h with ⟨hc, h⟩ | ⟨hc, h⟩
  · refine zUF dd252_84 (kNeF hc) ?_
    refine zGo_s (pc' := 88) (st' := [.ref 1132]) dd252_87 rfl ?_
    refine zGo_s (pc' := 89) (st' := [.int x1, .ref 1132]) dd252_88 rfl ?_
    refine zGo_s (pc' := 90) (st' := [.ref 1132, .int x1, .ref 1132]) dd252_89 rfl ?_
    obtain ⟨a1, e_a1, c_a1, h⟩ := ordd h
    refine mGR dd252_90 rfl rfl rfl rfl e_a1 ?_
    refine mGF (e := (a1 + 10)) dd252_93 rfl (ck12_s c_a1).1 (ck12_s c_a1).2 rfl (cf12_10 c_a1).1 ?_
    refine zGo_s (pc' := 97) (st' := [.ref 1132, .ref (a1 + 10), .int x1, .ref 1132]) dd252_96 rfl ?_
    obtain ⟨a2, e_a2, c_a2, h⟩ := ordd h
    refine mGR dd252_97 rfl rfl rfl rfl e_a2 ?_
    refine mGF (e := (a2 + 33)) dd252_100 rfl (ck12_s c_a2).1 (ck12_s c_a2).2 rfl (cf12_39 c_a2).1 ?_
    refine zGo_s (pc' := 104) (st' := [.ref 1132, .ref (a2 + 33), .ref (a1 + 10), .int x1, .ref 1132]) dd252_103 rfl ?_
    obtain ⟨a3, e_a3, c_a3, h⟩ := ordd h
    refine mGR dd252_104 rfl rfl rfl rfl e_a3 ?_
    refine mGF (e := (a3 + 18)) dd252_107 rfl (ck12_s c_a3).1 (ck12_s c_a3).2 rfl (cf12_20 c_a3).1 ?_
    refine zGo_s (pc' := 111) (st' := [.int x2, .ref (a3 + 18), .ref (a2 + 33), .ref (a1 + 10), .int x1, .ref 1132]) dd252_110 rfl ?_
    obtain ⟨hi, h⟩ := ochk h
    refine mIA dd252_111 (cf12_20 c_a3).2.1 (cf12_20 c_a3).2.2 hi ?_
    obtain ⟨hi, h⟩ := ochk h
    refine mIA dd252_112 (cf12_39 c_a2).2.1 (cf12_39 c_a2).2.2 hi ?_
    obtain ⟨hi, h⟩ := ochk h
    refine mIA dd252_113 (cf12_10 c_a1).2.1 (cf12_10 c_a1).2.2 hi ?_
    refine zGo_s (pc' := 115) (st' := [.int (1 : Int32), .int (s.1 (a1 + 10) (nx (s.1 (a2 + 33) (nx (s.1 (a3 + 18) (nx x2)))))), .int x1, .ref 1132]) dd252_114 rfl ?_
    obtain ⟨u4, hq, h⟩ := obn0 h
    refine zCV0 (As := [.int x1, .int (s.1 (a1 + 10) (nx (s.1 (a2 + 33) (nx (s.1 (a3 + 18) (nx x2)))))), .int (1 : Int32)]) (rest := []) (b := 1132) (q' := q_212) dd252_115 rfl rfl (rcv_m rfl rfl (by decide)) rfl rfl rfl (f212_ok (d := d) (by omega)  hq) ?_
    refine zGo_s (pc' := 119) (st' := [.int (0 : Int32)]) dd252_118 rfl ?_
    refine zGo_s (pc' := 120) (st' := []) (lv' := [(3, .int (0 : Int32)), (0, .ref 1132), (1, .int x1), (2, .int x2)]) dd252_119 rfl ?_
    exact zGo_lv (lv := [(0, .ref 1132), (1, .int x1), (3, .int (0 : Int32))]) ⟨by simp, by simp, by simp⟩ (f252_120_ok hd _ _ _ _ _ h)
  · refine zUT dd252_84 rfl (kNeT hc) ?_
    obtain rfl := ore0 h
    exact zGo_ret dd252_156 rfl rfl
def f252_49 (n : Nat) (r2 : Int32 → Int32 → Int32 → zσ → Option zσ) (x1 : Int32) (x2 : Int32) (x3 : Int32) (y0 : Int32) (y1 : Int32) (s : zσ) : Option zσ :=
    if zin? y1 3 = true then
    zlet (sI s 1246 (nx y1) y0) fun u1 =>
    r2 x1 x2 (x3 + (1 : Int32)) u1
    else none
set_option maxRecDepth 20000 in
theorem f252_49_ok {n d : Nat} {r2 : Int32 → Int32 → Int32 → zσ → Option zσ} {x1 : Int32} {x2 : Int32} {x3 : Int32} {y0 : Int32} {y1 : Int32} {s : zσ} {s2 : zσ} (hd : 25 ≤ d) (hr2 : ∀ (x1 : Int32) (x2 : Int32) (x3 : Int32) (s : zσ) (s2 : zσ), r2 x1 x2 x3 s = some s2 → ∀ {w : zσ} {fz : Bool} {L : Nat} {xs : Nat → Int32}, zGo (zX fz L xs) d q_252 (2, [(0, .ref 1132), (1, .int x1), (2, .int x2), (3, .int x3)], [], zmk w s, 0, 0) (none, zmk w s2, 0, 0)) (h : f252_49 n r2 x1 x2 x3 y0 y1 s = some s2) {w : zσ} {fz : Bool} {L : Nat} {xs : Nat → Int32} : zGo (zX fz L xs) d q_252 (49, [(0, .ref 1132), (1, .int x1), (2, .int x2), (3, .int x3)], [.int y0, .int y1, .ref 1246], zmk w s, 0, 0) (none, zmk w s2, 0, 0) := by
  obtain ⟨d, rfl⟩ : ∃ d0, d = d0 + 1 := ⟨d - 1, by omega⟩
  unfold f252_49 at h
  obtain ⟨hi, h⟩ := ochk h
  obtain ⟨u1, e_u1, h⟩ := olet h
  refine mIS dd252_49 rfl rfl hi e_u1 ?_
  refine zGo_s (pc' := 53) (st' := []) (lv' := [(3, .int (x3 + (1 : Int32))), (0, .ref 1132), (1, .int x1), (2, .int x2)]) dd252_50 rfl ?_
  refine zGo_s (pc' := 2) (st' := []) dd252_53 rfl ?_
  exact zGo_lv (lv := [(0, .ref 1132), (1, .int x1), (2, .int x2), (3, .int (x3 + (1 : Int32)))]) ⟨by simp, by simp, by simp⟩ (hr2 _ _ _ _ _ h)
def f252_2 (n : Nat) : Nat → Int32 → Int32 → Int32 → zσ → Option zσ
  | 0, _, _, _, _ => none
  | j + 1, x1, x2, x3, s =>
    zrd 12 (s.2.2 1132 11) fun a1 =>
    if zin? x2 200 = true then
    if x3 < (s.1 (a1 + 20) (nx x2)) then
    if (s.1 1132 69) = (0 : Int32) then
    zrd 12 (s.2.2 1132 11) fun a3 =>
    if zin? (((4 : Int32) * x2) + x3) 800 = true then
    yb1 (f243 n x1 (s.1 (a3 + 22) (nx (((4 : Int32) * x2) + x3))) s) fun v5 u4 =>
    f252_49 n (f252_2 n j) x1 x2 x3 v5 x3 u4
    else none
    else f252_49 n (f252_2 n j) x1 x2 x3 (0 : Int32) x3 s
    else if (s.1 1132 69) = (0 : Int32) then
    if zin? x1 8 = true then
    if (s.1 1234 (nx x1)) = (8 : Int32) then
    yb0 (f246 n (6 : Int32) s) fun u2 =>
    f252_80 n x1 x2 u2
    else f252_80 n x1 x2 s
    else none
    else f252_80 n x1 x2 s
    else none
set_option maxRecDepth 20000 in
theorem f252_2_ok {n d : Nat} (hd : 25 ≤ d) : ∀ (j : Nat) (x1 : Int32) (x2 : Int32) (x3 : Int32) (s : zσ) (s2 : zσ), f252_2 n j x1 x2 x3 s = some s2 → ∀ {w : zσ} {fz : Bool} {L : Nat} {xs : Nat → Int32}, zGo (zX fz L xs) d q_252 (2, [(0, .ref 1132), (1, .int x1), (2, .int x2), (3, .int x3)], [], zmk w s, 0, 0) (none, zmk w s2, 0, 0) := by
  obtain ⟨d, rfl⟩ : ∃ d0, d = d0 + 1 := ⟨d - 1, by omega⟩
  intro j
  induction j with
  | zero => intro x1 x2 x3 s s2 h; cases h
  | succ j ih =>
    intro x1 x2 x3 s s2 h w fz L xs
    rw [f252_2] at h
    refine zGo_s (pc' := 3) (st' := [.int x3]) dd252_2 rfl ?_
    refine zGo_s (pc' := 4) (st' := [.ref 1132, .int x3]) dd252_3 rfl ?_
    obtain ⟨a1, e_a1, c_a1, h⟩ := ordd h
    refine mGR dd252_4 rfl rfl rfl rfl e_a1 ?_
    refine mGF (e := (a1 + 20)) dd252_7 rfl (ck12_s c_a1).1 (ck12_s c_a1).2 rfl (cf12_22 c_a1).1 ?_
    refine zGo_s (pc' := 11) (st' := [.int x2, .ref (a1 + 20), .int x3]) dd252_10 rfl ?_
    obtain ⟨hi, h⟩ := ochk h
    refine mIA dd252_11 (cf12_22 c_a1).2.1 (cf12_22 c_a1).2.2 hi ?_
    rcases oite h with ⟨hc, h⟩ | ⟨hc, h⟩
    · refine zIF dd252_12 (kGeF hc) ?_
      refine zGo_s (pc' := 16) (st' := [.ref 1132]) dd252_15 rfl ?_
      refine mGF (e := 1246) dd252_16 rfl rfl rfl rfl rfl ?_
      refine zGo_s (pc' := 20) (st' := [.int x3, .ref 1246]) dd252_19 rfl ?_
      refine zGo_s (pc' := 21) (st' := [.ref 1132, .int x3, .ref 1246]) dd252_20 rfl ?_
      refine mGI dd252_21 rfl rfl rfl rfl ?_
      rcases oite h with ⟨hc, h⟩ | ⟨hc, h⟩
      · refine zUF dd252_24 (kNeF hc) ?_
        refine zGo_s (pc' := 28) (st' := [.ref 1132, .int x3, .ref 1246]) dd252_27 rfl ?_
        refine zGo_s (pc' := 29) (st' := [.int x1, .ref 1132, .int x3, .ref 1246]) dd252_28 rfl ?_
        refine zGo_s (pc' := 30) (st' := [.ref 1132, .int x1, .ref 1132, .int x3, .ref 1246]) dd252_29 rfl ?_
        obtain ⟨a3, e_a3, c_a3, h⟩ := ordd h
        refine mGR dd252_30 rfl rfl rfl rfl e_a3 ?_
        refine mGF (e := (a3 + 22)) dd252_33 rfl (ck12_s c_a3).1 (ck12_s c_a3).2 rfl (cf12_24 c_a3).1 ?_
        refine zGo_s (pc' := 37) (st' := [.int (4 : Int32), .ref (a3 + 22), .int x1, .ref 1132, .int x3, .ref 1246]) dd252_36 rfl ?_
        refine zGo_s (pc' := 38) (st' := [.int x2, .int (4 : Int32), .ref (a3 + 22), .int x1, .ref 1132, .int x3, .ref 1246]) dd252_37 rfl ?_
        refine zGo_s (pc' := 39) (st' := [.int ((4 : Int32) * x2), .ref (a3 + 22), .int x1, .ref 1132, .int x3, .ref 1246]) dd252_38 rfl ?_
        refine zGo_s (pc' := 40) (st' := [.int x3, .int ((4 : Int32) * x2), .ref (a3 + 22), .int x1, .ref 1132, .int x3, .ref 1246]) dd252_39 rfl ?_
        refine zGo_s (pc' := 41) (st' := [.int (((4 : Int32) * x2) + x3), .ref (a3 + 22), .int x1, .ref 1132, .int x3, .ref 1246]) dd252_40 rfl ?_
        obtain ⟨hi, h⟩ := ochk h
        refine mIA dd252_41 (cf12_24 c_a3).2.1 (cf12_24 c_a3).2.2 hi ?_
        obtain ⟨v5, u4, hq, h⟩ := obnd h
        refine zCV1 (As := [.int x1, .int (s.1 (a3 + 22) (nx (((4 : Int32) * x2) + x3)))]) (rest := [.int x3, .ref 1246]) (b := 1132) (q' := q_243) dd252_42 rfl rfl (rcv_m rfl rfl (by decide)) rfl rfl rfl (f243_ok (d := d) (by omega)  hq) ?_
        refine zGo_s (pc' := 49) (st' := [.int v5, .int x3, .ref 1246]) dd252_45 rfl ?_
        exact f252_49_ok hd ih h
      · refine zUT dd252_24 rfl (kNeT hc) ?_
        refine zGo_s (pc' := 49) (st' := [.int (0 : Int32), .int x3, .ref 1246]) dd252_48 rfl ?_
        exact f252_49_ok hd ih h
    · refine zIT dd252_12 rfl (kGeT hc) ?_
      refine zGo_s (pc' := 57) (st' := [.ref 1132]) dd252_56 rfl ?_
      refine mGI dd252_57 rfl rfl rfl rfl ?_
      rcases oite h with ⟨hc, h⟩ | ⟨hc, h⟩
      · refine zUF dd252_60 (kNeF hc) ?_
        refine zGo_s (pc' := 64) (st' := [.ref 1132]) dd252_63 rfl ?_
        refine mGF (e := 1234) dd252_64 rfl rfl rfl rfl rfl ?_
        refine zGo_s (pc' := 68) (st' := [.int x1, .ref 1234]) dd252_67 rfl ?_
        obtain ⟨hi, h⟩ := ochk h
        refine mIA dd252_68 rfl rfl hi ?_
        refine zGo_s (pc' := 71) (st' := [.int (8 : Int32), .int (s.1 1234 (nx x1))]) dd252_69 rfl ?_
        rcases oite h with ⟨hc, h⟩ | ⟨hc, h⟩
        · refine zIF dd252_71 (kNeF hc) ?_
          refine zGo_s (pc' := 75) (st' := [.ref 1132]) dd252_74 rfl ?_
          refine zGo_s (pc' := 77) (st' := [.int (6 : Int32), .ref 1132]) dd252_75 rfl ?_
          obtain ⟨u2, hq, h⟩ := obn0 h
          refine zCV0 (As := [.int (6 : Int32)]) (rest := []) (b := 1132) (q' := q_246) dd252_77 rfl rfl (rcv_m rfl rfl (by decide)) rfl rfl rfl (f246_ok (d := d) (by omega)  hq) ?_
          exact zGo_lv (lv := [(0, .ref 1132), (1, .int x1), (2, .int x2)]) ⟨by simp, by simp, by simp⟩ (f252_80_ok hd h)
        · refine zIT dd252_71 rfl (kNeT hc) ?_
          exact zGo_lv (lv := [(0, .ref 1132), (1, .int x1), (2, .int x2)]) ⟨by simp, by simp, by simp⟩ (f252_80_ok hd h)
      · refine zUT dd252_60 rfl (kNeT hc) ?_
        exact zGo_lv (lv := [(0, .ref 1132), (1, .int x1), (2, .int x2)]) ⟨by simp, by simp, by simp⟩ (f252_80_ok hd h)
def f252 (n : Nat) (x1 : Int32) (x2 : Int32) (s : zσ) : Option zσ :=
    f252_2 n n x1 x2 (0 : Int32) s
set_option maxRecDepth 20000 in
theorem f252_ok {n d : Nat} {x1 : Int32} {x2 : Int32} {s : zσ} {s2 : zσ} (hd : 25 ≤ d) (h : f252 n x1 x2 s = some s2) {w : zσ} {fz : Bool} {L : Nat} {xs : Nat → Int32} : zGo (zX fz L xs) d q_252 (0, [(0, .ref 1132), (1, .int x1), (2, .int x2)], [], zmk w s, 0, 0) (none, zmk w s2, 0, 0) := by
  obtain ⟨d, rfl⟩ : ∃ d0, d = d0 + 1 := ⟨d - 1, by omega⟩
  unfold f252 at h
  refine zGo_s (pc' := 1) (st' := [.int (0 : Int32)]) dd252_0 rfl ?_
  refine zGo_s (pc' := 2) (st' := []) (lv' := [(3, .int (0 : Int32)), (0, .ref 1132), (1, .int x1), (2, .int x2)]) dd252_1 rfl ?_
  exact zGo_lv (lv := [(0, .ref 1132), (1, .int x1), (2, .int x2), (3, .int (0 : Int32))]) ⟨by simp, by simp, by simp⟩ (f252_2_ok hd _ _ _ _ _ _ h)
/-! PHModel.returns(II)V -/
theorem dd253_0 : decode cX13_returns 0 = .ok (.aload_n 0, 1) := by decide +kernel
theorem dd253_1 : decode cX13_returns 1 = .ok (.iload_n 1, 1) := by decide +kernel
theorem dd253_2 : decode cX13_returns 2 = .ok (.aload_n 0, 1) := by decide +kernel
theorem dd253_3 : decode cX13_returns 3 = .ok (.getfield 20, 3) := by decide +kernel
theorem dd253_6 : decode cX13_returns 6 = .ok (.getfield 469, 3) := by decide +kernel
theorem dd253_9 : decode cX13_returns 9 = .ok (.iconst 4, 1) := by decide +kernel
theorem dd253_10 : decode cX13_returns 10 = .ok (.iload_n 2, 1) := by decide +kernel
theorem dd253_11 : decode cX13_returns 11 = .ok (.imul, 1) := by decide +kernel
theorem dd253_12 : decode cX13_returns 12 = .ok (.iaload, 1) := by decide +kernel
theorem dd253_13 : decode cX13_returns 13 = .ok (.invokevirtual 662, 3) := by decide +kernel
theorem dd253_16 : decode cX13_returns 16 = .ok (.istore_n 3, 1) := by decide +kernel
theorem dd253_17 : decode cX13_returns 17 = .ok (.aload_n 0, 1) := by decide +kernel
theorem dd253_18 : decode cX13_returns 18 = .ok (.getfield 623, 3) := by decide +kernel
theorem dd253_21 : decode cX13_returns 21 = .ok (.ifCond .eq 4, 3) := by decide +kernel
theorem dd253_24 : decode cX13_returns 24 = .ok (.return_, 1) := by decide +kernel
theorem dd253_25 : decode cX13_returns 25 = .ok (.iconst 1, 1) := by decide +kernel
theorem dd253_26 : decode cX13_returns 26 = .ok (.istore 4, 2) := by decide +kernel
theorem dd253_28 : decode cX13_returns 28 = .ok (.iload 4, 2) := by decide +kernel
theorem dd253_30 : decode cX13_returns 30 = .ok (.ifCond .eq 21, 3) := by decide +kernel
theorem dd253_33 : decode cX13_returns 33 = .ok (.aload_n 0, 1) := by decide +kernel
theorem dd253_34 : decode cX13_returns 34 = .ok (.iload_n 1, 1) := by decide +kernel
theorem dd253_35 : decode cX13_returns 35 = .ok (.invokevirtual 594, 3) := by decide +kernel
theorem dd253_38 : decode cX13_returns 38 = .ok (.ifCond .ne 7, 3) := by decide +kernel
theorem dd253_41 : decode cX13_returns 41 = .ok (.iconst 1, 1) := by decide +kernel
theorem dd253_42 : decode cX13_returns 42 = .ok (.goto 4, 3) := by decide +kernel
theorem dd253_45 : decode cX13_returns 45 = .ok (.iconst 0, 1) := by decide +kernel
theorem dd253_46 : decode cX13_returns 46 = .ok (.istore 4, 2) := by decide +kernel
theorem dd253_48 : decode cX13_returns 48 = .ok (.goto (-20), 3) := by decide +kernel
theorem dd253_51 : decode cX13_returns 51 = .ok (.aload_n 0, 1) := by decide +kernel
theorem dd253_52 : decode cX13_returns 52 = .ok (.iload_n 1, 1) := by decide +kernel
theorem dd253_53 : decode cX13_returns 53 = .ok (.iload_n 3, 1) := by decide +kernel
theorem dd253_54 : decode cX13_returns 54 = .ok (.invokevirtual 597, 3) := by decide +kernel
theorem dd253_57 : decode cX13_returns 57 = .ok (.aload_n 0, 1) := by decide +kernel
theorem dd253_58 : decode cX13_returns 58 = .ok (.iload_n 1, 1) := by decide +kernel
theorem dd253_59 : decode cX13_returns 59 = .ok (.invokevirtual 607, 3) := by decide +kernel
theorem dd253_62 : decode cX13_returns 62 = .ok (.return_, 1) := by decide +kernel
def f253_46 (n : Nat) (r28 : Int32 → Int32 → Int32 → zσ → Option zσ) (x1 : Int32) (x3 : Int32) (y0 : Int32) (s : zσ) : Option zσ :=
    r28 x1 x3 y0 s
set_option maxRecDepth 20000 in
theorem f253_46_ok {n d : Nat} {r28 : Int32 → Int32 → Int32 → zσ → Option zσ} {x1 : Int32} {x3 : Int32} {y0 : Int32} {s : zσ} {s2 : zσ} (hd : 25 ≤ d) (hr28 : ∀ (x1 : Int32) (x3 : Int32) (x4 : Int32) (s : zσ) (s2 : zσ), r28 x1 x3 x4 s = some s2 → ∀ {w : zσ} {fz : Bool} {L : Nat} {xs : Nat → Int32}, zGo (zX fz L xs) d q_253 (28, [(0, .ref 1132), (1, .int x1), (3, .int x3), (4, .int x4)], [], zmk w s, 0, 0) (none, zmk w s2, 0, 0)) (h : f253_46 n r28 x1 x3 y0 s = some s2) {w : zσ} {fz : Bool} {L : Nat} {xs : Nat → Int32} : zGo (zX fz L xs) d q_253 (46, [(0, .ref 1132), (1, .int x1), (3, .int x3)], [.int y0], zmk w s, 0, 0) (none, zmk w s2, 0, 0) := by
  obtain ⟨d, rfl⟩ : ∃ d0, d = d0 + 1 := ⟨d - 1, by omega⟩
  unfold f253_46 at h
  refine zGo_s (pc' := 48) (st' := []) (lv' := [(4, .int y0), (0, .ref 1132), (1, .int x1), (3, .int x3)]) dd253_46 rfl ?_
  refine zGo_s (pc' := 28) (st' := []) dd253_48 rfl ?_
  exact zGo_lv (lv := [(0, .ref 1132), (1, .int x1), (3, .int x3), (4, .int y0)]) ⟨by simp, by simp, by simp⟩ (hr28 _ _ _ _ _ h)
def f253_28 (n : Nat) : Nat → Int32 → Int32 → Int32 → zσ → Option zσ
  | 0, _, _, _, _ => none
  | j + 1, x1, x3, x4, s =>
    if x4 = (0 : Int32) then
    yb0 (f216 n x1 x3 s) fun u1 =>
    yb0 (f213 n (f219 n 4) x1 u1) fun u2 =>
    some u2
    else yb1 (f215 n x1 s) fun v4 u3 =>
    if v4 = (0 : Int32) then
    f253_46 n (f253_28 n j) x1 x3 (1 : Int32) u3
    else f253_46 n (f253_28 n j) x1 x3 (0 : Int32) u3
set_option maxRecDepth 20000 in
theorem f253_28_ok {n d : Nat} (hd : 25 ≤ d) : ∀ (j : Nat) (x1 : Int32) (x3 : Int32) (x4 : Int32) (s : zσ) (s2 : zσ), f253_28 n j x1 x3 x4 s = some s2 → ∀ {w : zσ} {fz : Bool} {L : Nat} {xs : Nat → Int32}, zGo (zX fz L xs) d q_253 (28, [(0, .ref 1132), (1, .int x1), (3, .int x3), (4, .int x4)], [], zmk w s, 0, 0) (none, zmk w s2, 0, 0) := by
  obtain ⟨d, rfl⟩ : ∃ d0, d = d0 + 1 := ⟨d - 1, by omega⟩
  intro j
  induction j with
  | zero => intro x1 x3 x4 s s2 h; cases h
  | succ j ih =>
    intro x1 x3 x4 s s2 h w fz L xs
    rw [f253_28] at h
    refine zGo_s (pc' := 30) (st' := [.int x4]) dd253_28 rfl ?_
    rcases oite h with ⟨hc, h⟩ | ⟨hc, h⟩
    · refine zUT dd253_30 rfl (kEqT hc) ?_
      refine zGo_s (pc' := 52) (st' := [.ref 1132]) dd253_51 rfl ?_
      refine zGo_s (pc' := 53) (st' := [.int x1, .ref 1132]) dd253_52 rfl ?_
      refine zGo_s (pc' := 54) (st' := [.int x3, .int x1, .ref 1132]) dd253_53 rfl ?_
      obtain ⟨u1, hq, h⟩ := obn0 h
      refine zCV0 (As := [.int x1, .int x3]) (rest := []) (b := 1132) (q' := q_216) dd253_54 rfl rfl (rcv_m rfl rfl (by decide)) rfl rfl rfl (f216_ok (d := d) (by omega)  hq) ?_
      refine zGo_s (pc' := 58) (st' := [.ref 1132]) dd253_57 rfl ?_
      refine zGo_s (pc' := 59) (st' := [.int x1, .ref 1132]) dd253_58 rfl ?_
      obtain ⟨u2, hq, h⟩ := obn0 h
      refine zCV0 (As := [.int x1]) (rest := []) (b := 1132) (q' := q_213) dd253_59 rfl rfl (rcv_m rfl rfl (by decide)) rfl rfl rfl (f213_ok (d := d) (Df := 23) (by omega) f219_okk4  hq) ?_
      obtain rfl := ore0 h
      exact zGo_ret dd253_62 rfl rfl
    · refine zUF dd253_30 (kEqF hc) ?_
      refine zGo_s (pc' := 34) (st' := [.ref 1132]) dd253_33 rfl ?_
      refine zGo_s (pc' := 35) (st' := [.int x1, .ref 1132]) dd253_34 rfl ?_
      obtain ⟨v4, u3, hq, h⟩ := obnd h
      refine zCV1 (As := [.int x1]) (rest := []) (b := 1132) (q' := q_215) dd253_35 rfl rfl (rcv_m rfl rfl (by decide)) rfl rfl rfl (f215_ok (d := d) (by omega)  hq) ?_
      rcases oite h with ⟨hc, h⟩ | ⟨hc, h⟩
      · refine zUF dd253_38 (kNeF hc) ?_
        refine zGo_s (pc' := 42) (st' := [.int (1 : Int32)]) dd253_41 rfl ?_
        refine zGo_s (pc' := 46) (st' := [.int (1 : Int32)]) dd253_42 rfl ?_
        exact zGo_lv (lv := [(0, .ref 1132), (1, .int x1), (3, .int x3)]) ⟨by simp, by simp, by simp⟩ (f253_46_ok hd ih h)
      · refine zUT dd253_38 rfl (kNeT hc) ?_
        refine zGo_s (pc' := 46) (st' := [.int (0 : Int32)]) dd253_45 rfl ?_
        exact zGo_lv (lv := [(0, .ref 1132), (1, .int x1), (3, .int x3)]) ⟨by simp, by simp, by simp⟩ (f253_46_ok hd ih h)
def f253 (n : Nat) (x1 : Int32) (x2 : Int32) (s : zσ) : Option zσ :=
    zrd 12 (s.2.2 1132 11) fun a1 =>
    if zin? ((4 : Int32) * x2) 800 = true then
    yb1 (f243 n x1 (s.1 (a1 + 22) (nx ((4 : Int32) * x2))) s) fun v3 u2 =>
    if (u2.1 1132 69) = (0 : Int32) then
    f253_28 n n x1 v3 (1 : Int32) u2
    else some u2
    else none
set_option maxRecDepth 20000 in
theorem f253_ok {n d : Nat} {x1 : Int32} {x2 : Int32} {s : zσ} {s2 : zσ} (hd : 25 ≤ d) (h : f253 n x1 x2 s = some s2) {w : zσ} {fz : Bool} {L : Nat} {xs : Nat → Int32} : zGo (zX fz L xs) d q_253 (0, [(0, .ref 1132), (1, .int x1), (2, .int x2)], [], zmk w s, 0, 0) (none, zmk w s2, 0, 0) := by
  obtain ⟨d, rfl⟩ : ∃ d0, d = d0 + 1 := ⟨d - 1, by omega⟩
  unfold f253 at h
  refine zGo_s (pc' := 1) (st' := [.ref 1132]) dd253_0 rfl ?_
  refine zGo_s (pc' := 2) (st' := [.int x1, .ref 1132]) dd253_1 rfl ?_
  refine zGo_s (pc' := 3) (st' := [.ref 1132, .int x1, .ref 1132]) dd253_2 rfl ?_
  obtain ⟨a1, e_a1, c_a1, h⟩ := ordd h
  refine mGR dd253_3 rfl rfl rfl rfl e_a1 ?_
  refine mGF (e := (a1 + 22)) dd253_6 rfl (ck12_s c_a1).1 (ck12_s c_a1).2 rfl (cf12_24 c_a1).1 ?_
  refine zGo_s (pc' := 10) (st' := [.int (4 : Int32), .ref (a1 + 22), .int x1, .ref 1132]) dd253_9 rfl ?_
  refine zGo_s (pc' := 11) (st' := [.int x2, .int (4 : Int32), .ref (a1 + 22), .int x1, .ref 1132]) dd253_10 rfl ?_
  refine zGo_s (pc' := 12) (st' := [.int ((4 : Int32) * x2), .ref (a1 + 22), .int x1, .ref 1132]) dd253_11 rfl ?_
  obtain ⟨hi, h⟩ := ochk h
  refine mIA dd253_12 (cf12_24 c_a1).2.1 (cf12_24 c_a1).2.2 hi ?_
  obtain ⟨v3, u2, hq, h⟩ := obnd h
  refine zCV1 (As := [.int x1, .int (s.1 (a1 + 22) (nx ((4 : Int32) * x2)))]) (rest := []) (b := 1132) (q' := q_243) dd253_13 rfl rfl (rcv_m rfl rfl (by decide)) rfl rfl rfl (f243_ok (d := d) (by omega)  hq) ?_
  refine zGo_s (pc' := 17) (st' := []) (lv' := [(3, .int v3), (0, .ref 1132), (1, .int x1), (2, .int x2)]) dd253_16 rfl ?_
  refine zGo_s (pc' := 18) (st' := [.ref 1132]) dd253_17 rfl ?_
  refine mGI dd253_18 rfl rfl rfl rfl ?_
  rcases oite h with ⟨hc, h⟩ | ⟨hc, h⟩
  · refine zUT dd253_21 rfl (kEqT hc) ?_
    refine zGo_s (pc' := 26) (st' := [.int (1 : Int32)]) dd253_25 rfl ?_
    refine zGo_s (pc' := 28) (st' := []) (lv' := [(4, .int (1 : Int32)), (3, .int v3), (0, .ref 1132), (1, .int x1), (2, .int x2)]) dd253_26 rfl ?_
    exact zGo_lv (lv := [(0, .ref 1132), (1, .int x1), (3, .int v3), (4, .int (1 : Int32))]) ⟨by simp, by simp, by simp⟩ (f253_28_ok hd _ _ _ _ _ _ h)
  · refine zUF dd253_21 (kEqF hc) ?_
    obtain rfl := ore0 h
    exact zGo_ret dd253_24 rfl rfl
/-! PHModel.branch(II)V -/
theorem dd254_0 : decode cX13_branch 0 = .ok (.aload_n 0, 1) := by decide +kernel
theorem dd254_1 : decode cX13_branch 1 = .ok (.iload_n 1, 1) := by decide +kernel
theorem dd254_2 : decode cX13_branch 2 = .ok (.aload_n 0, 1) := by decide +kernel
theorem dd254_3 : decode cX13_branch 3 = .ok (.getfield 20, 3) := by decide +kernel
theorem dd254_6 : decode cX13_branch 6 = .ok (.getfield 469, 3) := by decide +kernel
theorem dd254_9 : decode cX13_branch 9 = .ok (.iconst 4, 1) := by decide +kernel
theorem dd254_10 : decode cX13_branch 10 = .ok (.iload_n 2, 1) := by decide +kernel
theorem dd254_11 : decode cX13_branch 11 = .ok (.imul, 1) := by decide +kernel
theorem dd254_12 : decode cX13_branch 12 = .ok (.iaload, 1) := by decide +kernel
theorem dd254_13 : decode cX13_branch 13 = .ok (.invokevirtual 662, 3) := by decide +kernel
theorem dd254_16 : decode cX13_branch 16 = .ok (.istore_n 3, 1) := by decide +kernel
theorem dd254_17 : decode cX13_branch 17 = .ok (.aload_n 0, 1) := by decide +kernel
theorem dd254_18 : decode cX13_branch 18 = .ok (.getfield 623, 3) := by decide +kernel
theorem dd254_21 : decode cX13_branch 21 = .ok (.ifCond .eq 4, 3) := by decide +kernel
theorem dd254_24 : decode cX13_branch 24 = .ok (.return_, 1) := by decide +kernel
theorem dd254_25 : decode cX13_branch 25 = .ok (.iload_n 3, 1) := by decide +kernel
theorem dd254_26 : decode cX13_branch 26 = .ok (.ifCond .eq 15, 3) := by decide +kernel
theorem dd254_29 : decode cX13_branch 29 = .ok (.aload_n 0, 1) := by decide +kernel
theorem dd254_30 : decode cX13_branch 30 = .ok (.getfield 20, 3) := by decide +kernel
theorem dd254_33 : decode cX13_branch 33 = .ok (.getfield 453, 3) := by decide +kernel
theorem dd254_36 : decode cX13_branch 36 = .ok (.iload_n 2, 1) := by decide +kernel
theorem dd254_37 : decode cX13_branch 37 = .ok (.iaload, 1) := by decide +kernel
theorem dd254_38 : decode cX13_branch 38 = .ok (.goto 12, 3) := by decide +kernel
theorem dd254_41 : decode cX13_branch 41 = .ok (.aload_n 0, 1) := by decide +kernel
theorem dd254_42 : decode cX13_branch 42 = .ok (.getfield 20, 3) := by decide +kernel
theorem dd254_45 : decode cX13_branch 45 = .ok (.getfield 456, 3) := by decide +kernel
theorem dd254_48 : decode cX13_branch 48 = .ok (.iload_n 2, 1) := by decide +kernel
theorem dd254_49 : decode cX13_branch 49 = .ok (.iaload, 1) := by decide +kernel
theorem dd254_50 : decode cX13_branch 50 = .ok (.istore 4, 2) := by decide +kernel
theorem dd254_52 : decode cX13_branch 52 = .ok (.iload 4, 2) := by decide +kernel
theorem dd254_54 : decode cX13_branch 54 = .ok (.iconst (-1), 1) := by decide +kernel
theorem dd254_55 : decode cX13_branch 55 = .ok (.if_icmp .ne 11, 3) := by decide +kernel
theorem dd254_58 : decode cX13_branch 58 = .ok (.aload_n 0, 1) := by decide +kernel
theorem dd254_59 : decode cX13_branch 59 = .ok (.iload_n 1, 1) := by decide +kernel
theorem dd254_60 : decode cX13_branch 60 = .ok (.invokevirtual 665, 3) := by decide +kernel
theorem dd254_63 : decode cX13_branch 63 = .ok (.goto 16, 3) := by decide +kernel
theorem dd254_66 : decode cX13_branch 66 = .ok (.aload_n 0, 1) := by decide +kernel
theorem dd254_67 : decode cX13_branch 67 = .ok (.iload_n 1, 1) := by decide +kernel
theorem dd254_68 : decode cX13_branch 68 = .ok (.iload 4, 2) := by decide +kernel
theorem dd254_70 : decode cX13_branch 70 = .ok (.iconst 0, 1) := by decide +kernel
theorem dd254_71 : decode cX13_branch 71 = .ok (.invokevirtual 613, 3) := by decide +kernel
theorem dd254_74 : decode cX13_branch 74 = .ok (.aload_n 0, 1) := by decide +kernel
theorem dd254_75 : decode cX13_branch 75 = .ok (.iload_n 1, 1) := by decide +kernel
theorem dd254_76 : decode cX13_branch 76 = .ok (.invokevirtual 607, 3) := by decide +kernel
theorem dd254_79 : decode cX13_branch 79 = .ok (.return_, 1) := by decide +kernel
def f254_50 (n : Nat) (x1 : Int32) (y0 : Int32) (s : zσ) : Option zσ :=
    if y0 = (-1 : Int32) then
    yb0 (f237 n x1 s) fun u3 =>
    some u3
    else yb0 (f212 n x1 y0 (0 : Int32) s) fun u1 =>
    yb0 (f213 n (f219 n 4) x1 u1) fun u2 =>
    some u2
set_option maxRecDepth 20000 in
theorem f254_50_ok {n d : Nat} {x1 : Int32} {y0 : Int32} {s : zσ} {s2 : zσ} (hd : 26 ≤ d) (h : f254_50 n x1 y0 s = some s2) {w : zσ} {fz : Bool} {L : Nat} {xs : Nat → Int32} : zGo (zX fz L xs) d q_254 (50, [(0, .ref 1132), (1, .int x1)], [.int y0], zmk w s, 0, 0) (none, zmk w s2, 0, 0) := by
  obtain ⟨d, rfl⟩ : ∃ d0, d = d0 + 1 := ⟨d - 1, by omega⟩
  unfold f254_50 at h
  refine zGo_s (pc' := 52) (st' := []) (lv' := [(4, .int y0), (0, .ref 1132), (1, .int x1)]) dd254_50 rfl ?_
  refine zGo_s (pc' := 54) (st' := [.int y0]) dd254_52 rfl ?_
  refine zGo_s (pc' := 55) (st' := [.int (-1 : Int32), .int y0]) dd254_54 rfl ?_
  rcases oite h with ⟨hc, h⟩ | ⟨hc, h⟩
  · refine zIF dd254_55 (kNeF hc) ?_
    refine zGo_s (pc' := 59) (st' := [.ref 1132]) dd254_58 rfl ?_
    refine zGo_s (pc' := 60) (st' := [.int x1, .ref 1132]) dd254_59 rfl ?_
    obtain ⟨u3, hq, h⟩ := obn0 h
    refine zCV0 (As := [.int x1]) (rest := []) (b := 1132) (q' := q_237) dd254_60 rfl rfl (rcv_m rfl rfl (by decide)) rfl rfl rfl (f237_ok (d := d) (by omega)  hq) ?_
    refine zGo_s (pc' := 79) (st' := []) dd254_63 rfl ?_
    obtain rfl := ore0 h
    exact zGo_ret dd254_79 rfl rfl
  · refine zIT dd254_55 rfl (kNeT hc) ?_
    refine zGo_s (pc' := 67) (st' := [.ref 1132]) dd254_66 rfl ?_
    refine zGo_s (pc' := 68) (st' := [.int x1, .ref 1132]) dd254_67 rfl ?_
    refine zGo_s (pc' := 70) (st' := [.int y0, .int x1, .ref 1132]) dd254_68 rfl ?_
    refine zGo_s (pc' := 71) (st' := [.int (0 : Int32), .int y0, .int x1, .ref 1132]) dd254_70 rfl ?_
    obtain ⟨u1, hq, h⟩ := obn0 h
    refine zCV0 (As := [.int x1, .int y0, .int (0 : Int32)]) (rest := []) (b := 1132) (q' := q_212) dd254_71 rfl rfl (rcv_m rfl rfl (by decide)) rfl rfl rfl (f212_ok (d := d) (by omega)  hq) ?_
    refine zGo_s (pc' := 75) (st' := [.ref 1132]) dd254_74 rfl ?_
    refine zGo_s (pc' := 76) (st' := [.int x1, .ref 1132]) dd254_75 rfl ?_
    obtain ⟨u2, hq, h⟩ := obn0 h
    refine zCV0 (As := [.int x1]) (rest := []) (b := 1132) (q' := q_213) dd254_76 rfl rfl (rcv_m rfl rfl (by decide)) rfl rfl rfl (f213_ok (d := d) (Df := 23) (by omega) f219_okk4  hq) ?_
    obtain rfl := ore0 h
    exact zGo_ret dd254_79 rfl rfl
def f254 (n : Nat) (x1 : Int32) (x2 : Int32) (s : zσ) : Option zσ :=
    zrd 12 (s.2.2 1132 11) fun a1 =>
    if zin? ((4 : Int32) * x2) 800 = true then
    yb1 (f243 n x1 (s.1 (a1 + 22) (nx ((4 : Int32) * x2))) s) fun v3 u2 =>
    if (u2.1 1132 69) = (0 : Int32) then
    if v3 = (0 : Int32) then
    zrd 12 (u2.2.2 1132 11) fun a4 =>
    if zin? x2 200 = true then
    f254_50 n x1 (u2.1 (a4 + 24) (nx x2)) u2
    else none
    else zrd 12 (u2.2.2 1132 11) fun a5 =>
    if zin? x2 200 = true then
    f254_50 n x1 (u2.1 (a5 + 23) (nx x2)) u2
    else none
    else some u2
    else none
set_option maxRecDepth 20000 in
theorem f254_ok {n d : Nat} {x1 : Int32} {x2 : Int32} {s : zσ} {s2 : zσ} (hd : 26 ≤ d) (h : f254 n x1 x2 s = some s2) {w : zσ} {fz : Bool} {L : Nat} {xs : Nat → Int32} : zGo (zX fz L xs) d q_254 (0, [(0, .ref 1132), (1, .int x1), (2, .int x2)], [], zmk w s, 0, 0) (none, zmk w s2, 0, 0) := by
  obtain ⟨d, rfl⟩ : ∃ d0, d = d0 + 1 := ⟨d - 1, by omega⟩
  unfold f254 at h
  refine zGo_s (pc' := 1) (st' := [.ref 1132]) dd254_0 rfl ?_
  refine zGo_s (pc' := 2) (st' := [.int x1, .ref 1132]) dd254_1 rfl ?_
  refine zGo_s (pc' := 3) (st' := [.ref 1132, .int x1, .ref 1132]) dd254_2 rfl ?_
  obtain ⟨a1, e_a1, c_a1, h⟩ := ordd h
  refine mGR dd254_3 rfl rfl rfl rfl e_a1 ?_
  refine mGF (e := (a1 + 22)) dd254_6 rfl (ck12_s c_a1).1 (ck12_s c_a1).2 rfl (cf12_24 c_a1).1 ?_
  refine zGo_s (pc' := 10) (st' := [.int (4 : Int32), .ref (a1 + 22), .int x1, .ref 1132]) dd254_9 rfl ?_
  refine zGo_s (pc' := 11) (st' := [.int x2, .int (4 : Int32), .ref (a1 + 22), .int x1, .ref 1132]) dd254_10 rfl ?_
  refine zGo_s (pc' := 12) (st' := [.int ((4 : Int32) * x2), .ref (a1 + 22), .int x1, .ref 1132]) dd254_11 rfl ?_
  obtain ⟨hi, h⟩ := ochk h
  refine mIA dd254_12 (cf12_24 c_a1).2.1 (cf12_24 c_a1).2.2 hi ?_
  obtain ⟨v3, u2, hq, h⟩ := obnd h
  refine zCV1 (As := [.int x1, .int (s.1 (a1 + 22) (nx ((4 : Int32) * x2)))]) (rest := []) (b := 1132) (q' := q_243) dd254_13 rfl rfl (rcv_m rfl rfl (by decide)) rfl rfl rfl (f243_ok (d := d) (by omega)  hq) ?_
  refine zGo_s (pc' := 17) (st' := []) (lv' := [(3, .int v3), (0, .ref 1132), (1, .int x1), (2, .int x2)]) dd254_16 rfl ?_
  refine zGo_s (pc' := 18) (st' := [.ref 1132]) dd254_17 rfl ?_
  refine mGI dd254_18 rfl rfl rfl rfl ?_
  rcases oite h with ⟨hc, h⟩ | ⟨hc, h⟩
  · refine zUT dd254_21 rfl (kEqT hc) ?_
    refine zGo_s (pc' := 26) (st' := [.int v3]) dd254_25 rfl ?_
    rcases oite h with ⟨hc, h⟩ | ⟨hc, h⟩
    · refine zUT dd254_26 rfl (kEqT hc) ?_
      refine zGo_s (pc' := 42) (st' := [.ref 1132]) dd254_41 rfl ?_
      obtain ⟨a4, e_a4, c_a4, h⟩ := ordd h
      refine mGR dd254_42 rfl rfl rfl rfl e_a4 ?_
      refine mGF (e := (a4 + 24)) dd254_45 rfl (ck12_s c_a4).1 (ck12_s c_a4).2 rfl (cf12_26 c_a4).1 ?_
      refine zGo_s (pc' := 49) (st' := [.int x2, .ref (a4 + 24)]) dd254_48 rfl ?_
      obtain ⟨hi, h⟩ := ochk h
      refine mIA dd254_49 (cf12_26 c_a4).2.1 (cf12_26 c_a4).2.2 hi ?_
      exact zGo_lv (lv := [(0, .ref 1132), (1, .int x1)]) ⟨by simp, by simp, by simp⟩ (f254_50_ok hd h)
    · refine zUF dd254_26 (kEqF hc) ?_
      refine zGo_s (pc' := 30) (st' := [.ref 1132]) dd254_29 rfl ?_
      obtain ⟨a5, e_a5, c_a5, h⟩ := ordd h
      refine mGR dd254_30 rfl rfl rfl rfl e_a5 ?_
      refine mGF (e := (a5 + 23)) dd254_33 rfl (ck12_s c_a5).1 (ck12_s c_a5).2 rfl (cf12_25 c_a5).1 ?_
      refine zGo_s (pc' := 37) (st' := [.int x2, .ref (a5 + 23)]) dd254_36 rfl ?_
      obtain ⟨hi, h⟩ := ochk h
      refine mIA dd254_37 (cf12_25 c_a5).2.1 (cf12_25 c_a5).2.2 hi ?_
      refine zGo_s (pc' := 50) (st' := [.int (u2.1 (a5 + 23) (nx x2))]) dd254_38 rfl ?_
      exact zGo_lv (lv := [(0, .ref 1132), (1, .int x1)]) ⟨by simp, by simp, by simp⟩ (f254_50_ok hd h)
  · refine zUF dd254_21 (kEqF hc) ?_
    obtain rfl := ore0 h
    exact zGo_ret dd254_24 rfl rfl
