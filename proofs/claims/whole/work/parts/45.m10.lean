/-! PH$Machine.direct(LPH$Task;I)I -/
theorem dd123_0 : decode cX3_direct 0 = .ok (.aload_n 0, 1) := by decide +kernel
theorem dd123_1 : decode cX3_direct 1 = .ok (.getfield 59, 3) := by decide +kernel
theorem dd123_4 : decode cX3_direct 4 = .ok (.getfield 253, 3) := by decide +kernel
theorem dd123_7 : decode cX3_direct 7 = .ok (.iload_n 2, 1) := by decide +kernel
theorem dd123_8 : decode cX3_direct 8 = .ok (.iaload, 1) := by decide +kernel
theorem dd123_9 : decode cX3_direct 9 = .ok (.istore_n 3, 1) := by decide +kernel
theorem dd123_10 : decode cX3_direct 10 = .ok (.aload_n 0, 1) := by decide +kernel
theorem dd123_11 : decode cX3_direct 11 = .ok (.getfield 59, 3) := by decide +kernel
theorem dd123_14 : decode cX3_direct 14 = .ok (.getfield 272, 3) := by decide +kernel
theorem dd123_17 : decode cX3_direct 17 = .ok (.iload_n 2, 1) := by decide +kernel
theorem dd123_18 : decode cX3_direct 18 = .ok (.iaload, 1) := by decide +kernel
theorem dd123_19 : decode cX3_direct 19 = .ok (.istore 4, 2) := by decide +kernel
theorem dd123_21 : decode cX3_direct 21 = .ok (.iload_n 3, 1) := by decide +kernel
theorem dd123_22 : decode cX3_direct 22 = .ok (.iconst (-1), 1) := by decide +kernel
theorem dd123_23 : decode cX3_direct 23 = .ok (.if_icmp .ne 7, 3) := by decide +kernel
theorem dd123_26 : decode cX3_direct 26 = .ok (.aload_n 1, 1) := by decide +kernel
theorem dd123_27 : decode cX3_direct 27 = .ok (.goto 9, 3) := by decide +kernel
theorem dd123_30 : decode cX3_direct 30 = .ok (.aload_n 0, 1) := by decide +kernel
theorem dd123_31 : decode cX3_direct 31 = .ok (.getfield 11, 3) := by decide +kernel
theorem dd123_34 : decode cX3_direct 34 = .ok (.iload_n 3, 1) := by decide +kernel
theorem dd123_35 : decode cX3_direct 35 = .ok (.aaload, 1) := by decide +kernel
theorem dd123_36 : decode cX3_direct 36 = .ok (.astore 5, 2) := by decide +kernel
theorem dd123_38 : decode cX3_direct 38 = .ok (.aload_n 0, 1) := by decide +kernel
theorem dd123_39 : decode cX3_direct 39 = .ok (.getfield 59, 3) := by decide +kernel
theorem dd123_42 : decode cX3_direct 42 = .ok (.getfield 256, 3) := by decide +kernel
theorem dd123_45 : decode cX3_direct 45 = .ok (.iload_n 2, 1) := by decide +kernel
theorem dd123_46 : decode cX3_direct 46 = .ok (.iaload, 1) := by decide +kernel
theorem dd123_47 : decode cX3_direct 47 = .ok (.tableswitch 204 167 171 #[33, 59, 87, 129, 176], 33) := by decide +kernel
theorem dd123_80 : decode cX3_direct 80 = .ok (.iload 4, 2) := by decide +kernel
theorem dd123_82 : decode cX3_direct 82 = .ok (.iconst (-1), 1) := by decide +kernel
theorem dd123_83 : decode cX3_direct 83 = .ok (.if_icmp .eq 13, 3) := by decide +kernel
theorem dd123_86 : decode cX3_direct 86 = .ok (.aload_n 0, 1) := by decide +kernel
theorem dd123_87 : decode cX3_direct 87 = .ok (.iconst 2, 1) := by decide +kernel
theorem dd123_88 : decode cX3_direct 88 = .ok (.iload_n 3, 1) := by decide +kernel
theorem dd123_89 : decode cX3_direct 89 = .ok (.imul, 1) := by decide +kernel
theorem dd123_90 : decode cX3_direct 90 = .ok (.iload 4, 2) := by decide +kernel
theorem dd123_92 : decode cX3_direct 92 = .ok (.invokevirtual 320, 3) := by decide +kernel
theorem dd123_95 : decode cX3_direct 95 = .ok (.ireturn, 1) := by decide +kernel
theorem dd123_96 : decode cX3_direct 96 = .ok (.aload_n 0, 1) := by decide +kernel
theorem dd123_97 : decode cX3_direct 97 = .ok (.iconst 2, 1) := by decide +kernel
theorem dd123_98 : decode cX3_direct 98 = .ok (.iload_n 3, 1) := by decide +kernel
theorem dd123_99 : decode cX3_direct 99 = .ok (.imul, 1) := by decide +kernel
theorem dd123_100 : decode cX3_direct 100 = .ok (.invokevirtual 174, 3) := by decide +kernel
theorem dd123_103 : decode cX3_direct 103 = .ok (.pop, 1) := by decide +kernel
theorem dd123_104 : decode cX3_direct 104 = .ok (.iconst 0, 1) := by decide +kernel
theorem dd123_105 : decode cX3_direct 105 = .ok (.ireturn, 1) := by decide +kernel
theorem dd123_106 : decode cX3_direct 106 = .ok (.iload 4, 2) := by decide +kernel
theorem dd123_108 : decode cX3_direct 108 = .ok (.iconst (-1), 1) := by decide +kernel
theorem dd123_109 : decode cX3_direct 109 = .ok (.if_icmp .eq 15, 3) := by decide +kernel
theorem dd123_112 : decode cX3_direct 112 = .ok (.aload_n 0, 1) := by decide +kernel
theorem dd123_113 : decode cX3_direct 113 = .ok (.iconst 2, 1) := by decide +kernel
theorem dd123_114 : decode cX3_direct 114 = .ok (.iload_n 3, 1) := by decide +kernel
theorem dd123_115 : decode cX3_direct 115 = .ok (.imul, 1) := by decide +kernel
theorem dd123_116 : decode cX3_direct 116 = .ok (.iconst 1, 1) := by decide +kernel
theorem dd123_117 : decode cX3_direct 117 = .ok (.iadd, 1) := by decide +kernel
theorem dd123_118 : decode cX3_direct 118 = .ok (.iload 4, 2) := by decide +kernel
theorem dd123_120 : decode cX3_direct 120 = .ok (.invokevirtual 320, 3) := by decide +kernel
theorem dd123_123 : decode cX3_direct 123 = .ok (.ireturn, 1) := by decide +kernel
theorem dd123_124 : decode cX3_direct 124 = .ok (.aload_n 0, 1) := by decide +kernel
theorem dd123_125 : decode cX3_direct 125 = .ok (.iconst 2, 1) := by decide +kernel
theorem dd123_126 : decode cX3_direct 126 = .ok (.iload_n 3, 1) := by decide +kernel
theorem dd123_127 : decode cX3_direct 127 = .ok (.imul, 1) := by decide +kernel
theorem dd123_128 : decode cX3_direct 128 = .ok (.iconst 1, 1) := by decide +kernel
theorem dd123_129 : decode cX3_direct 129 = .ok (.iadd, 1) := by decide +kernel
theorem dd123_130 : decode cX3_direct 130 = .ok (.invokevirtual 174, 3) := by decide +kernel
theorem dd123_133 : decode cX3_direct 133 = .ok (.ireturn, 1) := by decide +kernel
theorem dd123_134 : decode cX3_direct 134 = .ok (.aload 5, 2) := by decide +kernel
theorem dd123_136 : decode cX3_direct 136 = .ok (.getfield 123, 3) := by decide +kernel
theorem dd123_139 : decode cX3_direct 139 = .ok (.iconst 1, 1) := by decide +kernel
theorem dd123_140 : decode cX3_direct 140 = .ok (.if_icmp .eq 15, 3) := by decide +kernel
theorem dd123_143 : decode cX3_direct 143 = .ok (.aload 5, 2) := by decide +kernel
theorem dd123_145 : decode cX3_direct 145 = .ok (.getfield 123, 3) := by decide +kernel
theorem dd123_148 : decode cX3_direct 148 = .ok (.iconst 3, 1) := by decide +kernel
theorem dd123_149 : decode cX3_direct 149 = .ok (.if_icmp .eq 6, 3) := by decide +kernel
theorem dd123_152 : decode cX3_direct 152 = .ok (.bipush 7, 2) := by decide +kernel
theorem dd123_154 : decode cX3_direct 154 = .ok (.ireturn, 1) := by decide +kernel
theorem dd123_155 : decode cX3_direct 155 = .ok (.aload 5, 2) := by decide +kernel
theorem dd123_157 : decode cX3_direct 157 = .ok (.aload 5, 2) := by decide +kernel
theorem dd123_159 : decode cX3_direct 159 = .ok (.getfield 123, 3) := by decide +kernel
theorem dd123_162 : decode cX3_direct 162 = .ok (.iconst 1, 1) := by decide +kernel
theorem dd123_163 : decode cX3_direct 163 = .ok (.if_icmp .ne 7, 3) := by decide +kernel
theorem dd123_166 : decode cX3_direct 166 = .ok (.iconst 2, 1) := by decide +kernel
theorem dd123_167 : decode cX3_direct 167 = .ok (.goto 4, 3) := by decide +kernel
theorem dd123_170 : decode cX3_direct 170 = .ok (.iconst 4, 1) := by decide +kernel
theorem dd123_171 : decode cX3_direct 171 = .ok (.putfield 123, 3) := by decide +kernel
theorem dd123_174 : decode cX3_direct 174 = .ok (.iconst 0, 1) := by decide +kernel
theorem dd123_175 : decode cX3_direct 175 = .ok (.ireturn, 1) := by decide +kernel
theorem dd123_176 : decode cX3_direct 176 = .ok (.aload_n 0, 1) := by decide +kernel
theorem dd123_177 : decode cX3_direct 177 = .ok (.getfield 45, 3) := by decide +kernel
theorem dd123_180 : decode cX3_direct 180 = .ok (.iconst 0, 1) := by decide +kernel
theorem dd123_181 : decode cX3_direct 181 = .ok (.iaload, 1) := by decide +kernel
theorem dd123_182 : decode cX3_direct 182 = .ok (.iconst 1, 1) := by decide +kernel
theorem dd123_183 : decode cX3_direct 183 = .ok (.if_icmp .lt 14, 3) := by decide +kernel
theorem dd123_186 : decode cX3_direct 186 = .ok (.aload_n 0, 1) := by decide +kernel
theorem dd123_187 : decode cX3_direct 187 = .ok (.getfield 45, 3) := by decide +kernel
theorem dd123_190 : decode cX3_direct 190 = .ok (.iconst 0, 1) := by decide +kernel
theorem dd123_191 : decode cX3_direct 191 = .ok (.iaload, 1) := by decide +kernel
theorem dd123_192 : decode cX3_direct 192 = .ok (.bipush 9, 2) := by decide +kernel
theorem dd123_194 : decode cX3_direct 194 = .ok (.if_icmp .le 5, 3) := by decide +kernel
theorem dd123_197 : decode cX3_direct 197 = .ok (.iconst 5, 1) := by decide +kernel
theorem dd123_198 : decode cX3_direct 198 = .ok (.ireturn, 1) := by decide +kernel
theorem dd123_199 : decode cX3_direct 199 = .ok (.aload 5, 2) := by decide +kernel
theorem dd123_201 : decode cX3_direct 201 = .ok (.getfield 123, 3) := by decide +kernel
theorem dd123_204 : decode cX3_direct 204 = .ok (.ifCond .ne 6, 3) := by decide +kernel
theorem dd123_207 : decode cX3_direct 207 = .ok (.bipush 7, 2) := by decide +kernel
theorem dd123_209 : decode cX3_direct 209 = .ok (.ireturn, 1) := by decide +kernel
theorem dd123_210 : decode cX3_direct 210 = .ok (.aload 5, 2) := by decide +kernel
theorem dd123_212 : decode cX3_direct 212 = .ok (.aload_n 0, 1) := by decide +kernel
theorem dd123_213 : decode cX3_direct 213 = .ok (.getfield 45, 3) := by decide +kernel
theorem dd123_216 : decode cX3_direct 216 = .ok (.iconst 0, 1) := by decide +kernel
theorem dd123_217 : decode cX3_direct 217 = .ok (.iaload, 1) := by decide +kernel
theorem dd123_218 : decode cX3_direct 218 = .ok (.putfield 177, 3) := by decide +kernel
theorem dd123_221 : decode cX3_direct 221 = .ok (.iconst 0, 1) := by decide +kernel
theorem dd123_222 : decode cX3_direct 222 = .ok (.ireturn, 1) := by decide +kernel
theorem dd123_223 : decode cX3_direct 223 = .ok (.aload_n 0, 1) := by decide +kernel
theorem dd123_224 : decode cX3_direct 224 = .ok (.getfield 34, 3) := by decide +kernel
theorem dd123_227 : decode cX3_direct 227 = .ok (.getfield 163, 3) := by decide +kernel
theorem dd123_230 : decode cX3_direct 230 = .ok (.iconst 2, 1) := by decide +kernel
theorem dd123_231 : decode cX3_direct 231 = .ok (.iload_n 3, 1) := by decide +kernel
theorem dd123_232 : decode cX3_direct 232 = .ok (.imul, 1) := by decide +kernel
theorem dd123_233 : decode cX3_direct 233 = .ok (.iconst (-1), 1) := by decide +kernel
theorem dd123_234 : decode cX3_direct 234 = .ok (.iastore, 1) := by decide +kernel
theorem dd123_235 : decode cX3_direct 235 = .ok (.aload_n 0, 1) := by decide +kernel
theorem dd123_236 : decode cX3_direct 236 = .ok (.getfield 34, 3) := by decide +kernel
theorem dd123_239 : decode cX3_direct 239 = .ok (.getfield 163, 3) := by decide +kernel
theorem dd123_242 : decode cX3_direct 242 = .ok (.iconst 2, 1) := by decide +kernel
theorem dd123_243 : decode cX3_direct 243 = .ok (.iload_n 3, 1) := by decide +kernel
theorem dd123_244 : decode cX3_direct 244 = .ok (.imul, 1) := by decide +kernel
theorem dd123_245 : decode cX3_direct 245 = .ok (.iconst 1, 1) := by decide +kernel
theorem dd123_246 : decode cX3_direct 246 = .ok (.iadd, 1) := by decide +kernel
theorem dd123_247 : decode cX3_direct 247 = .ok (.iconst (-1), 1) := by decide +kernel
theorem dd123_248 : decode cX3_direct 248 = .ok (.iastore, 1) := by decide +kernel
theorem dd123_249 : decode cX3_direct 249 = .ok (.iconst 0, 1) := by decide +kernel
theorem dd123_250 : decode cX3_direct 250 = .ok (.ireturn, 1) := by decide +kernel
theorem dd123_251 : decode cX3_direct 251 = .ok (.aload 5, 2) := by decide +kernel
theorem dd123_253 : decode cX3_direct 253 = .ok (.getfield 123, 3) := by decide +kernel
theorem dd123_256 : decode cX3_direct 256 = .ok (.ifCond .ne 6, 3) := by decide +kernel
theorem dd123_259 : decode cX3_direct 259 = .ok (.bipush 7, 2) := by decide +kernel
theorem dd123_261 : decode cX3_direct 261 = .ok (.ireturn, 1) := by decide +kernel
theorem dd123_262 : decode cX3_direct 262 = .ok (.aload_n 0, 1) := by decide +kernel
theorem dd123_263 : decode cX3_direct 263 = .ok (.aload 5, 2) := by decide +kernel
theorem dd123_265 : decode cX3_direct 265 = .ok (.invokevirtual 323, 3) := by decide +kernel
theorem dd123_268 : decode cX3_direct 268 = .ok (.aload 5, 2) := by decide +kernel
theorem dd123_270 : decode cX3_direct 270 = .ok (.aload_n 1, 1) := by decide +kernel
theorem dd123_271 : decode cX3_direct 271 = .ok (.if_acmp .ne 7, 3) := by decide +kernel
theorem dd123_274 : decode cX3_direct 274 = .ok (.iconst (-1), 1) := by decide +kernel
theorem dd123_275 : decode cX3_direct 275 = .ok (.goto 4, 3) := by decide +kernel
theorem dd123_278 : decode cX3_direct 278 = .ok (.iconst 0, 1) := by decide +kernel
theorem dd123_279 : decode cX3_direct 279 = .ok (.ireturn, 1) := by decide +kernel
def f123_171 (n : Nat) (y0 : Int32) (y1 : Nat) (s : zσ) : Option (Int32 × zσ) :=
    zlet (sI s y1 3 y0) fun u1 =>
    some ((0 : Int32), u1)
set_option maxRecDepth 20000 in
theorem f123_171_ok {n d : Nat} {y0 : Int32} {y1 : Nat} {s : zσ} {v : Int32} {s2 : zσ} (hd : 2 ≤ d) (hy1 : zck 8 y1 = true) (h : f123_171 n y0 y1 s = some (v, s2)) {w : zσ} {fz : Bool} {L : Nat} {xs : Nat → Int32} : zGo (zX fz L xs) d q_123 (171, [], [.int y0, .ref y1], zmk s w, 0, 0) (some (.int v), zmk s2 w, 0, 0) := by
  obtain ⟨d, rfl⟩ : ∃ d0, d = d0 + 1 := ⟨d - 1, by omega⟩
  unfold f123_171 at h
  obtain ⟨u1, e_u1, h⟩ := olet h
  refine cPI dd123_171 rfl (ck8_s hy1).1 (ck8_s hy1).2 rfl rfl rfl e_u1 ?_
  refine zGo_s (pc' := 175) (st' := [.int (0 : Int32)]) dd123_174 rfl ?_
  obtain ⟨rfl, rfl⟩ := oret h
  exact zGo_ret dd123_175 rfl rfl
def f123_155 (n : Nat) (x5 : Nat) (s : zσ) : Option (Int32 × zσ) :=
    if (s.1 x5 3) = (1 : Int32) then
    f123_171 n (2 : Int32) x5 s
    else f123_171 n (4 : Int32) x5 s
set_option maxRecDepth 20000 in
theorem f123_155_ok {n d : Nat} {x5 : Nat} {s : zσ} {v : Int32} {s2 : zσ} (hd : 2 ≤ d) (hx5 : zck 8 x5 = true) (h : f123_155 n x5 s = some (v, s2)) {w : zσ} {fz : Bool} {L : Nat} {xs : Nat → Int32} : zGo (zX fz L xs) d q_123 (155, [(5, .ref x5)], [], zmk s w, 0, 0) (some (.int v), zmk s2 w, 0, 0) := by
  obtain ⟨d, rfl⟩ : ∃ d0, d = d0 + 1 := ⟨d - 1, by omega⟩
  unfold f123_155 at h
  refine zGo_s (pc' := 157) (st' := [.ref x5]) dd123_155 rfl ?_
  refine zGo_s (pc' := 159) (st' := [.ref x5, .ref x5]) dd123_157 rfl ?_
  refine cGI dd123_159 rfl (ck8_s hx5).1 (ck8_s hx5).2 rfl ?_
  refine zGo_s (pc' := 163) (st' := [.int (1 : Int32), .int (s.1 x5 3), .ref x5]) dd123_162 rfl ?_
  rcases oite h with ⟨hc, h⟩ | ⟨hc, h⟩
  · refine zIF dd123_163 (kNeF hc) ?_
    refine zGo_s (pc' := 167) (st' := [.int (2 : Int32), .ref x5]) dd123_166 rfl ?_
    refine zGo_s (pc' := 171) (st' := [.int (2 : Int32), .ref x5]) dd123_167 rfl ?_
    exact zGo_lv (lv := []) ⟨by simp, by simp, by simp⟩ (f123_171_ok hd hx5 h)
  · refine zIT dd123_163 rfl (kNeT hc) ?_
    refine zGo_s (pc' := 171) (st' := [.int (4 : Int32), .ref x5]) dd123_170 rfl ?_
    exact zGo_lv (lv := []) ⟨by simp, by simp, by simp⟩ (f123_171_ok hd hx5 h)
def f123_36 (n : Nat) (x1 : Nat) (x2 : Int32) (x3 : Int32) (x4 : Int32) (y0 : Nat) (s : zσ) : Option (Int32 × zσ) :=
    zrd 6 (s.2.2 1007 9) fun a1 =>
    if zin? x2 200 = true then
    if (s.1 (a1 + 1) (nx x2)) = (167 : Int32) then
    if x4 = (-1 : Int32) then
    yb1 (f87 n ((2 : Int32) * x3) s) fun v3 u2 =>
    some ((0 : Int32), u2)
    else yb1 (f124 n ((2 : Int32) * x3) x4 s) fun v5 u4 =>
    some (v5, u4)
    else if (s.1 (a1 + 1) (nx x2)) = (168 : Int32) then
    if x4 = (-1 : Int32) then
    yb1 (f87 n (((2 : Int32) * x3) + (1 : Int32)) s) fun v7 u6 =>
    some (v7, u6)
    else yb1 (f124 n (((2 : Int32) * x3) + (1 : Int32)) x4 s) fun v9 u8 =>
    some (v9, u8)
    else if (s.1 (a1 + 1) (nx x2)) = (169 : Int32) then
    if (s.1 y0 3) = (1 : Int32) then
    f123_155 n y0 s
    else if (s.1 y0 3) = (3 : Int32) then
    f123_155 n y0 s
    else some ((7 : Int32), s)
    else if (s.1 (a1 + 1) (nx x2)) = (170 : Int32) then
    if zin? (0 : Int32) 64 = true then
    if (s.1 1033 (nx (0 : Int32))) < (1 : Int32) then
    some ((5 : Int32), s)
    else if zin? (0 : Int32) 64 = true then
    if (9 : Int32) < (s.1 1033 (nx (0 : Int32))) then
    some ((5 : Int32), s)
    else if (s.1 y0 3) = (0 : Int32) then
    some ((7 : Int32), s)
    else if zin? (0 : Int32) 64 = true then
    zlet (sI s y0 4 (s.1 1033 (nx (0 : Int32)))) fun u10 =>
    some ((0 : Int32), u10)
    else none
    else none
    else none
    else if (s.1 (a1 + 1) (nx x2)) = (171 : Int32) then
    if zin? ((2 : Int32) * x3) 16 = true then
    zlet (sI s 1023 (nx ((2 : Int32) * x3)) (-1 : Int32)) fun u11 =>
    if zin? (((2 : Int32) * x3) + (1 : Int32)) 16 = true then
    zlet (sI u11 1023 (nx (((2 : Int32) * x3) + (1 : Int32))) (-1 : Int32)) fun u12 =>
    some ((0 : Int32), u12)
    else none
    else none
    else if (s.1 y0 3) = (0 : Int32) then
    some ((7 : Int32), s)
    else yb0 (f126 n y0 s) fun u13 =>
    if y0 = x1 then
    some ((-1 : Int32), u13)
    else some ((0 : Int32), u13)
    else none
set_option maxRecDepth 20000 in
theorem f123_36_ok {n d : Nat} {x1 : Nat} {x2 : Int32} {x3 : Int32} {x4 : Int32} {y0 : Nat} {s : zσ} {v : Int32} {s2 : zσ} (hd : 2 ≤ d) (hx1 : zck 8 x1 = true) (hy0 : zck 8 y0 = true) (h : f123_36 n x1 x2 x3 x4 y0 s = some (v, s2)) {w : zσ} {fz : Bool} {L : Nat} {xs : Nat → Int32} : zGo (zX fz L xs) d q_123 (36, [(0, .ref 1007), (1, .ref x1), (2, .int x2), (3, .int x3), (4, .int x4)], [.ref y0], zmk s w, 0, 0) (some (.int v), zmk s2 w, 0, 0) := by
  obtain ⟨d, rfl⟩ : ∃ d0, d = d0 + 1 := ⟨d - 1, by omega⟩
  unfold f123_36 at h
  refine zGo_s (pc' := 38) (st' := []) (lv' := [(5, .ref y0), (0, .ref 1007), (1, .ref x1), (2, .int x2), (3, .int x3), (4, .int x4)]) dd123_36 rfl ?_
  refine zGo_s (pc' := 39) (st' := [.ref 1007]) dd123_38 rfl ?_
  obtain ⟨a1, e_a1, c_a1, h⟩ := ordd h
  refine cGR dd123_39 rfl rfl rfl rfl e_a1 ?_
  refine cGF (e := (a1 + 1)) dd123_42 rfl (ck6_s c_a1).1 (ck6_s c_a1).2 rfl (cf6_0 c_a1).1 ?_
  refine zGo_s (pc' := 46) (st' := [.int x2, .ref (a1 + 1)]) dd123_45 rfl ?_
  obtain ⟨hi, h⟩ := ochk h
  refine cIA dd123_46 (cf6_0 c_a1).2.1 (cf6_0 c_a1).2.2 hi ?_
  rcases oite h with ⟨hc, h⟩ | ⟨hn0, h⟩
  · refine zGo_sw dd123_47 (o := 33) (by rw [hc]; decide +kernel) rfl ?_
    refine zGo_s (pc' := 82) (st' := [.int x4]) dd123_80 rfl ?_
    refine zGo_s (pc' := 83) (st' := [.int (-1 : Int32), .int x4]) dd123_82 rfl ?_
    rcases oite h with ⟨hc, h⟩ | ⟨hc, h⟩
    · refine zIT dd123_83 rfl (kEqT hc) ?_
      refine zGo_s (pc' := 97) (st' := [.ref 1007]) dd123_96 rfl ?_
      refine zGo_s (pc' := 98) (st' := [.int (2 : Int32), .ref 1007]) dd123_97 rfl ?_
      refine zGo_s (pc' := 99) (st' := [.int x3, .int (2 : Int32), .ref 1007]) dd123_98 rfl ?_
      refine zGo_s (pc' := 100) (st' := [.int ((2 : Int32) * x3), .ref 1007]) dd123_99 rfl ?_
      obtain ⟨v3, u2, hq, h⟩ := obnd h
      refine zCV1 (As := [.int ((2 : Int32) * x3)]) (rest := []) (b := 1007) (q' := q_87) dd123_100 rfl rfl (rcv_c rfl rfl (by decide)) rfl rfl rfl (f87_ok (d := d) (by omega)  hq) ?_
      refine zGo_s (pc' := 104) (st' := []) dd123_103 rfl ?_
      refine zGo_s (pc' := 105) (st' := [.int (0 : Int32)]) dd123_104 rfl ?_
      obtain ⟨rfl, rfl⟩ := oret h
      exact zGo_ret dd123_105 rfl rfl
    · refine zIF dd123_83 (kEqF hc) ?_
      refine zGo_s (pc' := 87) (st' := [.ref 1007]) dd123_86 rfl ?_
      refine zGo_s (pc' := 88) (st' := [.int (2 : Int32), .ref 1007]) dd123_87 rfl ?_
      refine zGo_s (pc' := 89) (st' := [.int x3, .int (2 : Int32), .ref 1007]) dd123_88 rfl ?_
      refine zGo_s (pc' := 90) (st' := [.int ((2 : Int32) * x3), .ref 1007]) dd123_89 rfl ?_
      refine zGo_s (pc' := 92) (st' := [.int x4, .int ((2 : Int32) * x3), .ref 1007]) dd123_90 rfl ?_
      obtain ⟨v5, u4, hq, h⟩ := obnd h
      refine zCV1 (As := [.int ((2 : Int32) * x3), .int x4]) (rest := []) (b := 1007) (q' := q_124) dd123_92 rfl rfl (rcv_c rfl rfl (by decide)) rfl rfl rfl (f124_ok (d := d) (by omega)  hq) ?_
      obtain ⟨rfl, rfl⟩ := oret h
      exact zGo_ret dd123_95 rfl rfl
  rcases oite h with ⟨hc, h⟩ | ⟨hn1, h⟩
  · refine zGo_sw dd123_47 (o := 59) (by rw [hc]; decide +kernel) rfl ?_
    refine zGo_s (pc' := 108) (st' := [.int x4]) dd123_106 rfl ?_
    refine zGo_s (pc' := 109) (st' := [.int (-1 : Int32), .int x4]) dd123_108 rfl ?_
    rcases oite h with ⟨hc, h⟩ | ⟨hc, h⟩
    · refine zIT dd123_109 rfl (kEqT hc) ?_
      refine zGo_s (pc' := 125) (st' := [.ref 1007]) dd123_124 rfl ?_
      refine zGo_s (pc' := 126) (st' := [.int (2 : Int32), .ref 1007]) dd123_125 rfl ?_
      refine zGo_s (pc' := 127) (st' := [.int x3, .int (2 : Int32), .ref 1007]) dd123_126 rfl ?_
      refine zGo_s (pc' := 128) (st' := [.int ((2 : Int32) * x3), .ref 1007]) dd123_127 rfl ?_
      refine zGo_s (pc' := 129) (st' := [.int (1 : Int32), .int ((2 : Int32) * x3), .ref 1007]) dd123_128 rfl ?_
      refine zGo_s (pc' := 130) (st' := [.int (((2 : Int32) * x3) + (1 : Int32)), .ref 1007]) dd123_129 rfl ?_
      obtain ⟨v7, u6, hq, h⟩ := obnd h
      refine zCV1 (As := [.int (((2 : Int32) * x3) + (1 : Int32))]) (rest := []) (b := 1007) (q' := q_87) dd123_130 rfl rfl (rcv_c rfl rfl (by decide)) rfl rfl rfl (f87_ok (d := d) (by omega)  hq) ?_
      obtain ⟨rfl, rfl⟩ := oret h
      exact zGo_ret dd123_133 rfl rfl
    · refine zIF dd123_109 (kEqF hc) ?_
      refine zGo_s (pc' := 113) (st' := [.ref 1007]) dd123_112 rfl ?_
      refine zGo_s (pc' := 114) (st' := [.int (2 : Int32), .ref 1007]) dd123_113 rfl ?_
      refine zGo_s (pc' := 115) (st' := [.int x3, .int (2 : Int32), .ref 1007]) dd123_114 rfl ?_
      refine zGo_s (pc' := 116) (st' := [.int ((2 : Int32) * x3), .ref 1007]) dd123_115 rfl ?_
      refine zGo_s (pc' := 117) (st' := [.int (1 : Int32), .int ((2 : Int32) * x3), .ref 1007]) dd123_116 rfl ?_
      refine zGo_s (pc' := 118) (st' := [.int (((2 : Int32) * x3) + (1 : Int32)), .ref 1007]) dd123_117 rfl ?_
      refine zGo_s (pc' := 120) (st' := [.int x4, .int (((2 : Int32) * x3) + (1 : Int32)), .ref 1007]) dd123_118 rfl ?_
      obtain ⟨v9, u8, hq, h⟩ := obnd h
      refine zCV1 (As := [.int (((2 : Int32) * x3) + (1 : Int32)), .int x4]) (rest := []) (b := 1007) (q' := q_124) dd123_120 rfl rfl (rcv_c rfl rfl (by decide)) rfl rfl rfl (f124_ok (d := d) (by omega)  hq) ?_
      obtain ⟨rfl, rfl⟩ := oret h
      exact zGo_ret dd123_123 rfl rfl
  rcases oite h with ⟨hc, h⟩ | ⟨hn2, h⟩
  · refine zGo_sw dd123_47 (o := 87) (by rw [hc]; decide +kernel) rfl ?_
    refine zGo_s (pc' := 136) (st' := [.ref y0]) dd123_134 rfl ?_
    refine cGI dd123_136 rfl (ck8_s hy0).1 (ck8_s hy0).2 rfl ?_
    refine zGo_s (pc' := 140) (st' := [.int (1 : Int32), .int (s.1 y0 3)]) dd123_139 rfl ?_
    rcases oite h with ⟨hc, h⟩ | ⟨hc, h⟩
    · refine zIT dd123_140 rfl (kEqT hc) ?_
      exact zGo_lv (lv := [(5, .ref y0)]) ⟨by simp, by simp, by simp⟩ (f123_155_ok hd hy0 h)
    · refine zIF dd123_140 (kEqF hc) ?_
      refine zGo_s (pc' := 145) (st' := [.ref y0]) dd123_143 rfl ?_
      refine cGI dd123_145 rfl (ck8_s hy0).1 (ck8_s hy0).2 rfl ?_
      refine zGo_s (pc' := 149) (st' := [.int (3 : Int32), .int (s.1 y0 3)]) dd123_148 rfl ?_
      rcases oite h with ⟨hc, h⟩ | ⟨hc, h⟩
      · refine zIT dd123_149 rfl (kEqT hc) ?_
        exact zGo_lv (lv := [(5, .ref y0)]) ⟨by simp, by simp, by simp⟩ (f123_155_ok hd hy0 h)
      · refine zIF dd123_149 (kEqF hc) ?_
        refine zGo_s (pc' := 154) (st' := [.int (7 : Int32)]) dd123_152 rfl ?_
        obtain ⟨rfl, rfl⟩ := oret h
        exact zGo_ret dd123_154 rfl rfl
  rcases oite h with ⟨hc, h⟩ | ⟨hn3, h⟩
  · refine zGo_sw dd123_47 (o := 129) (by rw [hc]; decide +kernel) rfl ?_
    refine zGo_s (pc' := 177) (st' := [.ref 1007]) dd123_176 rfl ?_
    refine cGF (e := 1033) dd123_177 rfl rfl rfl rfl rfl ?_
    refine zGo_s (pc' := 181) (st' := [.int (0 : Int32), .ref 1033]) dd123_180 rfl ?_
    obtain ⟨hi, h⟩ := ochk h
    refine cIA dd123_181 rfl rfl hi ?_
    refine zGo_s (pc' := 183) (st' := [.int (1 : Int32), .int (s.1 1033 (nx (0 : Int32)))]) dd123_182 rfl ?_
    rcases oite h with ⟨hc, h⟩ | ⟨hc, h⟩
    · refine zIT dd123_183 rfl (kLtT hc) ?_
      refine zGo_s (pc' := 198) (st' := [.int (5 : Int32)]) dd123_197 rfl ?_
      obtain ⟨rfl, rfl⟩ := oret h
      exact zGo_ret dd123_198 rfl rfl
    · refine zIF dd123_183 (kLtF hc) ?_
      refine zGo_s (pc' := 187) (st' := [.ref 1007]) dd123_186 rfl ?_
      refine cGF (e := 1033) dd123_187 rfl rfl rfl rfl rfl ?_
      refine zGo_s (pc' := 191) (st' := [.int (0 : Int32), .ref 1033]) dd123_190 rfl ?_
      obtain ⟨hi, h⟩ := ochk h
      refine cIA dd123_191 rfl rfl hi ?_
      refine zGo_s (pc' := 194) (st' := [.int (9 : Int32), .int (s.1 1033 (nx (0 : Int32)))]) dd123_192 rfl ?_
      rcases oite h with ⟨hc, h⟩ | ⟨hc, h⟩
      · refine zIF dd123_194 (kLeF hc) ?_
        refine zGo_s (pc' := 198) (st' := [.int (5 : Int32)]) dd123_197 rfl ?_
        obtain ⟨rfl, rfl⟩ := oret h
        exact zGo_ret dd123_198 rfl rfl
      · refine zIT dd123_194 rfl (kLeT hc) ?_
        refine zGo_s (pc' := 201) (st' := [.ref y0]) dd123_199 rfl ?_
        refine cGI dd123_201 rfl (ck8_s hy0).1 (ck8_s hy0).2 rfl ?_
        rcases oite h with ⟨hc, h⟩ | ⟨hc, h⟩
        · refine zUF dd123_204 (kNeF hc) ?_
          refine zGo_s (pc' := 209) (st' := [.int (7 : Int32)]) dd123_207 rfl ?_
          obtain ⟨rfl, rfl⟩ := oret h
          exact zGo_ret dd123_209 rfl rfl
        · refine zUT dd123_204 rfl (kNeT hc) ?_
          refine zGo_s (pc' := 212) (st' := [.ref y0]) dd123_210 rfl ?_
          refine zGo_s (pc' := 213) (st' := [.ref 1007, .ref y0]) dd123_212 rfl ?_
          refine cGF (e := 1033) dd123_213 rfl rfl rfl rfl rfl ?_
          refine zGo_s (pc' := 217) (st' := [.int (0 : Int32), .ref 1033, .ref y0]) dd123_216 rfl ?_
          obtain ⟨hi, h⟩ := ochk h
          refine cIA dd123_217 rfl rfl hi ?_
          obtain ⟨u10, e_u10, h⟩ := olet h
          refine cPI dd123_218 rfl (ck8_s hy0).1 (ck8_s hy0).2 rfl rfl rfl e_u10 ?_
          refine zGo_s (pc' := 222) (st' := [.int (0 : Int32)]) dd123_221 rfl ?_
          obtain ⟨rfl, rfl⟩ := oret h
          exact zGo_ret dd123_222 rfl rfl
  rcases oite h with ⟨hc, h⟩ | ⟨hn4, h⟩
  · refine zGo_sw dd123_47 (o := 176) (by rw [hc]; decide +kernel) rfl ?_
    refine zGo_s (pc' := 224) (st' := [.ref 1007]) dd123_223 rfl ?_
    refine cGF (e := 1022) dd123_224 rfl rfl rfl rfl rfl ?_
    refine cGF (e := 1023) dd123_227 rfl rfl rfl rfl rfl ?_
    refine zGo_s (pc' := 231) (st' := [.int (2 : Int32), .ref 1023]) dd123_230 rfl ?_
    refine zGo_s (pc' := 232) (st' := [.int x3, .int (2 : Int32), .ref 1023]) dd123_231 rfl ?_
    refine zGo_s (pc' := 233) (st' := [.int ((2 : Int32) * x3), .ref 1023]) dd123_232 rfl ?_
    refine zGo_s (pc' := 234) (st' := [.int (-1 : Int32), .int ((2 : Int32) * x3), .ref 1023]) dd123_233 rfl ?_
    obtain ⟨hi, h⟩ := ochk h
    obtain ⟨u11, e_u11, h⟩ := olet h
    refine cIS dd123_234 rfl rfl hi e_u11 ?_
    refine zGo_s (pc' := 236) (st' := [.ref 1007]) dd123_235 rfl ?_
    refine cGF (e := 1022) dd123_236 rfl rfl rfl rfl rfl ?_
    refine cGF (e := 1023) dd123_239 rfl rfl rfl rfl rfl ?_
    refine zGo_s (pc' := 243) (st' := [.int (2 : Int32), .ref 1023]) dd123_242 rfl ?_
    refine zGo_s (pc' := 244) (st' := [.int x3, .int (2 : Int32), .ref 1023]) dd123_243 rfl ?_
    refine zGo_s (pc' := 245) (st' := [.int ((2 : Int32) * x3), .ref 1023]) dd123_244 rfl ?_
    refine zGo_s (pc' := 246) (st' := [.int (1 : Int32), .int ((2 : Int32) * x3), .ref 1023]) dd123_245 rfl ?_
    refine zGo_s (pc' := 247) (st' := [.int (((2 : Int32) * x3) + (1 : Int32)), .ref 1023]) dd123_246 rfl ?_
    refine zGo_s (pc' := 248) (st' := [.int (-1 : Int32), .int (((2 : Int32) * x3) + (1 : Int32)), .ref 1023]) dd123_247 rfl ?_
    obtain ⟨hi, h⟩ := ochk h
    obtain ⟨u12, e_u12, h⟩ := olet h
    refine cIS dd123_248 rfl rfl hi e_u12 ?_
    refine zGo_s (pc' := 250) (st' := [.int (0 : Int32)]) dd123_249 rfl ?_
    obtain ⟨rfl, rfl⟩ := oret h
    exact zGo_ret dd123_250 rfl rfl
  refine zGo_sw dd123_47 (o := 204) (zto_d (by decide) (by decide) fun k hk => ?_) rfl ?_
  · have hk2 : k = 0 ∨ k = 1 ∨ k = 2 ∨ k = 3 ∨ k = 4 := by omega
    rcases hk2 with rfl | rfl | rfl | rfl | rfl
    · exact Or.inr hn0
    · exact Or.inr hn1
    · exact Or.inr hn2
    · exact Or.inr hn3
    · exact Or.inr hn4
  refine zGo_s (pc' := 253) (st' := [.ref y0]) dd123_251 rfl ?_
  refine cGI dd123_253 rfl (ck8_s hy0).1 (ck8_s hy0).2 rfl ?_
  rcases oite h with ⟨hc, h⟩ | ⟨hc, h⟩
  · refine zUF dd123_256 (kNeF hc) ?_
    refine zGo_s (pc' := 261) (st' := [.int (7 : Int32)]) dd123_259 rfl ?_
    obtain ⟨rfl, rfl⟩ := oret h
    exact zGo_ret dd123_261 rfl rfl
  · refine zUT dd123_256 rfl (kNeT hc) ?_
    refine zGo_s (pc' := 263) (st' := [.ref 1007]) dd123_262 rfl ?_
    refine zGo_s (pc' := 265) (st' := [.ref y0, .ref 1007]) dd123_263 rfl ?_
    obtain ⟨u13, hq, h⟩ := obn0 h
    refine zCV0 (As := [.ref y0]) (rest := []) (b := 1007) (q' := q_126) dd123_265 rfl rfl (rcv_c rfl rfl (by decide)) rfl rfl rfl (f126_ok (d := d) (by omega) hy0 hq) ?_
    refine zGo_s (pc' := 270) (st' := [.ref y0]) dd123_268 rfl ?_
    refine zGo_s (pc' := 271) (st' := [.ref x1, .ref y0]) dd123_270 rfl ?_
    rcases oite h with ⟨hc, h⟩ | ⟨hc, h⟩
    · refine zGo_acF dd123_271 (ck8_e hy0) (ck8_e hx1) hc ?_
      refine zGo_s (pc' := 275) (st' := [.int (-1 : Int32)]) dd123_274 rfl ?_
      refine zGo_s (pc' := 279) (st' := [.int (-1 : Int32)]) dd123_275 rfl ?_
      obtain ⟨rfl, rfl⟩ := oret h
      exact zGo_ret dd123_279 rfl rfl
    · refine zGo_acT dd123_271 rfl (ck8_e hy0) (ck8_e hx1) hc ?_
      refine zGo_s (pc' := 279) (st' := [.int (0 : Int32)]) dd123_278 rfl ?_
      obtain ⟨rfl, rfl⟩ := oret h
      exact zGo_ret dd123_279 rfl rfl
def f123 (n : Nat) (x1 : Nat) (x2 : Int32) (s : zσ) : Option (Int32 × zσ) :=
    zrd 6 (s.2.2 1007 9) fun a1 =>
    if zin? x2 200 = true then
    zlet ((s.1 (a1 + 2) (nx x2))) fun v2 =>
    zrd 6 (s.2.2 1007 9) fun a3 =>
    if zin? x2 200 = true then
    zlet ((s.1 (a3 + 3) (nx x2))) fun v4 =>
    if v2 = (-1 : Int32) then
    f123_36 n x1 x2 v2 v4 x1 s
    else if zin? v2 8 = true then
    zrd 8 (s.2.2 1008 (nx v2)) fun a5 =>
    f123_36 n x1 x2 v2 v4 a5 s
    else none
    else none
    else none
set_option maxRecDepth 20000 in
theorem f123_ok {n d : Nat} {x1 : Nat} {x2 : Int32} {s : zσ} {v : Int32} {s2 : zσ} (hd : 2 ≤ d) (hx1 : zck 8 x1 = true) (h : f123 n x1 x2 s = some (v, s2)) {w : zσ} {fz : Bool} {L : Nat} {xs : Nat → Int32} : zGo (zX fz L xs) d q_123 (0, [(0, .ref 1007), (1, .ref x1), (2, .int x2)], [], zmk s w, 0, 0) (some (.int v), zmk s2 w, 0, 0) := by
  obtain ⟨d, rfl⟩ : ∃ d0, d = d0 + 1 := ⟨d - 1, by omega⟩
  unfold f123 at h
  refine zGo_s (pc' := 1) (st' := [.ref 1007]) dd123_0 rfl ?_
  obtain ⟨a1, e_a1, c_a1, h⟩ := ordd h
  refine cGR dd123_1 rfl rfl rfl rfl e_a1 ?_
  refine cGF (e := (a1 + 2)) dd123_4 rfl (ck6_s c_a1).1 (ck6_s c_a1).2 rfl (cf6_1 c_a1).1 ?_
  refine zGo_s (pc' := 8) (st' := [.int x2, .ref (a1 + 2)]) dd123_7 rfl ?_
  obtain ⟨hi, h⟩ := ochk h
  refine cIA dd123_8 (cf6_1 c_a1).2.1 (cf6_1 c_a1).2.2 hi ?_
  obtain ⟨v2, e_v2, h⟩ := olet h
  refine zGo_is1 e_v2 dd123_9 (x' := (10, [(3, .int v2), (0, .ref 1007), (1, .ref x1), (2, .int x2)], [], _, _, _)) rfl ?_
  refine zGo_s (pc' := 11) (st' := [.ref 1007]) dd123_10 rfl ?_
  obtain ⟨a3, e_a3, c_a3, h⟩ := ordd h
  refine cGR dd123_11 rfl rfl rfl rfl e_a3 ?_
  refine cGF (e := (a3 + 3)) dd123_14 rfl (ck6_s c_a3).1 (ck6_s c_a3).2 rfl (cf6_2 c_a3).1 ?_
  refine zGo_s (pc' := 18) (st' := [.int x2, .ref (a3 + 3)]) dd123_17 rfl ?_
  obtain ⟨hi, h⟩ := ochk h
  refine cIA dd123_18 (cf6_2 c_a3).2.1 (cf6_2 c_a3).2.2 hi ?_
  obtain ⟨v4, e_v4, h⟩ := olet h
  refine zGo_is1 e_v4 dd123_19 (x' := (21, [(4, .int v4), (3, .int v2), (0, .ref 1007), (1, .ref x1), (2, .int x2)], [], _, _, _)) rfl ?_
  refine zGo_s (pc' := 22) (st' := [.int v2]) dd123_21 rfl ?_
  refine zGo_s (pc' := 23) (st' := [.int (-1 : Int32), .int v2]) dd123_22 rfl ?_
  rcases oite h with ⟨hc, h⟩ | ⟨hc, h⟩
  · refine zIF dd123_23 (kNeF hc) ?_
    refine zGo_s (pc' := 27) (st' := [.ref x1]) dd123_26 rfl ?_
    refine zGo_s (pc' := 36) (st' := [.ref x1]) dd123_27 rfl ?_
    exact zGo_lv (lv := [(0, .ref 1007), (1, .ref x1), (2, .int x2), (3, .int v2), (4, .int v4)]) ⟨by simp, by simp, by simp⟩ (f123_36_ok hd hx1 hx1 h)
  · refine zIT dd123_23 rfl (kNeT hc) ?_
    refine zGo_s (pc' := 31) (st' := [.ref 1007]) dd123_30 rfl ?_
    refine cGF (e := 1008) dd123_31 rfl rfl rfl rfl rfl ?_
    refine zGo_s (pc' := 35) (st' := [.int v2, .ref 1008]) dd123_34 rfl ?_
    obtain ⟨hi, h⟩ := ochk h
    obtain ⟨a5, e_a5, c_a5, h⟩ := ordd h
    refine cAA dd123_35 rfl rfl (Or.inl rfl) hi e_a5 ?_
    exact zGo_lv (lv := [(0, .ref 1007), (1, .ref x1), (2, .int x2), (3, .int v2), (4, .int v4)]) ⟨by simp, by simp, by simp⟩ (f123_36_ok hd hx1 c_a5 h)
/-! PH$Machine.execute(LPH$Task;I)I -/
theorem dd97_0 : decode cX3_execute 0 = .ok (.aload_n 0, 1) := by decide +kernel
theorem dd97_1 : decode cX3_execute 1 = .ok (.getfield 59, 3) := by decide +kernel
theorem dd97_4 : decode cX3_execute 4 = .ok (.getfield 253, 3) := by decide +kernel
theorem dd97_7 : decode cX3_execute 7 = .ok (.iload_n 2, 1) := by decide +kernel
theorem dd97_8 : decode cX3_execute 8 = .ok (.iaload, 1) := by decide +kernel
theorem dd97_9 : decode cX3_execute 9 = .ok (.istore_n 3, 1) := by decide +kernel
theorem dd97_10 : decode cX3_execute 10 = .ok (.aload_n 0, 1) := by decide +kernel
theorem dd97_11 : decode cX3_execute 11 = .ok (.getfield 45, 3) := by decide +kernel
theorem dd97_14 : decode cX3_execute 14 = .ok (.iconst 0, 1) := by decide +kernel
theorem dd97_15 : decode cX3_execute 15 = .ok (.iaload, 1) := by decide +kernel
theorem dd97_16 : decode cX3_execute 16 = .ok (.istore 4, 2) := by decide +kernel
theorem dd97_18 : decode cX3_execute 18 = .ok (.aload_n 0, 1) := by decide +kernel
theorem dd97_19 : decode cX3_execute 19 = .ok (.getfield 59, 3) := by decide +kernel
theorem dd97_22 : decode cX3_execute 22 = .ok (.getfield 256, 3) := by decide +kernel
theorem dd97_25 : decode cX3_execute 25 = .ok (.iload_n 2, 1) := by decide +kernel
theorem dd97_26 : decode cX3_execute 26 = .ok (.iaload, 1) := by decide +kernel
theorem dd97_27 : decode cX3_execute 27 = .ok (.lookupswitch 458 #[(1, 185), (91, 195), (149, 330), (150, 345), (151, 293), (152, 293), (154, 212), (155, 223), (156, 251), (157, 263), (158, 273), (159, 379), (160, 386), (161, 379), (162, 395), (163, 379), (164, 408), (165, 379), (166, 421), (172, 432), (173, 440), (174, 446)], 185) := by decide +kernel
theorem dd97_212 : decode cX3_execute 212 = .ok (.aload_n 0, 1) := by decide +kernel
theorem dd97_213 : decode cX3_execute 213 = .ok (.aload_n 1, 1) := by decide +kernel
theorem dd97_214 : decode cX3_execute 214 = .ok (.iload_n 3, 1) := by decide +kernel
theorem dd97_215 : decode cX3_execute 215 = .ok (.iload 4, 2) := by decide +kernel
theorem dd97_217 : decode cX3_execute 217 = .ok (.invokevirtual 259, 3) := by decide +kernel
theorem dd97_220 : decode cX3_execute 220 = .ok (.iconst 0, 1) := by decide +kernel
theorem dd97_221 : decode cX3_execute 221 = .ok (.ireturn, 1) := by decide +kernel
theorem dd97_222 : decode cX3_execute 222 = .ok (.aload_n 0, 1) := by decide +kernel
theorem dd97_223 : decode cX3_execute 223 = .ok (.getfield 20, 3) := by decide +kernel
theorem dd97_226 : decode cX3_execute 226 = .ok (.iload_n 3, 1) := by decide +kernel
theorem dd97_227 : decode cX3_execute 227 = .ok (.iload 4, 2) := by decide +kernel
theorem dd97_229 : decode cX3_execute 229 = .ok (.aload_n 0, 1) := by decide +kernel
theorem dd97_230 : decode cX3_execute 230 = .ok (.getfield 45, 3) := by decide +kernel
theorem dd97_233 : decode cX3_execute 233 = .ok (.iconst 1, 1) := by decide +kernel
theorem dd97_234 : decode cX3_execute 234 = .ok (.iaload, 1) := by decide +kernel
theorem dd97_235 : decode cX3_execute 235 = .ok (.invokevirtual 262, 3) := by decide +kernel
theorem dd97_238 : decode cX3_execute 238 = .ok (.ireturn, 1) := by decide +kernel
theorem dd97_239 : decode cX3_execute 239 = .ok (.aload_n 0, 1) := by decide +kernel
theorem dd97_240 : decode cX3_execute 240 = .ok (.getfield 20, 3) := by decide +kernel
theorem dd97_243 : decode cX3_execute 243 = .ok (.iload_n 3, 1) := by decide +kernel
theorem dd97_244 : decode cX3_execute 244 = .ok (.iload 4, 2) := by decide +kernel
theorem dd97_246 : decode cX3_execute 246 = .ok (.invokevirtual 266, 3) := by decide +kernel
theorem dd97_249 : decode cX3_execute 249 = .ok (.ireturn, 1) := by decide +kernel
theorem dd97_250 : decode cX3_execute 250 = .ok (.aload_n 0, 1) := by decide +kernel
theorem dd97_251 : decode cX3_execute 251 = .ok (.getfield 20, 3) := by decide +kernel
theorem dd97_254 : decode cX3_execute 254 = .ok (.getfield 269, 3) := by decide +kernel
theorem dd97_257 : decode cX3_execute 257 = .ok (.iload_n 3, 1) := by decide +kernel
theorem dd97_258 : decode cX3_execute 258 = .ok (.aload_n 0, 1) := by decide +kernel
theorem dd97_259 : decode cX3_execute 259 = .ok (.getfield 20, 3) := by decide +kernel
theorem dd97_262 : decode cX3_execute 262 = .ok (.getfield 269, 3) := by decide +kernel
theorem dd97_265 : decode cX3_execute 265 = .ok (.aload_n 0, 1) := by decide +kernel
theorem dd97_266 : decode cX3_execute 266 = .ok (.getfield 59, 3) := by decide +kernel
theorem dd97_269 : decode cX3_execute 269 = .ok (.getfield 272, 3) := by decide +kernel
theorem dd97_272 : decode cX3_execute 272 = .ok (.iload_n 2, 1) := by decide +kernel
theorem dd97_273 : decode cX3_execute 273 = .ok (.iaload, 1) := by decide +kernel
theorem dd97_274 : decode cX3_execute 274 = .ok (.iaload, 1) := by decide +kernel
theorem dd97_275 : decode cX3_execute 275 = .ok (.iastore, 1) := by decide +kernel
theorem dd97_276 : decode cX3_execute 276 = .ok (.iconst 0, 1) := by decide +kernel
theorem dd97_277 : decode cX3_execute 277 = .ok (.ireturn, 1) := by decide +kernel
theorem dd97_278 : decode cX3_execute 278 = .ok (.aload_n 0, 1) := by decide +kernel
theorem dd97_279 : decode cX3_execute 279 = .ok (.getfield 20, 3) := by decide +kernel
theorem dd97_282 : decode cX3_execute 282 = .ok (.getfield 269, 3) := by decide +kernel
theorem dd97_285 : decode cX3_execute 285 = .ok (.iload_n 3, 1) := by decide +kernel
theorem dd97_286 : decode cX3_execute 286 = .ok (.iconst (-1), 1) := by decide +kernel
theorem dd97_287 : decode cX3_execute 287 = .ok (.iastore, 1) := by decide +kernel
theorem dd97_288 : decode cX3_execute 288 = .ok (.iconst 0, 1) := by decide +kernel
theorem dd97_289 : decode cX3_execute 289 = .ok (.ireturn, 1) := by decide +kernel
theorem dd97_290 : decode cX3_execute 290 = .ok (.aload_n 0, 1) := by decide +kernel
theorem dd97_291 : decode cX3_execute 291 = .ok (.getfield 41, 3) := by decide +kernel
theorem dd97_294 : decode cX3_execute 294 = .ok (.iload 4, 2) := by decide +kernel
theorem dd97_296 : decode cX3_execute 296 = .ok (.invokevirtual 275, 3) := by decide +kernel
theorem dd97_299 : decode cX3_execute 299 = .ok (.ireturn, 1) := by decide +kernel
theorem dd97_300 : decode cX3_execute 300 = .ok (.iload 4, 2) := by decide +kernel
theorem dd97_302 : decode cX3_execute 302 = .ok (.iconst 1, 1) := by decide +kernel
theorem dd97_303 : decode cX3_execute 303 = .ok (.if_icmp .lt 10, 3) := by decide +kernel
theorem dd97_306 : decode cX3_execute 306 = .ok (.iload 4, 2) := by decide +kernel
theorem dd97_308 : decode cX3_execute 308 = .ok (.bipush 19, 2) := by decide +kernel
theorem dd97_310 : decode cX3_execute 310 = .ok (.if_icmp .le 7, 3) := by decide +kernel
theorem dd97_313 : decode cX3_execute 313 = .ok (.iconst 5, 1) := by decide +kernel
theorem dd97_314 : decode cX3_execute 314 = .ok (.goto 5, 3) := by decide +kernel
theorem dd97_317 : decode cX3_execute 317 = .ok (.iload 4, 2) := by decide +kernel
theorem dd97_319 : decode cX3_execute 319 = .ok (.ireturn, 1) := by decide +kernel
theorem dd97_320 : decode cX3_execute 320 = .ok (.aload_n 0, 1) := by decide +kernel
theorem dd97_321 : decode cX3_execute 321 = .ok (.iload 4, 2) := by decide +kernel
theorem dd97_323 : decode cX3_execute 323 = .ok (.ifCond .eq 7, 3) := by decide +kernel
theorem dd97_326 : decode cX3_execute 326 = .ok (.iload_n 3, 1) := by decide +kernel
theorem dd97_327 : decode cX3_execute 327 = .ok (.goto 12, 3) := by decide +kernel
theorem dd97_330 : decode cX3_execute 330 = .ok (.aload_n 0, 1) := by decide +kernel
theorem dd97_331 : decode cX3_execute 331 = .ok (.getfield 59, 3) := by decide +kernel
theorem dd97_334 : decode cX3_execute 334 = .ok (.getfield 272, 3) := by decide +kernel
theorem dd97_337 : decode cX3_execute 337 = .ok (.iload_n 2, 1) := by decide +kernel
theorem dd97_338 : decode cX3_execute 338 = .ok (.iaload, 1) := by decide +kernel
theorem dd97_339 : decode cX3_execute 339 = .ok (.putfield 87, 3) := by decide +kernel
theorem dd97_342 : decode cX3_execute 342 = .ok (.aload_n 0, 1) := by decide +kernel
theorem dd97_343 : decode cX3_execute 343 = .ok (.getfield 87, 3) := by decide +kernel
theorem dd97_346 : decode cX3_execute 346 = .ok (.iconst (-1), 1) := by decide +kernel
theorem dd97_347 : decode cX3_execute 347 = .ok (.if_icmp .ne 7, 3) := by decide +kernel
theorem dd97_350 : decode cX3_execute 350 = .ok (.iconst 0, 1) := by decide +kernel
theorem dd97_351 : decode cX3_execute 351 = .ok (.goto 5, 3) := by decide +kernel
theorem dd97_354 : decode cX3_execute 354 = .ok (.bipush (-2), 2) := by decide +kernel
theorem dd97_356 : decode cX3_execute 356 = .ok (.ireturn, 1) := by decide +kernel
theorem dd97_357 : decode cX3_execute 357 = .ok (.aload_n 0, 1) := by decide +kernel
theorem dd97_358 : decode cX3_execute 358 = .ok (.aload_n 1, 1) := by decide +kernel
theorem dd97_359 : decode cX3_execute 359 = .ok (.aload_n 0, 1) := by decide +kernel
theorem dd97_360 : decode cX3_execute 360 = .ok (.getfield 59, 3) := by decide +kernel
theorem dd97_363 : decode cX3_execute 363 = .ok (.getfield 272, 3) := by decide +kernel
theorem dd97_366 : decode cX3_execute 366 = .ok (.iload_n 2, 1) := by decide +kernel
theorem dd97_367 : decode cX3_execute 367 = .ok (.iaload, 1) := by decide +kernel
theorem dd97_368 : decode cX3_execute 368 = .ok (.invokevirtual 278, 3) := by decide +kernel
theorem dd97_371 : decode cX3_execute 371 = .ok (.ireturn, 1) := by decide +kernel
theorem dd97_372 : decode cX3_execute 372 = .ok (.aload_n 0, 1) := by decide +kernel
theorem dd97_373 : decode cX3_execute 373 = .ok (.aload_n 0, 1) := by decide +kernel
theorem dd97_374 : decode cX3_execute 374 = .ok (.getfield 55, 3) := by decide +kernel
theorem dd97_377 : decode cX3_execute 377 = .ok (.getfield 281, 3) := by decide +kernel
theorem dd97_380 : decode cX3_execute 380 = .ok (.aload_n 0, 1) := by decide +kernel
theorem dd97_381 : decode cX3_execute 381 = .ok (.getfield 59, 3) := by decide +kernel
theorem dd97_384 : decode cX3_execute 384 = .ok (.getfield 272, 3) := by decide +kernel
theorem dd97_387 : decode cX3_execute 387 = .ok (.aload_n 1, 1) := by decide +kernel
theorem dd97_388 : decode cX3_execute 388 = .ok (.getfield 183, 3) := by decide +kernel
theorem dd97_391 : decode cX3_execute 391 = .ok (.aload_n 1, 1) := by decide +kernel
theorem dd97_392 : decode cX3_execute 392 = .ok (.getfield 186, 3) := by decide +kernel
theorem dd97_395 : decode cX3_execute 395 = .ok (.iconst 1, 1) := by decide +kernel
theorem dd97_396 : decode cX3_execute 396 = .ok (.isub, 1) := by decide +kernel
theorem dd97_397 : decode cX3_execute 397 = .ok (.iaload, 1) := by decide +kernel
theorem dd97_398 : decode cX3_execute 398 = .ok (.iaload, 1) := by decide +kernel
theorem dd97_399 : decode cX3_execute 399 = .ok (.iaload, 1) := by decide +kernel
theorem dd97_400 : decode cX3_execute 400 = .ok (.putfield 87, 3) := by decide +kernel
theorem dd97_403 : decode cX3_execute 403 = .ok (.bipush (-3), 2) := by decide +kernel
theorem dd97_405 : decode cX3_execute 405 = .ok (.ireturn, 1) := by decide +kernel
theorem dd97_406 : decode cX3_execute 406 = .ok (.aload_n 0, 1) := by decide +kernel
theorem dd97_407 : decode cX3_execute 407 = .ok (.aload_n 1, 1) := by decide +kernel
theorem dd97_408 : decode cX3_execute 408 = .ok (.iload_n 2, 1) := by decide +kernel
theorem dd97_409 : decode cX3_execute 409 = .ok (.invokevirtual 284, 3) := by decide +kernel
theorem dd97_412 : decode cX3_execute 412 = .ok (.ireturn, 1) := by decide +kernel
theorem dd97_413 : decode cX3_execute 413 = .ok (.aload_n 0, 1) := by decide +kernel
theorem dd97_414 : decode cX3_execute 414 = .ok (.getfield 27, 3) := by decide +kernel
theorem dd97_417 : decode cX3_execute 417 = .ok (.iload_n 3, 1) := by decide +kernel
theorem dd97_418 : decode cX3_execute 418 = .ok (.invokevirtual 287, 3) := by decide +kernel
theorem dd97_421 : decode cX3_execute 421 = .ok (.ireturn, 1) := by decide +kernel
theorem dd97_422 : decode cX3_execute 422 = .ok (.aload_n 0, 1) := by decide +kernel
theorem dd97_423 : decode cX3_execute 423 = .ok (.getfield 27, 3) := by decide +kernel
theorem dd97_426 : decode cX3_execute 426 = .ok (.iload_n 3, 1) := by decide +kernel
theorem dd97_427 : decode cX3_execute 427 = .ok (.aload_n 1, 1) := by decide +kernel
theorem dd97_428 : decode cX3_execute 428 = .ok (.getfield 290, 3) := by decide +kernel
theorem dd97_431 : decode cX3_execute 431 = .ok (.invokevirtual 293, 3) := by decide +kernel
theorem dd97_434 : decode cX3_execute 434 = .ok (.ireturn, 1) := by decide +kernel
theorem dd97_435 : decode cX3_execute 435 = .ok (.aload_n 0, 1) := by decide +kernel
theorem dd97_436 : decode cX3_execute 436 = .ok (.getfield 27, 3) := by decide +kernel
theorem dd97_439 : decode cX3_execute 439 = .ok (.iload_n 3, 1) := by decide +kernel
theorem dd97_440 : decode cX3_execute 440 = .ok (.aload_n 1, 1) := by decide +kernel
theorem dd97_441 : decode cX3_execute 441 = .ok (.getfield 290, 3) := by decide +kernel
theorem dd97_444 : decode cX3_execute 444 = .ok (.invokevirtual 296, 3) := by decide +kernel
theorem dd97_447 : decode cX3_execute 447 = .ok (.ireturn, 1) := by decide +kernel
theorem dd97_448 : decode cX3_execute 448 = .ok (.aload_n 0, 1) := by decide +kernel
theorem dd97_449 : decode cX3_execute 449 = .ok (.getfield 27, 3) := by decide +kernel
theorem dd97_452 : decode cX3_execute 452 = .ok (.iload_n 3, 1) := by decide +kernel
theorem dd97_453 : decode cX3_execute 453 = .ok (.iload 4, 2) := by decide +kernel
theorem dd97_455 : decode cX3_execute 455 = .ok (.invokevirtual 299, 3) := by decide +kernel
theorem dd97_458 : decode cX3_execute 458 = .ok (.ireturn, 1) := by decide +kernel
theorem dd97_459 : decode cX3_execute 459 = .ok (.aload_n 0, 1) := by decide +kernel
theorem dd97_460 : decode cX3_execute 460 = .ok (.iload_n 3, 1) := by decide +kernel
theorem dd97_461 : decode cX3_execute 461 = .ok (.invokevirtual 302, 3) := by decide +kernel
theorem dd97_464 : decode cX3_execute 464 = .ok (.pop, 1) := by decide +kernel
theorem dd97_465 : decode cX3_execute 465 = .ok (.iconst 0, 1) := by decide +kernel
theorem dd97_466 : decode cX3_execute 466 = .ok (.ireturn, 1) := by decide +kernel
theorem dd97_467 : decode cX3_execute 467 = .ok (.aload_n 0, 1) := by decide +kernel
theorem dd97_468 : decode cX3_execute 468 = .ok (.iload_n 3, 1) := by decide +kernel
theorem dd97_469 : decode cX3_execute 469 = .ok (.invokevirtual 305, 3) := by decide +kernel
theorem dd97_472 : decode cX3_execute 472 = .ok (.ireturn, 1) := by decide +kernel
theorem dd97_473 : decode cX3_execute 473 = .ok (.aload_n 0, 1) := by decide +kernel
theorem dd97_474 : decode cX3_execute 474 = .ok (.getfield 34, 3) := by decide +kernel
theorem dd97_477 : decode cX3_execute 477 = .ok (.getfield 308, 3) := by decide +kernel
theorem dd97_480 : decode cX3_execute 480 = .ok (.iload_n 3, 1) := by decide +kernel
theorem dd97_481 : decode cX3_execute 481 = .ok (.iconst 0, 1) := by decide +kernel
theorem dd97_482 : decode cX3_execute 482 = .ok (.bastore, 1) := by decide +kernel
theorem dd97_483 : decode cX3_execute 483 = .ok (.iconst 0, 1) := by decide +kernel
theorem dd97_484 : decode cX3_execute 484 = .ok (.ireturn, 1) := by decide +kernel
theorem dd97_485 : decode cX3_execute 485 = .ok (.aload_n 0, 1) := by decide +kernel
theorem dd97_486 : decode cX3_execute 486 = .ok (.aload_n 1, 1) := by decide +kernel
theorem dd97_487 : decode cX3_execute 487 = .ok (.iload_n 2, 1) := by decide +kernel
theorem dd97_488 : decode cX3_execute 488 = .ok (.invokevirtual 311, 3) := by decide +kernel
theorem dd97_491 : decode cX3_execute 491 = .ok (.ireturn, 1) := by decide +kernel
def f97_406 (n : Nat) (x1 : Nat) (x2 : Int32) (s : zσ) : Option (Int32 × zσ) :=
    yb1 (f106 n x1 x2 s) fun v2 u1 =>
    some (v2, u1)
set_option maxRecDepth 20000 in
theorem f97_406_ok {n d : Nat} {x1 : Nat} {x2 : Int32} {s : zσ} {v : Int32} {s2 : zσ} (hd : 4 ≤ d) (hx1 : zck 8 x1 = true) (h : f97_406 n x1 x2 s = some (v, s2)) {w : zσ} {fz : Bool} {L : Nat} {xs : Nat → Int32} : zGo (zX fz L xs) d q_97 (406, [(0, .ref 1007), (1, .ref x1), (2, .int x2)], [], zmk s w, 0, 0) (some (.int v), zmk s2 w, 0, 0) := by
  obtain ⟨d, rfl⟩ : ∃ d0, d = d0 + 1 := ⟨d - 1, by omega⟩
  unfold f97_406 at h
  refine zGo_s (pc' := 407) (st' := [.ref 1007]) dd97_406 rfl ?_
  refine zGo_s (pc' := 408) (st' := [.ref x1, .ref 1007]) dd97_407 rfl ?_
  refine zGo_s (pc' := 409) (st' := [.int x2, .ref x1, .ref 1007]) dd97_408 rfl ?_
  obtain ⟨v2, u1, hq, h⟩ := obnd h
  refine zCV1 (As := [.ref x1, .int x2]) (rest := []) (b := 1007) (q' := q_106) dd97_409 rfl rfl (rcv_c rfl rfl (by decide)) rfl rfl rfl (f106_ok (d := d) (by omega) hx1 hq) ?_
  obtain ⟨rfl, rfl⟩ := oret h
  exact zGo_ret dd97_412 rfl rfl
def f97_339 (n : Nat) (y0 : Int32) (s : zσ) : Option (Int32 × zσ) :=
    zlet (sI s 1007 17 y0) fun u1 =>
    if (u1.1 1007 17) = (-1 : Int32) then
    some ((0 : Int32), u1)
    else some ((-2 : Int32), u1)
set_option maxRecDepth 20000 in
theorem f97_339_ok {n d : Nat} {y0 : Int32} {s : zσ} {v : Int32} {s2 : zσ} (hd : 4 ≤ d) (h : f97_339 n y0 s = some (v, s2)) {w : zσ} {fz : Bool} {L : Nat} {xs : Nat → Int32} : zGo (zX fz L xs) d q_97 (339, [(0, .ref 1007)], [.int y0, .ref 1007], zmk s w, 0, 0) (some (.int v), zmk s2 w, 0, 0) := by
  obtain ⟨d, rfl⟩ : ∃ d0, d = d0 + 1 := ⟨d - 1, by omega⟩
  unfold f97_339 at h
  obtain ⟨u1, e_u1, h⟩ := olet h
  refine cPI dd97_339 rfl rfl rfl rfl rfl rfl e_u1 ?_
  refine zGo_s (pc' := 343) (st' := [.ref 1007]) dd97_342 rfl ?_
  refine cGI dd97_343 rfl rfl rfl rfl ?_
  refine zGo_s (pc' := 347) (st' := [.int (-1 : Int32), .int (u1.1 1007 17)]) dd97_346 rfl ?_
  rcases oite h with ⟨hc, h⟩ | ⟨hc, h⟩
  · refine zIF dd97_347 (kNeF hc) ?_
    refine zGo_s (pc' := 351) (st' := [.int (0 : Int32)]) dd97_350 rfl ?_
    refine zGo_s (pc' := 356) (st' := [.int (0 : Int32)]) dd97_351 rfl ?_
    obtain ⟨rfl, rfl⟩ := oret h
    exact zGo_ret dd97_356 rfl rfl
  · refine zIT dd97_347 rfl (kNeT hc) ?_
    refine zGo_s (pc' := 356) (st' := [.int (-2 : Int32)]) dd97_354 rfl ?_
    obtain ⟨rfl, rfl⟩ := oret h
    exact zGo_ret dd97_356 rfl rfl
def f97_320 (n : Nat) (x2 : Int32) (x3 : Int32) (x4 : Int32) (s : zσ) : Option (Int32 × zσ) :=
    if x4 = (0 : Int32) then
    zrd 6 (s.2.2 1007 9) fun a1 =>
    if zin? x2 200 = true then
    f97_339 n (s.1 (a1 + 3) (nx x2)) s
    else none
    else f97_339 n x3 s
set_option maxRecDepth 20000 in
theorem f97_320_ok {n d : Nat} {x2 : Int32} {x3 : Int32} {x4 : Int32} {s : zσ} {v : Int32} {s2 : zσ} (hd : 4 ≤ d) (h : f97_320 n x2 x3 x4 s = some (v, s2)) {w : zσ} {fz : Bool} {L : Nat} {xs : Nat → Int32} : zGo (zX fz L xs) d q_97 (320, [(0, .ref 1007), (2, .int x2), (3, .int x3), (4, .int x4)], [], zmk s w, 0, 0) (some (.int v), zmk s2 w, 0, 0) := by
  obtain ⟨d, rfl⟩ : ∃ d0, d = d0 + 1 := ⟨d - 1, by omega⟩
  unfold f97_320 at h
  refine zGo_s (pc' := 321) (st' := [.ref 1007]) dd97_320 rfl ?_
  refine zGo_s (pc' := 323) (st' := [.int x4, .ref 1007]) dd97_321 rfl ?_
  rcases oite h with ⟨hc, h⟩ | ⟨hc, h⟩
  · refine zUT dd97_323 rfl (kEqT hc) ?_
    refine zGo_s (pc' := 331) (st' := [.ref 1007, .ref 1007]) dd97_330 rfl ?_
    obtain ⟨a1, e_a1, c_a1, h⟩ := ordd h
    refine cGR dd97_331 rfl rfl rfl rfl e_a1 ?_
    refine cGF (e := (a1 + 3)) dd97_334 rfl (ck6_s c_a1).1 (ck6_s c_a1).2 rfl (cf6_2 c_a1).1 ?_
    refine zGo_s (pc' := 338) (st' := [.int x2, .ref (a1 + 3), .ref 1007]) dd97_337 rfl ?_
    obtain ⟨hi, h⟩ := ochk h
    refine cIA dd97_338 (cf6_2 c_a1).2.1 (cf6_2 c_a1).2.2 hi ?_
    exact zGo_lv (lv := [(0, .ref 1007)]) ⟨by simp, by simp, by simp⟩ (f97_339_ok hd h)
  · refine zUF dd97_323 (kEqF hc) ?_
    refine zGo_s (pc' := 327) (st' := [.int x3, .ref 1007]) dd97_326 rfl ?_
    refine zGo_s (pc' := 339) (st' := [.int x3, .ref 1007]) dd97_327 rfl ?_
    exact zGo_lv (lv := [(0, .ref 1007)]) ⟨by simp, by simp, by simp⟩ (f97_339_ok hd h)
def f97_313 (n : Nat) (s : zσ) : Option (Int32 × zσ) :=
    some ((5 : Int32), s)
set_option maxRecDepth 20000 in
theorem f97_313_ok {n d : Nat} {s : zσ} {v : Int32} {s2 : zσ} (hd : 4 ≤ d) (h : f97_313 n s = some (v, s2)) {w : zσ} {fz : Bool} {L : Nat} {xs : Nat → Int32} : zGo (zX fz L xs) d q_97 (313, [], [], zmk s w, 0, 0) (some (.int v), zmk s2 w, 0, 0) := by
  obtain ⟨d, rfl⟩ : ∃ d0, d = d0 + 1 := ⟨d - 1, by omega⟩
  unfold f97_313 at h
  refine zGo_s (pc' := 314) (st' := [.int (5 : Int32)]) dd97_313 rfl ?_
  refine zGo_s (pc' := 319) (st' := [.int (5 : Int32)]) dd97_314 rfl ?_
  obtain ⟨rfl, rfl⟩ := oret h
  exact zGo_ret dd97_319 rfl rfl
def f97 (n : Nat) (x1 : Nat) (x2 : Int32) (s : zσ) : Option (Int32 × zσ) :=
    zrd 6 (s.2.2 1007 9) fun a1 =>
    if zin? x2 200 = true then
    zlet ((s.1 (a1 + 2) (nx x2))) fun v2 =>
    if zin? (0 : Int32) 64 = true then
    zlet ((s.1 1033 (nx (0 : Int32)))) fun v3 =>
    zrd 6 (s.2.2 1007 9) fun a4 =>
    if zin? x2 200 = true then
    if (s.1 (a4 + 1) (nx x2)) = (1 : Int32) then
    yb0 (f98 n x1 v2 v3 s) fun u5 =>
    some ((0 : Int32), u5)
    else if (s.1 (a4 + 1) (nx x2)) = (91 : Int32) then
    if zin? (1 : Int32) 64 = true then
    yb1 (f99 n v2 v3 (s.1 1033 (nx (1 : Int32))) s) fun v7 u6 =>
    some (v7, u6)
    else none
    else if (s.1 (a4 + 1) (nx x2)) = (149 : Int32) then
    zrd 6 (s.2.2 1007 9) fun a8 =>
    if zin? x2 200 = true then
    yb1 (f105 n x1 (s.1 (a8 + 3) (nx x2)) s) fun v10 u9 =>
    some (v10, u9)
    else none
    else if (s.1 (a4 + 1) (nx x2)) = (150 : Int32) then
    zrd 9 (s.2.2 1007 8) fun a11 =>
    zrd 6 (s.2.2 1007 9) fun a12 =>
    if zin? ((s.1 x1 10) - (1 : Int32)) 9 = true then
    if zin? (s.1 (x1 + 1) (nx ((s.1 x1 10) - (1 : Int32)))) 200 = true then
    if zin? (s.1 (a12 + 3) (nx (s.1 (x1 + 1) (nx ((s.1 x1 10) - (1 : Int32)))))) 6 = true then
    zlet (sI s 1007 17 (s.1 (a11 + 17) (nx (s.1 (a12 + 3) (nx (s.1 (x1 + 1) (nx ((s.1 x1 10) - (1 : Int32))))))))) fun u13 =>
    some ((-3 : Int32), u13)
    else none
    else none
    else none
    else if (s.1 (a4 + 1) (nx x2)) = (151 : Int32) then
    f97_320 n x2 v2 v3 s
    else if (s.1 (a4 + 1) (nx x2)) = (152 : Int32) then
    f97_320 n x2 v2 v3 s
    else if (s.1 (a4 + 1) (nx x2)) = (154 : Int32) then
    yb1 (f100 n v2 v3 s) fun v15 u14 =>
    some (v15, u14)
    else if (s.1 (a4 + 1) (nx x2)) = (155 : Int32) then
    zrd 6 (s.2.2 1007 9) fun a16 =>
    if zin? x2 200 = true then
    if zin? (s.1 (a16 + 3) (nx x2)) 4 = true then
    if zin? v2 4 = true then
    zlet (sI s 1011 (nx v2) (s.1 1011 (nx (s.1 (a16 + 3) (nx x2))))) fun u17 =>
    some ((0 : Int32), u17)
    else none
    else none
    else none
    else if (s.1 (a4 + 1) (nx x2)) = (156 : Int32) then
    if zin? v2 4 = true then
    zlet (sI s 1011 (nx v2) (-1 : Int32)) fun u18 =>
    some ((0 : Int32), u18)
    else none
    else if (s.1 (a4 + 1) (nx x2)) = (157 : Int32) then
    yb1 (f104 n v3 s) fun v20 u19 =>
    some (v20, u19)
    else if (s.1 (a4 + 1) (nx x2)) = (158 : Int32) then
    if v3 < (1 : Int32) then
    f97_313 n s
    else if (19 : Int32) < v3 then
    f97_313 n s
    else some (v3, s)
    else if (s.1 (a4 + 1) (nx x2)) = (159 : Int32) then
    f97_406 n x1 x2 s
    else if (s.1 (a4 + 1) (nx x2)) = (160 : Int32) then
    yb1 (f117 n v2 s) fun v22 u21 =>
    some (v22, u21)
    else if (s.1 (a4 + 1) (nx x2)) = (161 : Int32) then
    f97_406 n x1 x2 s
    else if (s.1 (a4 + 1) (nx x2)) = (162 : Int32) then
    yb1 (f118 n v2 (s.1 x1 0) s) fun v24 u23 =>
    some (v24, u23)
    else if (s.1 (a4 + 1) (nx x2)) = (163 : Int32) then
    f97_406 n x1 x2 s
    else if (s.1 (a4 + 1) (nx x2)) = (164 : Int32) then
    yb1 (f119 n v2 (s.1 x1 0) s) fun v26 u25 =>
    some (v26, u25)
    else if (s.1 (a4 + 1) (nx x2)) = (165 : Int32) then
    f97_406 n x1 x2 s
    else if (s.1 (a4 + 1) (nx x2)) = (166 : Int32) then
    yb1 (f120 n v2 v3 s) fun v28 u27 =>
    some (v28, u27)
    else if (s.1 (a4 + 1) (nx x2)) = (172 : Int32) then
    yb1 (f121 n v2 s) fun v30 u29 =>
    some ((0 : Int32), u29)
    else if (s.1 (a4 + 1) (nx x2)) = (173 : Int32) then
    yb1 (f122 n v2 s) fun v32 u31 =>
    some (v32, u31)
    else if (s.1 (a4 + 1) (nx x2)) = (174 : Int32) then
    if zin? v2 4 = true then
    zlet (sI s 1027 (nx v2) (vp_nar .boolean (0 : Int32))) fun u33 =>
    some ((0 : Int32), u33)
    else none
    else yb1 (f123 n x1 x2 s) fun v35 u34 =>
    some (v35, u34)
    else none
    else none
    else none
set_option maxRecDepth 20000 in
theorem f97_ok {n d : Nat} {x1 : Nat} {x2 : Int32} {s : zσ} {v : Int32} {s2 : zσ} (hd : 4 ≤ d) (hx1 : zck 8 x1 = true) (h : f97 n x1 x2 s = some (v, s2)) {w : zσ} {fz : Bool} {L : Nat} {xs : Nat → Int32} : zGo (zX fz L xs) d q_97 (0, [(0, .ref 1007), (1, .ref x1), (2, .int x2)], [], zmk s w, 0, 0) (some (.int v), zmk s2 w, 0, 0) := by
  obtain ⟨d, rfl⟩ : ∃ d0, d = d0 + 1 := ⟨d - 1, by omega⟩
  unfold f97 at h
  refine zGo_s (pc' := 1) (st' := [.ref 1007]) dd97_0 rfl ?_
  obtain ⟨a1, e_a1, c_a1, h⟩ := ordd h
  refine cGR dd97_1 rfl rfl rfl rfl e_a1 ?_
  refine cGF (e := (a1 + 2)) dd97_4 rfl (ck6_s c_a1).1 (ck6_s c_a1).2 rfl (cf6_1 c_a1).1 ?_
  refine zGo_s (pc' := 8) (st' := [.int x2, .ref (a1 + 2)]) dd97_7 rfl ?_
  obtain ⟨hi, h⟩ := ochk h
  refine cIA dd97_8 (cf6_1 c_a1).2.1 (cf6_1 c_a1).2.2 hi ?_
  obtain ⟨v2, e_v2, h⟩ := olet h
  refine zGo_is1 e_v2 dd97_9 (x' := (10, [(3, .int v2), (0, .ref 1007), (1, .ref x1), (2, .int x2)], [], _, _, _)) rfl ?_
  refine zGo_s (pc' := 11) (st' := [.ref 1007]) dd97_10 rfl ?_
  refine cGF (e := 1033) dd97_11 rfl rfl rfl rfl rfl ?_
  refine zGo_s (pc' := 15) (st' := [.int (0 : Int32), .ref 1033]) dd97_14 rfl ?_
  obtain ⟨hi, h⟩ := ochk h
  refine cIA dd97_15 rfl rfl hi ?_
  obtain ⟨v3, e_v3, h⟩ := olet h
  refine zGo_is1 e_v3 dd97_16 (x' := (18, [(4, .int v3), (3, .int v2), (0, .ref 1007), (1, .ref x1), (2, .int x2)], [], _, _, _)) rfl ?_
  refine zGo_s (pc' := 19) (st' := [.ref 1007]) dd97_18 rfl ?_
  obtain ⟨a4, e_a4, c_a4, h⟩ := ordd h
  refine cGR dd97_19 rfl rfl rfl rfl e_a4 ?_
  refine cGF (e := (a4 + 1)) dd97_22 rfl (ck6_s c_a4).1 (ck6_s c_a4).2 rfl (cf6_0 c_a4).1 ?_
  refine zGo_s (pc' := 26) (st' := [.int x2, .ref (a4 + 1)]) dd97_25 rfl ?_
  obtain ⟨hi, h⟩ := ochk h
  refine cIA dd97_26 (cf6_0 c_a4).2.1 (cf6_0 c_a4).2.2 hi ?_
  rcases oite h with ⟨hc, h⟩ | ⟨hn0, h⟩
  · refine zGo_lw dd97_27 (o := 185) (by rw [hc]; decide +kernel) rfl ?_
    refine zGo_s (pc' := 213) (st' := [.ref 1007]) dd97_212 rfl ?_
    refine zGo_s (pc' := 214) (st' := [.ref x1, .ref 1007]) dd97_213 rfl ?_
    refine zGo_s (pc' := 215) (st' := [.int v2, .ref x1, .ref 1007]) dd97_214 rfl ?_
    refine zGo_s (pc' := 217) (st' := [.int v3, .int v2, .ref x1, .ref 1007]) dd97_215 rfl ?_
    obtain ⟨u5, hq, h⟩ := obn0 h
    refine zCV0 (As := [.ref x1, .int v2, .int v3]) (rest := []) (b := 1007) (q' := q_98) dd97_217 rfl rfl (rcv_c rfl rfl (by decide)) rfl rfl rfl (f98_ok (d := d) (by omega) hx1 hq) ?_
    refine zGo_s (pc' := 221) (st' := [.int (0 : Int32)]) dd97_220 rfl ?_
    obtain ⟨rfl, rfl⟩ := oret h
    exact zGo_ret dd97_221 rfl rfl
  rcases oite h with ⟨hc, h⟩ | ⟨hn1, h⟩
  · refine zGo_lw dd97_27 (o := 195) (by rw [hc]; decide +kernel) rfl ?_
    refine zGo_s (pc' := 223) (st' := [.ref 1007]) dd97_222 rfl ?_
    refine cGF (e := 1009) dd97_223 rfl rfl rfl rfl rfl ?_
    refine zGo_s (pc' := 227) (st' := [.int v2, .ref 1009]) dd97_226 rfl ?_
    refine zGo_s (pc' := 229) (st' := [.int v3, .int v2, .ref 1009]) dd97_227 rfl ?_
    refine zGo_s (pc' := 230) (st' := [.ref 1007, .int v3, .int v2, .ref 1009]) dd97_229 rfl ?_
    refine cGF (e := 1033) dd97_230 rfl rfl rfl rfl rfl ?_
    refine zGo_s (pc' := 234) (st' := [.int (1 : Int32), .ref 1033, .int v3, .int v2, .ref 1009]) dd97_233 rfl ?_
    obtain ⟨hi, h⟩ := ochk h
    refine cIA dd97_234 rfl rfl hi ?_
    obtain ⟨v7, u6, hq, h⟩ := obnd h
    refine zCV1 (As := [.int v2, .int v3, .int (s.1 1033 (nx (1 : Int32)))]) (rest := []) (b := 1009) (q' := q_99) dd97_235 rfl rfl (rcv_c rfl rfl (by decide)) rfl rfl rfl (f99_ok (d := d) (by omega)  hq) ?_
    obtain ⟨rfl, rfl⟩ := oret h
    exact zGo_ret dd97_238 rfl rfl
  rcases oite h with ⟨hc, h⟩ | ⟨hn2, h⟩
  · refine zGo_lw dd97_27 (o := 330) (by rw [hc]; decide +kernel) rfl ?_
    refine zGo_s (pc' := 358) (st' := [.ref 1007]) dd97_357 rfl ?_
    refine zGo_s (pc' := 359) (st' := [.ref x1, .ref 1007]) dd97_358 rfl ?_
    refine zGo_s (pc' := 360) (st' := [.ref 1007, .ref x1, .ref 1007]) dd97_359 rfl ?_
    obtain ⟨a8, e_a8, c_a8, h⟩ := ordd h
    refine cGR dd97_360 rfl rfl rfl rfl e_a8 ?_
    refine cGF (e := (a8 + 3)) dd97_363 rfl (ck6_s c_a8).1 (ck6_s c_a8).2 rfl (cf6_2 c_a8).1 ?_
    refine zGo_s (pc' := 367) (st' := [.int x2, .ref (a8 + 3), .ref x1, .ref 1007]) dd97_366 rfl ?_
    obtain ⟨hi, h⟩ := ochk h
    refine cIA dd97_367 (cf6_2 c_a8).2.1 (cf6_2 c_a8).2.2 hi ?_
    obtain ⟨v10, u9, hq, h⟩ := obnd h
    refine zCV1 (As := [.ref x1, .int (s.1 (a8 + 3) (nx x2))]) (rest := []) (b := 1007) (q' := q_105) dd97_368 rfl rfl (rcv_c rfl rfl (by decide)) rfl rfl rfl (f105_ok (d := d) (by omega) hx1 hq) ?_
    obtain ⟨rfl, rfl⟩ := oret h
    exact zGo_ret dd97_371 rfl rfl
  rcases oite h with ⟨hc, h⟩ | ⟨hn3, h⟩
  · refine zGo_lw dd97_27 (o := 345) (by rw [hc]; decide +kernel) rfl ?_
    refine zGo_s (pc' := 373) (st' := [.ref 1007]) dd97_372 rfl ?_
    refine zGo_s (pc' := 374) (st' := [.ref 1007, .ref 1007]) dd97_373 rfl ?_
    obtain ⟨a11, e_a11, c_a11, h⟩ := ordd h
    refine cGR dd97_374 rfl rfl rfl rfl e_a11 ?_
    refine cGF (e := (a11 + 17)) dd97_377 rfl (ck9_s c_a11).1 (ck9_s c_a11).2 rfl (cf9_7 c_a11).1 ?_
    refine zGo_s (pc' := 381) (st' := [.ref 1007, .ref (a11 + 17), .ref 1007]) dd97_380 rfl ?_
    obtain ⟨a12, e_a12, c_a12, h⟩ := ordd h
    refine cGR dd97_381 rfl rfl rfl rfl e_a12 ?_
    refine cGF (e := (a12 + 3)) dd97_384 rfl (ck6_s c_a12).1 (ck6_s c_a12).2 rfl (cf6_2 c_a12).1 ?_
    refine zGo_s (pc' := 388) (st' := [.ref x1, .ref (a12 + 3), .ref (a11 + 17), .ref 1007]) dd97_387 rfl ?_
    refine cGF (e := (x1 + 1)) dd97_388 rfl (ck8_s hx1).1 (ck8_s hx1).2 rfl (cf8_1 hx1).1 ?_
    refine zGo_s (pc' := 392) (st' := [.ref x1, .ref (x1 + 1), .ref (a12 + 3), .ref (a11 + 17), .ref 1007]) dd97_391 rfl ?_
    refine cGI dd97_392 rfl (ck8_s hx1).1 (ck8_s hx1).2 rfl ?_
    refine zGo_s (pc' := 396) (st' := [.int (1 : Int32), .int (s.1 x1 10), .ref (x1 + 1), .ref (a12 + 3), .ref (a11 + 17), .ref 1007]) dd97_395 rfl ?_
    refine zGo_s (pc' := 397) (st' := [.int ((s.1 x1 10) - (1 : Int32)), .ref (x1 + 1), .ref (a12 + 3), .ref (a11 + 17), .ref 1007]) dd97_396 rfl ?_
    obtain ⟨hi, h⟩ := ochk h
    refine cIA dd97_397 (cf8_1 hx1).2.1 (cf8_1 hx1).2.2 hi ?_
    obtain ⟨hi, h⟩ := ochk h
    refine cIA dd97_398 (cf6_2 c_a12).2.1 (cf6_2 c_a12).2.2 hi ?_
    obtain ⟨hi, h⟩ := ochk h
    refine cIA dd97_399 (cf9_7 c_a11).2.1 (cf9_7 c_a11).2.2 hi ?_
    obtain ⟨u13, e_u13, h⟩ := olet h
    refine cPI dd97_400 rfl rfl rfl rfl rfl rfl e_u13 ?_
    refine zGo_s (pc' := 405) (st' := [.int (-3 : Int32)]) dd97_403 rfl ?_
    obtain ⟨rfl, rfl⟩ := oret h
    exact zGo_ret dd97_405 rfl rfl
  rcases oite h with ⟨hc, h⟩ | ⟨hn4, h⟩
  · refine zGo_lw dd97_27 (o := 293) (by rw [hc]; decide +kernel) rfl ?_
    exact zGo_lv (lv := [(0, .ref 1007), (2, .int x2), (3, .int v2), (4, .int v3)]) ⟨by simp, by simp, by simp⟩ (f97_320_ok hd h)
  rcases oite h with ⟨hc, h⟩ | ⟨hn5, h⟩
  · refine zGo_lw dd97_27 (o := 293) (by rw [hc]; decide +kernel) rfl ?_
    exact zGo_lv (lv := [(0, .ref 1007), (2, .int x2), (3, .int v2), (4, .int v3)]) ⟨by simp, by simp, by simp⟩ (f97_320_ok hd h)
  rcases oite h with ⟨hc, h⟩ | ⟨hn6, h⟩
  · refine zGo_lw dd97_27 (o := 212) (by rw [hc]; decide +kernel) rfl ?_
    refine zGo_s (pc' := 240) (st' := [.ref 1007]) dd97_239 rfl ?_
    refine cGF (e := 1009) dd97_240 rfl rfl rfl rfl rfl ?_
    refine zGo_s (pc' := 244) (st' := [.int v2, .ref 1009]) dd97_243 rfl ?_
    refine zGo_s (pc' := 246) (st' := [.int v3, .int v2, .ref 1009]) dd97_244 rfl ?_
    obtain ⟨v15, u14, hq, h⟩ := obnd h
    refine zCV1 (As := [.int v2, .int v3]) (rest := []) (b := 1009) (q' := q_100) dd97_246 rfl rfl (rcv_c rfl rfl (by decide)) rfl rfl rfl (f100_ok (d := d) (by omega)  hq) ?_
    obtain ⟨rfl, rfl⟩ := oret h
    exact zGo_ret dd97_249 rfl rfl
  rcases oite h with ⟨hc, h⟩ | ⟨hn7, h⟩
  · refine zGo_lw dd97_27 (o := 223) (by rw [hc]; decide +kernel) rfl ?_
    refine zGo_s (pc' := 251) (st' := [.ref 1007]) dd97_250 rfl ?_
    refine cGF (e := 1009) dd97_251 rfl rfl rfl rfl rfl ?_
    refine cGF (e := 1011) dd97_254 rfl rfl rfl rfl rfl ?_
    refine zGo_s (pc' := 258) (st' := [.int v2, .ref 1011]) dd97_257 rfl ?_
    refine zGo_s (pc' := 259) (st' := [.ref 1007, .int v2, .ref 1011]) dd97_258 rfl ?_
    refine cGF (e := 1009) dd97_259 rfl rfl rfl rfl rfl ?_
    refine cGF (e := 1011) dd97_262 rfl rfl rfl rfl rfl ?_
    refine zGo_s (pc' := 266) (st' := [.ref 1007, .ref 1011, .int v2, .ref 1011]) dd97_265 rfl ?_
    obtain ⟨a16, e_a16, c_a16, h⟩ := ordd h
    refine cGR dd97_266 rfl rfl rfl rfl e_a16 ?_
    refine cGF (e := (a16 + 3)) dd97_269 rfl (ck6_s c_a16).1 (ck6_s c_a16).2 rfl (cf6_2 c_a16).1 ?_
    refine zGo_s (pc' := 273) (st' := [.int x2, .ref (a16 + 3), .ref 1011, .int v2, .ref 1011]) dd97_272 rfl ?_
    obtain ⟨hi, h⟩ := ochk h
    refine cIA dd97_273 (cf6_2 c_a16).2.1 (cf6_2 c_a16).2.2 hi ?_
    obtain ⟨hi, h⟩ := ochk h
    refine cIA dd97_274 rfl rfl hi ?_
    obtain ⟨hi, h⟩ := ochk h
    obtain ⟨u17, e_u17, h⟩ := olet h
    refine cIS dd97_275 rfl rfl hi e_u17 ?_
    refine zGo_s (pc' := 277) (st' := [.int (0 : Int32)]) dd97_276 rfl ?_
    obtain ⟨rfl, rfl⟩ := oret h
    exact zGo_ret dd97_277 rfl rfl
  rcases oite h with ⟨hc, h⟩ | ⟨hn8, h⟩
  · refine zGo_lw dd97_27 (o := 251) (by rw [hc]; decide +kernel) rfl ?_
    refine zGo_s (pc' := 279) (st' := [.ref 1007]) dd97_278 rfl ?_
    refine cGF (e := 1009) dd97_279 rfl rfl rfl rfl rfl ?_
    refine cGF (e := 1011) dd97_282 rfl rfl rfl rfl rfl ?_
    refine zGo_s (pc' := 286) (st' := [.int v2, .ref 1011]) dd97_285 rfl ?_
    refine zGo_s (pc' := 287) (st' := [.int (-1 : Int32), .int v2, .ref 1011]) dd97_286 rfl ?_
    obtain ⟨hi, h⟩ := ochk h
    obtain ⟨u18, e_u18, h⟩ := olet h
    refine cIS dd97_287 rfl rfl hi e_u18 ?_
    refine zGo_s (pc' := 289) (st' := [.int (0 : Int32)]) dd97_288 rfl ?_
    obtain ⟨rfl, rfl⟩ := oret h
    exact zGo_ret dd97_289 rfl rfl
  rcases oite h with ⟨hc, h⟩ | ⟨hn9, h⟩
  · refine zGo_lw dd97_27 (o := 263) (by rw [hc]; decide +kernel) rfl ?_
    refine zGo_s (pc' := 291) (st' := [.ref 1007]) dd97_290 rfl ?_
    refine cGF (e := 1030) dd97_291 rfl rfl rfl rfl rfl ?_
    refine zGo_s (pc' := 296) (st' := [.int v3, .ref 1030]) dd97_294 rfl ?_
    obtain ⟨v20, u19, hq, h⟩ := obnd h
    refine zCV1 (As := [.int v3]) (rest := []) (b := 1030) (q' := q_104) dd97_296 rfl rfl (rcv_c rfl rfl (by decide)) rfl rfl rfl (f104_ok (d := d) (by omega)  hq) ?_
    obtain ⟨rfl, rfl⟩ := oret h
    exact zGo_ret dd97_299 rfl rfl
  rcases oite h with ⟨hc, h⟩ | ⟨hn10, h⟩
  · refine zGo_lw dd97_27 (o := 273) (by rw [hc]; decide +kernel) rfl ?_
    refine zGo_s (pc' := 302) (st' := [.int v3]) dd97_300 rfl ?_
    refine zGo_s (pc' := 303) (st' := [.int (1 : Int32), .int v3]) dd97_302 rfl ?_
    rcases oite h with ⟨hc, h⟩ | ⟨hc, h⟩
    · refine zIT dd97_303 rfl (kLtT hc) ?_
      exact zGo_lv (lv := []) ⟨by simp, by simp, by simp⟩ (f97_313_ok hd h)
    · refine zIF dd97_303 (kLtF hc) ?_
      refine zGo_s (pc' := 308) (st' := [.int v3]) dd97_306 rfl ?_
      refine zGo_s (pc' := 310) (st' := [.int (19 : Int32), .int v3]) dd97_308 rfl ?_
      rcases oite h with ⟨hc, h⟩ | ⟨hc, h⟩
      · refine zIF dd97_310 (kLeF hc) ?_
        exact zGo_lv (lv := []) ⟨by simp, by simp, by simp⟩ (f97_313_ok hd h)
      · refine zIT dd97_310 rfl (kLeT hc) ?_
        refine zGo_s (pc' := 319) (st' := [.int v3]) dd97_317 rfl ?_
        obtain ⟨rfl, rfl⟩ := oret h
        exact zGo_ret dd97_319 rfl rfl
  rcases oite h with ⟨hc, h⟩ | ⟨hn11, h⟩
  · refine zGo_lw dd97_27 (o := 379) (by rw [hc]; decide +kernel) rfl ?_
    exact zGo_lv (lv := [(0, .ref 1007), (1, .ref x1), (2, .int x2)]) ⟨by simp, by simp, by simp⟩ (f97_406_ok hd hx1 h)
  rcases oite h with ⟨hc, h⟩ | ⟨hn12, h⟩
  · refine zGo_lw dd97_27 (o := 386) (by rw [hc]; decide +kernel) rfl ?_
    refine zGo_s (pc' := 414) (st' := [.ref 1007]) dd97_413 rfl ?_
    refine cGF (e := 1014) dd97_414 rfl rfl rfl rfl rfl ?_
    refine zGo_s (pc' := 418) (st' := [.int v2, .ref 1014]) dd97_417 rfl ?_
    obtain ⟨v22, u21, hq, h⟩ := obnd h
    refine zCV1 (As := [.int v2]) (rest := []) (b := 1014) (q' := q_117) dd97_418 rfl rfl (rcv_c rfl rfl (by decide)) rfl rfl rfl (f117_ok (d := d) (by omega)  hq) ?_
    obtain ⟨rfl, rfl⟩ := oret h
    exact zGo_ret dd97_421 rfl rfl
  rcases oite h with ⟨hc, h⟩ | ⟨hn13, h⟩
  · refine zGo_lw dd97_27 (o := 379) (by rw [hc]; decide +kernel) rfl ?_
    exact zGo_lv (lv := [(0, .ref 1007), (1, .ref x1), (2, .int x2)]) ⟨by simp, by simp, by simp⟩ (f97_406_ok hd hx1 h)
  rcases oite h with ⟨hc, h⟩ | ⟨hn14, h⟩
  · refine zGo_lw dd97_27 (o := 395) (by rw [hc]; decide +kernel) rfl ?_
    refine zGo_s (pc' := 423) (st' := [.ref 1007]) dd97_422 rfl ?_
    refine cGF (e := 1014) dd97_423 rfl rfl rfl rfl rfl ?_
    refine zGo_s (pc' := 427) (st' := [.int v2, .ref 1014]) dd97_426 rfl ?_
    refine zGo_s (pc' := 428) (st' := [.ref x1, .int v2, .ref 1014]) dd97_427 rfl ?_
    refine cGI dd97_428 rfl (ck8_s hx1).1 (ck8_s hx1).2 rfl ?_
    obtain ⟨v24, u23, hq, h⟩ := obnd h
    refine zCV1 (As := [.int v2, .int (s.1 x1 0)]) (rest := []) (b := 1014) (q' := q_118) dd97_431 rfl rfl (rcv_c rfl rfl (by decide)) rfl rfl rfl (f118_ok (d := d) (by omega)  hq) ?_
    obtain ⟨rfl, rfl⟩ := oret h
    exact zGo_ret dd97_434 rfl rfl
  rcases oite h with ⟨hc, h⟩ | ⟨hn15, h⟩
  · refine zGo_lw dd97_27 (o := 379) (by rw [hc]; decide +kernel) rfl ?_
    exact zGo_lv (lv := [(0, .ref 1007), (1, .ref x1), (2, .int x2)]) ⟨by simp, by simp, by simp⟩ (f97_406_ok hd hx1 h)
  rcases oite h with ⟨hc, h⟩ | ⟨hn16, h⟩
  · refine zGo_lw dd97_27 (o := 408) (by rw [hc]; decide +kernel) rfl ?_
    refine zGo_s (pc' := 436) (st' := [.ref 1007]) dd97_435 rfl ?_
    refine cGF (e := 1014) dd97_436 rfl rfl rfl rfl rfl ?_
    refine zGo_s (pc' := 440) (st' := [.int v2, .ref 1014]) dd97_439 rfl ?_
    refine zGo_s (pc' := 441) (st' := [.ref x1, .int v2, .ref 1014]) dd97_440 rfl ?_
    refine cGI dd97_441 rfl (ck8_s hx1).1 (ck8_s hx1).2 rfl ?_
    obtain ⟨v26, u25, hq, h⟩ := obnd h
    refine zCV1 (As := [.int v2, .int (s.1 x1 0)]) (rest := []) (b := 1014) (q' := q_119) dd97_444 rfl rfl (rcv_c rfl rfl (by decide)) rfl rfl rfl (f119_ok (d := d) (by omega)  hq) ?_
    obtain ⟨rfl, rfl⟩ := oret h
    exact zGo_ret dd97_447 rfl rfl
  rcases oite h with ⟨hc, h⟩ | ⟨hn17, h⟩
  · refine zGo_lw dd97_27 (o := 379) (by rw [hc]; decide +kernel) rfl ?_
    exact zGo_lv (lv := [(0, .ref 1007), (1, .ref x1), (2, .int x2)]) ⟨by simp, by simp, by simp⟩ (f97_406_ok hd hx1 h)
  rcases oite h with ⟨hc, h⟩ | ⟨hn18, h⟩
  · refine zGo_lw dd97_27 (o := 421) (by rw [hc]; decide +kernel) rfl ?_
    refine zGo_s (pc' := 449) (st' := [.ref 1007]) dd97_448 rfl ?_
    refine cGF (e := 1014) dd97_449 rfl rfl rfl rfl rfl ?_
    refine zGo_s (pc' := 453) (st' := [.int v2, .ref 1014]) dd97_452 rfl ?_
    refine zGo_s (pc' := 455) (st' := [.int v3, .int v2, .ref 1014]) dd97_453 rfl ?_
    obtain ⟨v28, u27, hq, h⟩ := obnd h
    refine zCV1 (As := [.int v2, .int v3]) (rest := []) (b := 1014) (q' := q_120) dd97_455 rfl rfl (rcv_c rfl rfl (by decide)) rfl rfl rfl (f120_ok (d := d) (by omega)  hq) ?_
    obtain ⟨rfl, rfl⟩ := oret h
    exact zGo_ret dd97_458 rfl rfl
  rcases oite h with ⟨hc, h⟩ | ⟨hn19, h⟩
  · refine zGo_lw dd97_27 (o := 432) (by rw [hc]; decide +kernel) rfl ?_
    refine zGo_s (pc' := 460) (st' := [.ref 1007]) dd97_459 rfl ?_
    refine zGo_s (pc' := 461) (st' := [.int v2, .ref 1007]) dd97_460 rfl ?_
    obtain ⟨v30, u29, hq, h⟩ := obnd h
    refine zCV1 (As := [.int v2]) (rest := []) (b := 1007) (q' := q_121) dd97_461 rfl rfl (rcv_c rfl rfl (by decide)) rfl rfl rfl (f121_ok (d := d) (by omega)  hq) ?_
    refine zGo_s (pc' := 465) (st' := []) dd97_464 rfl ?_
    refine zGo_s (pc' := 466) (st' := [.int (0 : Int32)]) dd97_465 rfl ?_
    obtain ⟨rfl, rfl⟩ := oret h
    exact zGo_ret dd97_466 rfl rfl
  rcases oite h with ⟨hc, h⟩ | ⟨hn20, h⟩
  · refine zGo_lw dd97_27 (o := 440) (by rw [hc]; decide +kernel) rfl ?_
    refine zGo_s (pc' := 468) (st' := [.ref 1007]) dd97_467 rfl ?_
    refine zGo_s (pc' := 469) (st' := [.int v2, .ref 1007]) dd97_468 rfl ?_
    obtain ⟨v32, u31, hq, h⟩ := obnd h
    refine zCV1 (As := [.int v2]) (rest := []) (b := 1007) (q' := q_122) dd97_469 rfl rfl (rcv_c rfl rfl (by decide)) rfl rfl rfl (f122_ok (d := d) (by omega)  hq) ?_
    obtain ⟨rfl, rfl⟩ := oret h
    exact zGo_ret dd97_472 rfl rfl
  rcases oite h with ⟨hc, h⟩ | ⟨hn21, h⟩
  · refine zGo_lw dd97_27 (o := 446) (by rw [hc]; decide +kernel) rfl ?_
    refine zGo_s (pc' := 474) (st' := [.ref 1007]) dd97_473 rfl ?_
    refine cGF (e := 1022) dd97_474 rfl rfl rfl rfl rfl ?_
    refine cGF (e := 1027) dd97_477 rfl rfl rfl rfl rfl ?_
    refine zGo_s (pc' := 481) (st' := [.int v2, .ref 1027]) dd97_480 rfl ?_
    refine zGo_s (pc' := 482) (st' := [.int (0 : Int32), .int v2, .ref 1027]) dd97_481 rfl ?_
    obtain ⟨hi, h⟩ := ochk h
    obtain ⟨u33, e_u33, h⟩ := olet h
    refine cBS dd97_482 rfl rfl rfl hi e_u33 ?_
    refine zGo_s (pc' := 484) (st' := [.int (0 : Int32)]) dd97_483 rfl ?_
    obtain ⟨rfl, rfl⟩ := oret h
    exact zGo_ret dd97_484 rfl rfl
  refine zGo_lw dd97_27 (o := 458) (zlo_d (by decide +kernel) fun p hp => ?_) rfl ?_
  · simp only [List.mem_cons, List.not_mem_nil, or_false] at hp
    rcases hp with rfl | rfl | rfl | rfl | rfl | rfl | rfl | rfl | rfl | rfl | rfl | rfl | rfl | rfl | rfl | rfl | rfl | rfl | rfl | rfl | rfl | rfl
    · exact hn0
    · exact hn1
    · exact hn2
    · exact hn3
    · exact hn4
    · exact hn5
    · exact hn6
    · exact hn7
    · exact hn8
    · exact hn9
    · exact hn10
    · exact hn11
    · exact hn12
    · exact hn13
    · exact hn14
    · exact hn15
    · exact hn16
    · exact hn17
    · exact hn18
    · exact hn19
    · exact hn20
    · exact hn21
  refine zGo_s (pc' := 486) (st' := [.ref 1007]) dd97_485 rfl ?_
  refine zGo_s (pc' := 487) (st' := [.ref x1, .ref 1007]) dd97_486 rfl ?_
  refine zGo_s (pc' := 488) (st' := [.int x2, .ref x1, .ref 1007]) dd97_487 rfl ?_
  obtain ⟨v35, u34, hq, h⟩ := obnd h
  refine zCV1 (As := [.ref x1, .int x2]) (rest := []) (b := 1007) (q' := q_123) dd97_488 rfl rfl (rcv_c rfl rfl (by decide)) rfl rfl rfl (f123_ok (d := d) (by omega) hx1 hq) ?_
  obtain ⟨rfl, rfl⟩ := oret h
  exact zGo_ret dd97_491 rfl rfl
/-! PH$Diary.noteSignal(III)V -/
theorem dd128_0 : decode cX1_noteSignal 0 = .ok (.aload_n 0, 1) := by decide +kernel
theorem dd128_1 : decode cX1_noteSignal 1 = .ok (.getfield 22, 3) := by decide +kernel
theorem dd128_4 : decode cX1_noteSignal 4 = .ok (.bipush 100, 2) := by decide +kernel
theorem dd128_6 : decode cX1_noteSignal 6 = .ok (.if_icmp .ge 43, 3) := by decide +kernel
theorem dd128_9 : decode cX1_noteSignal 9 = .ok (.aload_n 0, 1) := by decide +kernel
theorem dd128_10 : decode cX1_noteSignal 10 = .ok (.getfield 15, 3) := by decide +kernel
theorem dd128_13 : decode cX1_noteSignal 13 = .ok (.iconst 3, 1) := by decide +kernel
theorem dd128_14 : decode cX1_noteSignal 14 = .ok (.aload_n 0, 1) := by decide +kernel
theorem dd128_15 : decode cX1_noteSignal 15 = .ok (.getfield 22, 3) := by decide +kernel
theorem dd128_18 : decode cX1_noteSignal 18 = .ok (.imul, 1) := by decide +kernel
theorem dd128_19 : decode cX1_noteSignal 19 = .ok (.iload_n 1, 1) := by decide +kernel
theorem dd128_20 : decode cX1_noteSignal 20 = .ok (.iastore, 1) := by decide +kernel
theorem dd128_21 : decode cX1_noteSignal 21 = .ok (.aload_n 0, 1) := by decide +kernel
theorem dd128_22 : decode cX1_noteSignal 22 = .ok (.getfield 15, 3) := by decide +kernel
theorem dd128_25 : decode cX1_noteSignal 25 = .ok (.iconst 3, 1) := by decide +kernel
theorem dd128_26 : decode cX1_noteSignal 26 = .ok (.aload_n 0, 1) := by decide +kernel
theorem dd128_27 : decode cX1_noteSignal 27 = .ok (.getfield 22, 3) := by decide +kernel
theorem dd128_30 : decode cX1_noteSignal 30 = .ok (.imul, 1) := by decide +kernel
theorem dd128_31 : decode cX1_noteSignal 31 = .ok (.iconst 1, 1) := by decide +kernel
theorem dd128_32 : decode cX1_noteSignal 32 = .ok (.iadd, 1) := by decide +kernel
theorem dd128_33 : decode cX1_noteSignal 33 = .ok (.iload_n 2, 1) := by decide +kernel
theorem dd128_34 : decode cX1_noteSignal 34 = .ok (.iastore, 1) := by decide +kernel
theorem dd128_35 : decode cX1_noteSignal 35 = .ok (.aload_n 0, 1) := by decide +kernel
theorem dd128_36 : decode cX1_noteSignal 36 = .ok (.getfield 15, 3) := by decide +kernel
theorem dd128_39 : decode cX1_noteSignal 39 = .ok (.iconst 3, 1) := by decide +kernel
theorem dd128_40 : decode cX1_noteSignal 40 = .ok (.aload_n 0, 1) := by decide +kernel
theorem dd128_41 : decode cX1_noteSignal 41 = .ok (.getfield 22, 3) := by decide +kernel
theorem dd128_44 : decode cX1_noteSignal 44 = .ok (.imul, 1) := by decide +kernel
theorem dd128_45 : decode cX1_noteSignal 45 = .ok (.iconst 2, 1) := by decide +kernel
theorem dd128_46 : decode cX1_noteSignal 46 = .ok (.iadd, 1) := by decide +kernel
theorem dd128_47 : decode cX1_noteSignal 47 = .ok (.iload_n 3, 1) := by decide +kernel
theorem dd128_48 : decode cX1_noteSignal 48 = .ok (.iastore, 1) := by decide +kernel
theorem dd128_49 : decode cX1_noteSignal 49 = .ok (.aload_n 0, 1) := by decide +kernel
theorem dd128_50 : decode cX1_noteSignal 50 = .ok (.dup, 1) := by decide +kernel
theorem dd128_51 : decode cX1_noteSignal 51 = .ok (.getfield 22, 3) := by decide +kernel
theorem dd128_54 : decode cX1_noteSignal 54 = .ok (.iconst 1, 1) := by decide +kernel
theorem dd128_55 : decode cX1_noteSignal 55 = .ok (.iadd, 1) := by decide +kernel
theorem dd128_56 : decode cX1_noteSignal 56 = .ok (.putfield 22, 3) := by decide +kernel
theorem dd128_59 : decode cX1_noteSignal 59 = .ok (.aload_n 0, 1) := by decide +kernel
theorem dd128_60 : decode cX1_noteSignal 60 = .ok (.dup, 1) := by decide +kernel
theorem dd128_61 : decode cX1_noteSignal 61 = .ok (.getfield 25, 3) := by decide +kernel
theorem dd128_64 : decode cX1_noteSignal 64 = .ok (.iconst 1, 1) := by decide +kernel
theorem dd128_65 : decode cX1_noteSignal 65 = .ok (.iadd, 1) := by decide +kernel
theorem dd128_66 : decode cX1_noteSignal 66 = .ok (.putfield 25, 3) := by decide +kernel
theorem dd128_69 : decode cX1_noteSignal 69 = .ok (.return_, 1) := by decide +kernel
def f128_49 (n : Nat) (s : zσ) : Option zσ :=
    zlet (sI s 1030 3 ((s.1 1030 3) + (1 : Int32))) fun u1 =>
    zlet (sI u1 1030 4 ((u1.1 1030 4) + (1 : Int32))) fun u2 =>
    some u2
set_option maxRecDepth 20000 in
theorem f128_49_ok {n d : Nat} {s : zσ} {s2 : zσ} (hd : 0 ≤ d) (h : f128_49 n s = some s2) {w : zσ} {fz : Bool} {L : Nat} {xs : Nat → Int32} : zGo (zX fz L xs) d q_128 (49, [(0, .ref 1030)], [], zmk s w, 0, 0) (none, zmk s2 w, 0, 0) := by
  unfold f128_49 at h
  refine zGo_s (pc' := 50) (st' := [.ref 1030]) dd128_49 rfl ?_
  refine zGo_s (pc' := 51) (st' := [.ref 1030, .ref 1030]) dd128_50 rfl ?_
  refine cGI dd128_51 rfl rfl rfl rfl ?_
  refine zGo_s (pc' := 55) (st' := [.int (1 : Int32), .int (s.1 1030 3), .ref 1030]) dd128_54 rfl ?_
  refine zGo_s (pc' := 56) (st' := [.int ((s.1 1030 3) + (1 : Int32)), .ref 1030]) dd128_55 rfl ?_
  obtain ⟨u1, e_u1, h⟩ := olet h
  refine cPI dd128_56 rfl rfl rfl rfl rfl rfl e_u1 ?_
  refine zGo_s (pc' := 60) (st' := [.ref 1030]) dd128_59 rfl ?_
  refine zGo_s (pc' := 61) (st' := [.ref 1030, .ref 1030]) dd128_60 rfl ?_
  refine cGI dd128_61 rfl rfl rfl rfl ?_
  refine zGo_s (pc' := 65) (st' := [.int (1 : Int32), .int (u1.1 1030 4), .ref 1030]) dd128_64 rfl ?_
  refine zGo_s (pc' := 66) (st' := [.int ((u1.1 1030 4) + (1 : Int32)), .ref 1030]) dd128_65 rfl ?_
  obtain ⟨u2, e_u2, h⟩ := olet h
  refine cPI dd128_66 rfl rfl rfl rfl rfl rfl e_u2 ?_
  obtain rfl := ore0 h
  exact zGo_ret dd128_69 rfl rfl
def f128 (n : Nat) (x1 : Int32) (x2 : Int32) (x3 : Int32) (s : zσ) : Option zσ :=
    if (s.1 1030 3) < (100 : Int32) then
    if zin? ((3 : Int32) * (s.1 1030 3)) 300 = true then
    zlet (sI s 1032 (nx ((3 : Int32) * (s.1 1030 3))) x1) fun u1 =>
    if zin? (((3 : Int32) * (u1.1 1030 3)) + (1 : Int32)) 300 = true then
    zlet (sI u1 1032 (nx (((3 : Int32) * (u1.1 1030 3)) + (1 : Int32))) x2) fun u2 =>
    if zin? (((3 : Int32) * (u2.1 1030 3)) + (2 : Int32)) 300 = true then
    zlet (sI u2 1032 (nx (((3 : Int32) * (u2.1 1030 3)) + (2 : Int32))) x3) fun u3 =>
    f128_49 n u3
    else none
    else none
    else none
    else f128_49 n s
set_option maxRecDepth 20000 in
theorem f128_ok {n d : Nat} {x1 : Int32} {x2 : Int32} {x3 : Int32} {s : zσ} {s2 : zσ} (hd : 0 ≤ d) (h : f128 n x1 x2 x3 s = some s2) {w : zσ} {fz : Bool} {L : Nat} {xs : Nat → Int32} : zGo (zX fz L xs) d q_128 (0, [(0, .ref 1030), (1, .int x1), (2, .int x2), (3, .int x3)], [], zmk s w, 0, 0) (none, zmk s2 w, 0, 0) := by
  unfold f128 at h
  refine zGo_s (pc' := 1) (st' := [.ref 1030]) dd128_0 rfl ?_
  refine cGI dd128_1 rfl rfl rfl rfl ?_
  refine zGo_s (pc' := 6) (st' := [.int (100 : Int32), .int (s.1 1030 3)]) dd128_4 rfl ?_
  rcases oite h with ⟨hc, h⟩ | ⟨hc, h⟩
  · refine zIF dd128_6 (kGeF hc) ?_
    refine zGo_s (pc' := 10) (st' := [.ref 1030]) dd128_9 rfl ?_
    refine cGF (e := 1032) dd128_10 rfl rfl rfl rfl rfl ?_
    refine zGo_s (pc' := 14) (st' := [.int (3 : Int32), .ref 1032]) dd128_13 rfl ?_
    refine zGo_s (pc' := 15) (st' := [.ref 1030, .int (3 : Int32), .ref 1032]) dd128_14 rfl ?_
    refine cGI dd128_15 rfl rfl rfl rfl ?_
    refine zGo_s (pc' := 19) (st' := [.int ((3 : Int32) * (s.1 1030 3)), .ref 1032]) dd128_18 rfl ?_
    refine zGo_s (pc' := 20) (st' := [.int x1, .int ((3 : Int32) * (s.1 1030 3)), .ref 1032]) dd128_19 rfl ?_
    obtain ⟨hi, h⟩ := ochk h
    obtain ⟨u1, e_u1, h⟩ := olet h
    refine cIS dd128_20 rfl rfl hi e_u1 ?_
    refine zGo_s (pc' := 22) (st' := [.ref 1030]) dd128_21 rfl ?_
    refine cGF (e := 1032) dd128_22 rfl rfl rfl rfl rfl ?_
    refine zGo_s (pc' := 26) (st' := [.int (3 : Int32), .ref 1032]) dd128_25 rfl ?_
    refine zGo_s (pc' := 27) (st' := [.ref 1030, .int (3 : Int32), .ref 1032]) dd128_26 rfl ?_
    refine cGI dd128_27 rfl rfl rfl rfl ?_
    refine zGo_s (pc' := 31) (st' := [.int ((3 : Int32) * (u1.1 1030 3)), .ref 1032]) dd128_30 rfl ?_
    refine zGo_s (pc' := 32) (st' := [.int (1 : Int32), .int ((3 : Int32) * (u1.1 1030 3)), .ref 1032]) dd128_31 rfl ?_
    refine zGo_s (pc' := 33) (st' := [.int (((3 : Int32) * (u1.1 1030 3)) + (1 : Int32)), .ref 1032]) dd128_32 rfl ?_
    refine zGo_s (pc' := 34) (st' := [.int x2, .int (((3 : Int32) * (u1.1 1030 3)) + (1 : Int32)), .ref 1032]) dd128_33 rfl ?_
    obtain ⟨hi, h⟩ := ochk h
    obtain ⟨u2, e_u2, h⟩ := olet h
    refine cIS dd128_34 rfl rfl hi e_u2 ?_
    refine zGo_s (pc' := 36) (st' := [.ref 1030]) dd128_35 rfl ?_
    refine cGF (e := 1032) dd128_36 rfl rfl rfl rfl rfl ?_
    refine zGo_s (pc' := 40) (st' := [.int (3 : Int32), .ref 1032]) dd128_39 rfl ?_
    refine zGo_s (pc' := 41) (st' := [.ref 1030, .int (3 : Int32), .ref 1032]) dd128_40 rfl ?_
    refine cGI dd128_41 rfl rfl rfl rfl ?_
    refine zGo_s (pc' := 45) (st' := [.int ((3 : Int32) * (u2.1 1030 3)), .ref 1032]) dd128_44 rfl ?_
    refine zGo_s (pc' := 46) (st' := [.int (2 : Int32), .int ((3 : Int32) * (u2.1 1030 3)), .ref 1032]) dd128_45 rfl ?_
    refine zGo_s (pc' := 47) (st' := [.int (((3 : Int32) * (u2.1 1030 3)) + (2 : Int32)), .ref 1032]) dd128_46 rfl ?_
    refine zGo_s (pc' := 48) (st' := [.int x3, .int (((3 : Int32) * (u2.1 1030 3)) + (2 : Int32)), .ref 1032]) dd128_47 rfl ?_
    obtain ⟨hi, h⟩ := ochk h
    obtain ⟨u3, e_u3, h⟩ := olet h
    refine cIS dd128_48 rfl rfl hi e_u3 ?_
    exact zGo_lv (lv := [(0, .ref 1030)]) ⟨by simp, by simp, by simp⟩ (f128_49_ok hd h)
  · refine zIT dd128_6 rfl (kGeT hc) ?_
    exact zGo_lv (lv := [(0, .ref 1030)]) ⟨by simp, by simp, by simp⟩ (f128_49_ok hd h)
