/-! PHModel.meanings()V -/
theorem dd203_0 : decode cX13_meanings 0 = .ok (.aload_n 0, 1) := by decide +kernel
theorem dd203_1 : decode cX13_meanings 1 = .ok (.getfield 24, 3) := by decide +kernel
theorem dd203_4 : decode cX13_meanings 4 = .ok (.astore_n 1, 1) := by decide +kernel
theorem dd203_5 : decode cX13_meanings 5 = .ok (.iconst 0, 1) := by decide +kernel
theorem dd203_6 : decode cX13_meanings 6 = .ok (.istore_n 2, 1) := by decide +kernel
theorem dd203_7 : decode cX13_meanings 7 = .ok (.iload_n 2, 1) := by decide +kernel
theorem dd203_8 : decode cX13_meanings 8 = .ok (.aload_n 1, 1) := by decide +kernel
theorem dd203_9 : decode cX13_meanings 9 = .ok (.getfield 252, 3) := by decide +kernel
theorem dd203_12 : decode cX13_meanings 12 = .ok (.if_icmp .ge 215, 3) := by decide +kernel
theorem dd203_15 : decode cX13_meanings 15 = .ok (.aload_n 0, 1) := by decide +kernel
theorem dd203_16 : decode cX13_meanings 16 = .ok (.invokevirtual 223, 3) := by decide +kernel
theorem dd203_19 : decode cX13_meanings 19 = .ok (.ifCond .eq 208, 3) := by decide +kernel
theorem dd203_22 : decode cX13_meanings 22 = .ok (.iconst (-1), 1) := by decide +kernel
theorem dd203_23 : decode cX13_meanings 23 = .ok (.istore_n 3, 1) := by decide +kernel
theorem dd203_24 : decode cX13_meanings 24 = .ok (.iconst (-1), 1) := by decide +kernel
theorem dd203_25 : decode cX13_meanings 25 = .ok (.istore 4, 2) := by decide +kernel
theorem dd203_27 : decode cX13_meanings 27 = .ok (.iconst 0, 1) := by decide +kernel
theorem dd203_28 : decode cX13_meanings 28 = .ok (.istore 5, 2) := by decide +kernel
theorem dd203_30 : decode cX13_meanings 30 = .ok (.iload 5, 2) := by decide +kernel
theorem dd203_32 : decode cX13_meanings 32 = .ok (.aload_n 1, 1) := by decide +kernel
theorem dd203_33 : decode cX13_meanings 33 = .ok (.getfield 273, 3) := by decide +kernel
theorem dd203_36 : decode cX13_meanings 36 = .ok (.if_icmp .ge 43, 3) := by decide +kernel
theorem dd203_39 : decode cX13_meanings 39 = .ok (.aload_n 1, 1) := by decide +kernel
theorem dd203_40 : decode cX13_meanings 40 = .ok (.getfield 276, 3) := by decide +kernel
theorem dd203_43 : decode cX13_meanings 43 = .ok (.iload 5, 2) := by decide +kernel
theorem dd203_45 : decode cX13_meanings 45 = .ok (.laload, 1) := by decide +kernel
theorem dd203_46 : decode cX13_meanings 46 = .ok (.aload_n 1, 1) := by decide +kernel
theorem dd203_47 : decode cX13_meanings 47 = .ok (.getfield 249, 3) := by decide +kernel
theorem dd203_50 : decode cX13_meanings 50 = .ok (.iload_n 2, 1) := by decide +kernel
theorem dd203_51 : decode cX13_meanings 51 = .ok (.laload, 1) := by decide +kernel
theorem dd203_52 : decode cX13_meanings 52 = .ok (.lcmp, 1) := by decide +kernel
theorem dd203_53 : decode cX13_meanings 53 = .ok (.ifCond .ne 20, 3) := by decide +kernel
theorem dd203_56 : decode cX13_meanings 56 = .ok (.aload_n 1, 1) := by decide +kernel
theorem dd203_57 : decode cX13_meanings 57 = .ok (.getfield 279, 3) := by decide +kernel
theorem dd203_60 : decode cX13_meanings 60 = .ok (.iload 5, 2) := by decide +kernel
theorem dd203_62 : decode cX13_meanings 62 = .ok (.iaload, 1) := by decide +kernel
theorem dd203_63 : decode cX13_meanings 63 = .ok (.istore_n 3, 1) := by decide +kernel
theorem dd203_64 : decode cX13_meanings 64 = .ok (.aload_n 1, 1) := by decide +kernel
theorem dd203_65 : decode cX13_meanings 65 = .ok (.getfield 282, 3) := by decide +kernel
theorem dd203_68 : decode cX13_meanings 68 = .ok (.iload 5, 2) := by decide +kernel
theorem dd203_70 : decode cX13_meanings 70 = .ok (.iaload, 1) := by decide +kernel
theorem dd203_71 : decode cX13_meanings 71 = .ok (.istore 4, 2) := by decide +kernel
theorem dd203_73 : decode cX13_meanings 73 = .ok (.iinc 5 1, 3) := by decide +kernel
theorem dd203_76 : decode cX13_meanings 76 = .ok (.goto (-46), 3) := by decide +kernel
theorem dd203_79 : decode cX13_meanings 79 = .ok (.aload_n 1, 1) := by decide +kernel
theorem dd203_80 : decode cX13_meanings 80 = .ok (.getfield 261, 3) := by decide +kernel
theorem dd203_83 : decode cX13_meanings 83 = .ok (.iload_n 2, 1) := by decide +kernel
theorem dd203_84 : decode cX13_meanings 84 = .ok (.iaload, 1) := by decide +kernel
theorem dd203_85 : decode cX13_meanings 85 = .ok (.istore 5, 2) := by decide +kernel
theorem dd203_87 : decode cX13_meanings 87 = .ok (.iconst 0, 1) := by decide +kernel
theorem dd203_88 : decode cX13_meanings 88 = .ok (.istore 6, 2) := by decide +kernel
theorem dd203_90 : decode cX13_meanings 90 = .ok (.iload 5, 2) := by decide +kernel
theorem dd203_92 : decode cX13_meanings 92 = .ok (.iconst (-1), 1) := by decide +kernel
theorem dd203_93 : decode cX13_meanings 93 = .ok (.if_icmp .eq 50, 3) := by decide +kernel
theorem dd203_96 : decode cX13_meanings 96 = .ok (.iload 6, 2) := by decide +kernel
theorem dd203_98 : decode cX13_meanings 98 = .ok (.aload_n 1, 1) := by decide +kernel
theorem dd203_99 : decode cX13_meanings 99 = .ok (.getfield 493, 3) := by decide +kernel
theorem dd203_102 : decode cX13_meanings 102 = .ok (.iload 5, 2) := by decide +kernel
theorem dd203_104 : decode cX13_meanings 104 = .ok (.iaload, 1) := by decide +kernel
theorem dd203_105 : decode cX13_meanings 105 = .ok (.if_icmp .ge 38, 3) := by decide +kernel
theorem dd203_108 : decode cX13_meanings 108 = .ok (.aload_n 1, 1) := by decide +kernel
theorem dd203_109 : decode cX13_meanings 109 = .ok (.getfield 490, 3) := by decide +kernel
theorem dd203_112 : decode cX13_meanings 112 = .ok (.iconst 3, 1) := by decide +kernel
theorem dd203_113 : decode cX13_meanings 113 = .ok (.iload 5, 2) := by decide +kernel
theorem dd203_115 : decode cX13_meanings 115 = .ok (.imul, 1) := by decide +kernel
theorem dd203_116 : decode cX13_meanings 116 = .ok (.iload 6, 2) := by decide +kernel
theorem dd203_118 : decode cX13_meanings 118 = .ok (.iadd, 1) := by decide +kernel
theorem dd203_119 : decode cX13_meanings 119 = .ok (.laload, 1) := by decide +kernel
theorem dd203_120 : decode cX13_meanings 120 = .ok (.aload_n 1, 1) := by decide +kernel
theorem dd203_121 : decode cX13_meanings 121 = .ok (.getfield 249, 3) := by decide +kernel
theorem dd203_124 : decode cX13_meanings 124 = .ok (.iload_n 2, 1) := by decide +kernel
theorem dd203_125 : decode cX13_meanings 125 = .ok (.laload, 1) := by decide +kernel
theorem dd203_126 : decode cX13_meanings 126 = .ok (.lcmp, 1) := by decide +kernel
theorem dd203_127 : decode cX13_meanings 127 = .ok (.ifCond .ne 10, 3) := by decide +kernel
theorem dd203_130 : decode cX13_meanings 130 = .ok (.bipush 9, 2) := by decide +kernel
theorem dd203_132 : decode cX13_meanings 132 = .ok (.istore_n 3, 1) := by decide +kernel
theorem dd203_133 : decode cX13_meanings 133 = .ok (.iload 6, 2) := by decide +kernel
theorem dd203_135 : decode cX13_meanings 135 = .ok (.istore 4, 2) := by decide +kernel
theorem dd203_137 : decode cX13_meanings 137 = .ok (.iinc 6 1, 3) := by decide +kernel
theorem dd203_140 : decode cX13_meanings 140 = .ok (.goto (-50), 3) := by decide +kernel
theorem dd203_143 : decode cX13_meanings 143 = .ok (.aload_n 1, 1) := by decide +kernel
theorem dd203_144 : decode cX13_meanings 144 = .ok (.getfield 258, 3) := by decide +kernel
theorem dd203_147 : decode cX13_meanings 147 = .ok (.iload_n 2, 1) := by decide +kernel
theorem dd203_148 : decode cX13_meanings 148 = .ok (.iaload, 1) := by decide +kernel
theorem dd203_149 : decode cX13_meanings 149 = .ok (.bipush 10, 2) := by decide +kernel
theorem dd203_151 : decode cX13_meanings 151 = .ok (.if_icmp .ne 21, 3) := by decide +kernel
theorem dd203_154 : decode cX13_meanings 154 = .ok (.iload_n 3, 1) := by decide +kernel
theorem dd203_155 : decode cX13_meanings 155 = .ok (.ifCond .eq 9, 3) := by decide +kernel
theorem dd203_158 : decode cX13_meanings 158 = .ok (.iload_n 3, 1) := by decide +kernel
theorem dd203_159 : decode cX13_meanings 159 = .ok (.bipush 9, 2) := by decide +kernel
theorem dd203_161 : decode cX13_meanings 161 = .ok (.if_icmp .ne 7, 3) := by decide +kernel
theorem dd203_164 : decode cX13_meanings 164 = .ok (.iconst 1, 1) := by decide +kernel
theorem dd203_165 : decode cX13_meanings 165 = .ok (.goto 22, 3) := by decide +kernel
theorem dd203_168 : decode cX13_meanings 168 = .ok (.iconst 0, 1) := by decide +kernel
theorem dd203_169 : decode cX13_meanings 169 = .ok (.goto 18, 3) := by decide +kernel
theorem dd203_172 : decode cX13_meanings 172 = .ok (.iload_n 3, 1) := by decide +kernel
theorem dd203_173 : decode cX13_meanings 173 = .ok (.aload_n 1, 1) := by decide +kernel
theorem dd203_174 : decode cX13_meanings 174 = .ok (.getfield 258, 3) := by decide +kernel
theorem dd203_177 : decode cX13_meanings 177 = .ok (.iload_n 2, 1) := by decide +kernel
theorem dd203_178 : decode cX13_meanings 178 = .ok (.iaload, 1) := by decide +kernel
theorem dd203_179 : decode cX13_meanings 179 = .ok (.if_icmp .ne 7, 3) := by decide +kernel
theorem dd203_182 : decode cX13_meanings 182 = .ok (.iconst 1, 1) := by decide +kernel
theorem dd203_183 : decode cX13_meanings 183 = .ok (.goto 4, 3) := by decide +kernel
theorem dd203_186 : decode cX13_meanings 186 = .ok (.iconst 0, 1) := by decide +kernel
theorem dd203_187 : decode cX13_meanings 187 = .ok (.istore 6, 2) := by decide +kernel
theorem dd203_189 : decode cX13_meanings 189 = .ok (.iload 6, 2) := by decide +kernel
theorem dd203_191 : decode cX13_meanings 191 = .ok (.ifCond .ne 15, 3) := by decide +kernel
theorem dd203_194 : decode cX13_meanings 194 = .ok (.aload_n 0, 1) := by decide +kernel
theorem dd203_195 : decode cX13_meanings 195 = .ok (.bipush 6, 2) := by decide +kernel
theorem dd203_197 : decode cX13_meanings 197 = .ok (.aload_n 1, 1) := by decide +kernel
theorem dd203_198 : decode cX13_meanings 198 = .ok (.getfield 255, 3) := by decide +kernel
theorem dd203_201 : decode cX13_meanings 201 = .ok (.iload_n 2, 1) := by decide +kernel
theorem dd203_202 : decode cX13_meanings 202 = .ok (.iaload, 1) := by decide +kernel
theorem dd203_203 : decode cX13_meanings 203 = .ok (.invokevirtual 215, 3) := by decide +kernel
theorem dd203_206 : decode cX13_meanings 206 = .ok (.aload_n 1, 1) := by decide +kernel
theorem dd203_207 : decode cX13_meanings 207 = .ok (.getfield 541, 3) := by decide +kernel
theorem dd203_210 : decode cX13_meanings 210 = .ok (.iload_n 2, 1) := by decide +kernel
theorem dd203_211 : decode cX13_meanings 211 = .ok (.iload_n 3, 1) := by decide +kernel
theorem dd203_212 : decode cX13_meanings 212 = .ok (.iastore, 1) := by decide +kernel
theorem dd203_213 : decode cX13_meanings 213 = .ok (.aload_n 1, 1) := by decide +kernel
theorem dd203_214 : decode cX13_meanings 214 = .ok (.getfield 544, 3) := by decide +kernel
theorem dd203_217 : decode cX13_meanings 217 = .ok (.iload_n 2, 1) := by decide +kernel
theorem dd203_218 : decode cX13_meanings 218 = .ok (.iload 4, 2) := by decide +kernel
theorem dd203_220 : decode cX13_meanings 220 = .ok (.iastore, 1) := by decide +kernel
theorem dd203_221 : decode cX13_meanings 221 = .ok (.iinc 2 1, 3) := by decide +kernel
theorem dd203_224 : decode cX13_meanings 224 = .ok (.goto (-217), 3) := by decide +kernel
theorem dd203_227 : decode cX13_meanings 227 = .ok (.iconst 0, 1) := by decide +kernel
theorem dd203_228 : decode cX13_meanings 228 = .ok (.istore_n 2, 1) := by decide +kernel
theorem dd203_229 : decode cX13_meanings 229 = .ok (.iload_n 2, 1) := by decide +kernel
theorem dd203_230 : decode cX13_meanings 230 = .ok (.aload_n 1, 1) := by decide +kernel
theorem dd203_231 : decode cX13_meanings 231 = .ok (.getfield 252, 3) := by decide +kernel
theorem dd203_234 : decode cX13_meanings 234 = .ok (.if_icmp .ge 58, 3) := by decide +kernel
theorem dd203_237 : decode cX13_meanings 237 = .ok (.aload_n 0, 1) := by decide +kernel
theorem dd203_238 : decode cX13_meanings 238 = .ok (.invokevirtual 223, 3) := by decide +kernel
theorem dd203_241 : decode cX13_meanings 241 = .ok (.ifCond .eq 51, 3) := by decide +kernel
theorem dd203_244 : decode cX13_meanings 244 = .ok (.aload_n 1, 1) := by decide +kernel
theorem dd203_245 : decode cX13_meanings 245 = .ok (.getfield 267, 3) := by decide +kernel
theorem dd203_248 : decode cX13_meanings 248 = .ok (.iload_n 2, 1) := by decide +kernel
theorem dd203_249 : decode cX13_meanings 249 = .ok (.iaload, 1) := by decide +kernel
theorem dd203_250 : decode cX13_meanings 250 = .ok (.iconst (-1), 1) := by decide +kernel
theorem dd203_251 : decode cX13_meanings 251 = .ok (.if_icmp .eq 35, 3) := by decide +kernel
theorem dd203_254 : decode cX13_meanings 254 = .ok (.aload_n 1, 1) := by decide +kernel
theorem dd203_255 : decode cX13_meanings 255 = .ok (.getfield 267, 3) := by decide +kernel
theorem dd203_258 : decode cX13_meanings 258 = .ok (.iload_n 2, 1) := by decide +kernel
theorem dd203_259 : decode cX13_meanings 259 = .ok (.iaload, 1) := by decide +kernel
theorem dd203_260 : decode cX13_meanings 260 = .ok (.aload_n 1, 1) := by decide +kernel
theorem dd203_261 : decode cX13_meanings 261 = .ok (.getfield 493, 3) := by decide +kernel
theorem dd203_264 : decode cX13_meanings 264 = .ok (.aload_n 1, 1) := by decide +kernel
theorem dd203_265 : decode cX13_meanings 265 = .ok (.getfield 544, 3) := by decide +kernel
theorem dd203_268 : decode cX13_meanings 268 = .ok (.iload_n 2, 1) := by decide +kernel
theorem dd203_269 : decode cX13_meanings 269 = .ok (.iaload, 1) := by decide +kernel
theorem dd203_270 : decode cX13_meanings 270 = .ok (.iaload, 1) := by decide +kernel
theorem dd203_271 : decode cX13_meanings 271 = .ok (.if_icmp .eq 15, 3) := by decide +kernel
theorem dd203_274 : decode cX13_meanings 274 = .ok (.aload_n 0, 1) := by decide +kernel
theorem dd203_275 : decode cX13_meanings 275 = .ok (.bipush 7, 2) := by decide +kernel
theorem dd203_277 : decode cX13_meanings 277 = .ok (.aload_n 1, 1) := by decide +kernel
theorem dd203_278 : decode cX13_meanings 278 = .ok (.getfield 255, 3) := by decide +kernel
theorem dd203_281 : decode cX13_meanings 281 = .ok (.iload_n 2, 1) := by decide +kernel
theorem dd203_282 : decode cX13_meanings 282 = .ok (.iaload, 1) := by decide +kernel
theorem dd203_283 : decode cX13_meanings 283 = .ok (.invokevirtual 215, 3) := by decide +kernel
theorem dd203_286 : decode cX13_meanings 286 = .ok (.iinc 2 1, 3) := by decide +kernel
theorem dd203_289 : decode cX13_meanings 289 = .ok (.goto (-60), 3) := by decide +kernel
theorem dd203_292 : decode cX13_meanings 292 = .ok (.return_, 1) := by decide +kernel
def f203_286 (n : Nat) (r229 : Nat → Int32 → zσ → Option zσ) (x1 : Nat) (x2 : Int32) (s : zσ) : Option zσ :=
    r229 x1 (x2 + (1 : Int32)) s
set_option maxRecDepth 20000 in
theorem f203_286_ok {n d : Nat} {r229 : Nat → Int32 → zσ → Option zσ} {x1 : Nat} {x2 : Int32} {s : zσ} {s2 : zσ} (hd : 1 ≤ d) (hr229 : ∀ (x1 : Nat) (x2 : Int32) (s : zσ) (s2 : zσ), zck 12 x1 = true → r229 x1 x2 s = some s2 → ∀ {w : zσ} {fz : Bool} {L : Nat} {xs : Nat → Int32}, zGo (zX fz L xs) d q_203 (229, [(0, .ref 1132), (1, .ref x1), (2, .int x2)], [], zmk w s, 0, 0) (none, zmk w s2, 0, 0)) (hx1 : zck 12 x1 = true) (h : f203_286 n r229 x1 x2 s = some s2) {w : zσ} {fz : Bool} {L : Nat} {xs : Nat → Int32} : zGo (zX fz L xs) d q_203 (286, [(0, .ref 1132), (1, .ref x1), (2, .int x2)], [], zmk w s, 0, 0) (none, zmk w s2, 0, 0) := by
  obtain ⟨d, rfl⟩ : ∃ d0, d = d0 + 1 := ⟨d - 1, by omega⟩
  unfold f203_286 at h
  refine zGo_s (pc' := 289) (st' := []) (lv' := [(2, .int (x2 + (1 : Int32))), (0, .ref 1132), (1, .ref x1)]) dd203_286 rfl ?_
  refine zGo_s (pc' := 229) (st' := []) dd203_289 rfl ?_
  exact zGo_lv (lv := [(0, .ref 1132), (1, .ref x1), (2, .int (x2 + (1 : Int32)))]) ⟨by simp, by simp, by simp⟩ (hr229 _ _ _ _ hx1 h)
def f203_229 (n : Nat) : Nat → Nat → Int32 → zσ → Option zσ
  | 0, _, _, _ => none
  | j + 1, x1, x2, s =>
    if x2 < (s.1 x1 34) then
    yb1 (f167 n s) fun v2 u1 =>
    if v2 = (0 : Int32) then
    some u1
    else if zin? x2 1400 = true then
    if (u1.1 (x1 + 35) (nx x2)) = (-1 : Int32) then
    f203_286 n (f203_229 n j) x1 x2 u1
    else if zin? x2 1400 = true then
    if zin? x2 1400 = true then
    if zin? (u1.1 (x1 + 33) (nx x2)) 6 = true then
    if (u1.1 (x1 + 35) (nx x2)) = (u1.1 (x1 + 11) (nx (u1.1 (x1 + 33) (nx x2)))) then
    f203_286 n (f203_229 n j) x1 x2 u1
    else if zin? x2 1400 = true then
    yb0 (f173 n (7 : Int32) (u1.1 (x1 + 30) (nx x2)) u1) fun u3 =>
    f203_286 n (f203_229 n j) x1 x2 u3
    else none
    else none
    else none
    else none
    else none
    else some s
set_option maxRecDepth 20000 in
theorem f203_229_ok {n d : Nat} (hd : 1 ≤ d) : ∀ (j : Nat) (x1 : Nat) (x2 : Int32) (s : zσ) (s2 : zσ), zck 12 x1 = true → f203_229 n j x1 x2 s = some s2 → ∀ {w : zσ} {fz : Bool} {L : Nat} {xs : Nat → Int32}, zGo (zX fz L xs) d q_203 (229, [(0, .ref 1132), (1, .ref x1), (2, .int x2)], [], zmk w s, 0, 0) (none, zmk w s2, 0, 0) := by
  obtain ⟨d, rfl⟩ : ∃ d0, d = d0 + 1 := ⟨d - 1, by omega⟩
  intro j
  induction j with
  | zero => intro x1 x2 s s2 hx1 h; cases h
  | succ j ih =>
    intro x1 x2 s s2 hx1 h w fz L xs
    rw [f203_229] at h
    refine zGo_s (pc' := 230) (st' := [.int x2]) dd203_229 rfl ?_
    refine zGo_s (pc' := 231) (st' := [.ref x1, .int x2]) dd203_230 rfl ?_
    refine mGI dd203_231 rfl (ck12_s hx1).1 (ck12_s hx1).2 rfl ?_
    rcases oite h with ⟨hc, h⟩ | ⟨hc, h⟩
    · refine zIF dd203_234 (kGeF hc) ?_
      refine zGo_s (pc' := 238) (st' := [.ref 1132]) dd203_237 rfl ?_
      obtain ⟨v2, u1, hq, h⟩ := obnd h
      refine zCV1 (As := []) (rest := []) (b := 1132) (q' := q_167) dd203_238 rfl rfl (rcv_m rfl rfl (by decide)) rfl rfl rfl (f167_ok (d := d) (by omega)  hq) ?_
      rcases oite h with ⟨hc, h⟩ | ⟨hc, h⟩
      · refine zUT dd203_241 rfl (kEqT hc) ?_
        obtain rfl := ore0 h
        exact zGo_ret dd203_292 rfl rfl
      · refine zUF dd203_241 (kEqF hc) ?_
        refine zGo_s (pc' := 245) (st' := [.ref x1]) dd203_244 rfl ?_
        refine mGF (e := (x1 + 35)) dd203_245 rfl (ck12_s hx1).1 (ck12_s hx1).2 rfl (cf12_41 hx1).1 ?_
        refine zGo_s (pc' := 249) (st' := [.int x2, .ref (x1 + 35)]) dd203_248 rfl ?_
        obtain ⟨hi, h⟩ := ochk h
        refine mIA dd203_249 (cf12_41 hx1).2.1 (cf12_41 hx1).2.2 hi ?_
        refine zGo_s (pc' := 251) (st' := [.int (-1 : Int32), .int (u1.1 (x1 + 35) (nx x2))]) dd203_250 rfl ?_
        rcases oite h with ⟨hc, h⟩ | ⟨hc, h⟩
        · refine zIT dd203_251 rfl (kEqT hc) ?_
          exact f203_286_ok hd ih hx1 h
        · refine zIF dd203_251 (kEqF hc) ?_
          refine zGo_s (pc' := 255) (st' := [.ref x1]) dd203_254 rfl ?_
          refine mGF (e := (x1 + 35)) dd203_255 rfl (ck12_s hx1).1 (ck12_s hx1).2 rfl (cf12_41 hx1).1 ?_
          refine zGo_s (pc' := 259) (st' := [.int x2, .ref (x1 + 35)]) dd203_258 rfl ?_
          obtain ⟨hi, h⟩ := ochk h
          refine mIA dd203_259 (cf12_41 hx1).2.1 (cf12_41 hx1).2.2 hi ?_
          refine zGo_s (pc' := 261) (st' := [.ref x1, .int (u1.1 (x1 + 35) (nx x2))]) dd203_260 rfl ?_
          refine mGF (e := (x1 + 11)) dd203_261 rfl (ck12_s hx1).1 (ck12_s hx1).2 rfl (cf12_11 hx1).1 ?_
          refine zGo_s (pc' := 265) (st' := [.ref x1, .ref (x1 + 11), .int (u1.1 (x1 + 35) (nx x2))]) dd203_264 rfl ?_
          refine mGF (e := (x1 + 33)) dd203_265 rfl (ck12_s hx1).1 (ck12_s hx1).2 rfl (cf12_39 hx1).1 ?_
          refine zGo_s (pc' := 269) (st' := [.int x2, .ref (x1 + 33), .ref (x1 + 11), .int (u1.1 (x1 + 35) (nx x2))]) dd203_268 rfl ?_
          obtain ⟨hi, h⟩ := ochk h
          refine mIA dd203_269 (cf12_39 hx1).2.1 (cf12_39 hx1).2.2 hi ?_
          obtain ⟨hi, h⟩ := ochk h
          refine mIA dd203_270 (cf12_11 hx1).2.1 (cf12_11 hx1).2.2 hi ?_
          rcases oite h with ⟨hc, h⟩ | ⟨hc, h⟩
          · refine zIT dd203_271 rfl (kEqT hc) ?_
            exact f203_286_ok hd ih hx1 h
          · refine zIF dd203_271 (kEqF hc) ?_
            refine zGo_s (pc' := 275) (st' := [.ref 1132]) dd203_274 rfl ?_
            refine zGo_s (pc' := 277) (st' := [.int (7 : Int32), .ref 1132]) dd203_275 rfl ?_
            refine zGo_s (pc' := 278) (st' := [.ref x1, .int (7 : Int32), .ref 1132]) dd203_277 rfl ?_
            refine mGF (e := (x1 + 30)) dd203_278 rfl (ck12_s hx1).1 (ck12_s hx1).2 rfl (cf12_36 hx1).1 ?_
            refine zGo_s (pc' := 282) (st' := [.int x2, .ref (x1 + 30), .int (7 : Int32), .ref 1132]) dd203_281 rfl ?_
            obtain ⟨hi, h⟩ := ochk h
            refine mIA dd203_282 (cf12_36 hx1).2.1 (cf12_36 hx1).2.2 hi ?_
            obtain ⟨u3, hq, h⟩ := obn0 h
            refine zCV0 (As := [.int (7 : Int32), .int (u1.1 (x1 + 30) (nx x2))]) (rest := []) (b := 1132) (q' := q_173) dd203_283 rfl rfl (rcv_m rfl rfl (by decide)) rfl rfl rfl (f173_ok (d := d) (by omega)  hq) ?_
            exact f203_286_ok hd ih hx1 h
    · refine zIT dd203_234 rfl (kGeT hc) ?_
      obtain rfl := ore0 h
      exact zGo_ret dd203_292 rfl rfl
def f203_227 (n : Nat) (x1 : Nat) (s : zσ) : Option zσ :=
    f203_229 n n x1 (0 : Int32) s
set_option maxRecDepth 20000 in
theorem f203_227_ok {n d : Nat} {x1 : Nat} {s : zσ} {s2 : zσ} (hd : 1 ≤ d) (hx1 : zck 12 x1 = true) (h : f203_227 n x1 s = some s2) {w : zσ} {fz : Bool} {L : Nat} {xs : Nat → Int32} : zGo (zX fz L xs) d q_203 (227, [(0, .ref 1132), (1, .ref x1)], [], zmk w s, 0, 0) (none, zmk w s2, 0, 0) := by
  obtain ⟨d, rfl⟩ : ∃ d0, d = d0 + 1 := ⟨d - 1, by omega⟩
  unfold f203_227 at h
  refine zGo_s (pc' := 228) (st' := [.int (0 : Int32)]) dd203_227 rfl ?_
  refine zGo_s (pc' := 229) (st' := []) (lv' := [(2, .int (0 : Int32)), (0, .ref 1132), (1, .ref x1)]) dd203_228 rfl ?_
  exact zGo_lv (lv := [(0, .ref 1132), (1, .ref x1), (2, .int (0 : Int32))]) ⟨by simp, by simp, by simp⟩ (f203_229_ok hd _ _ _ _ _ hx1 h)
def f203_206 (n : Nat) (r7 : Nat → Int32 → zσ → Option zσ) (x1 : Nat) (x2 : Int32) (x3 : Int32) (x4 : Int32) (s : zσ) : Option zσ :=
    if zin? x2 1400 = true then
    zlet (sI s (x1 + 34) (nx x2) x3) fun u1 =>
    if zin? x2 1400 = true then
    zlet (sI u1 (x1 + 33) (nx x2) x4) fun u2 =>
    r7 x1 (x2 + (1 : Int32)) u2
    else none
    else none
set_option maxRecDepth 20000 in
theorem f203_206_ok {n d : Nat} {r7 : Nat → Int32 → zσ → Option zσ} {x1 : Nat} {x2 : Int32} {x3 : Int32} {x4 : Int32} {s : zσ} {s2 : zσ} (hd : 1 ≤ d) (hr7 : ∀ (x1 : Nat) (x2 : Int32) (s : zσ) (s2 : zσ), zck 12 x1 = true → r7 x1 x2 s = some s2 → ∀ {w : zσ} {fz : Bool} {L : Nat} {xs : Nat → Int32}, zGo (zX fz L xs) d q_203 (7, [(0, .ref 1132), (1, .ref x1), (2, .int x2)], [], zmk w s, 0, 0) (none, zmk w s2, 0, 0)) (hx1 : zck 12 x1 = true) (h : f203_206 n r7 x1 x2 x3 x4 s = some s2) {w : zσ} {fz : Bool} {L : Nat} {xs : Nat → Int32} : zGo (zX fz L xs) d q_203 (206, [(0, .ref 1132), (1, .ref x1), (2, .int x2), (3, .int x3), (4, .int x4)], [], zmk w s, 0, 0) (none, zmk w s2, 0, 0) := by
  obtain ⟨d, rfl⟩ : ∃ d0, d = d0 + 1 := ⟨d - 1, by omega⟩
  unfold f203_206 at h
  refine zGo_s (pc' := 207) (st' := [.ref x1]) dd203_206 rfl ?_
  refine mGF (e := (x1 + 34)) dd203_207 rfl (ck12_s hx1).1 (ck12_s hx1).2 rfl (cf12_40 hx1).1 ?_
  refine zGo_s (pc' := 211) (st' := [.int x2, .ref (x1 + 34)]) dd203_210 rfl ?_
  refine zGo_s (pc' := 212) (st' := [.int x3, .int x2, .ref (x1 + 34)]) dd203_211 rfl ?_
  obtain ⟨hi, h⟩ := ochk h
  obtain ⟨u1, e_u1, h⟩ := olet h
  refine mIS dd203_212 (cf12_40 hx1).2.1 (cf12_40 hx1).2.2 hi e_u1 ?_
  refine zGo_s (pc' := 214) (st' := [.ref x1]) dd203_213 rfl ?_
  refine mGF (e := (x1 + 33)) dd203_214 rfl (ck12_s hx1).1 (ck12_s hx1).2 rfl (cf12_39 hx1).1 ?_
  refine zGo_s (pc' := 218) (st' := [.int x2, .ref (x1 + 33)]) dd203_217 rfl ?_
  refine zGo_s (pc' := 220) (st' := [.int x4, .int x2, .ref (x1 + 33)]) dd203_218 rfl ?_
  obtain ⟨hi, h⟩ := ochk h
  obtain ⟨u2, e_u2, h⟩ := olet h
  refine mIS dd203_220 (cf12_39 hx1).2.1 (cf12_39 hx1).2.2 hi e_u2 ?_
  refine zGo_s (pc' := 224) (st' := []) (lv' := [(2, .int (x2 + (1 : Int32))), (0, .ref 1132), (1, .ref x1), (3, .int x3), (4, .int x4)]) dd203_221 rfl ?_
  refine zGo_s (pc' := 7) (st' := []) dd203_224 rfl ?_
  exact zGo_lv (lv := [(0, .ref 1132), (1, .ref x1), (2, .int (x2 + (1 : Int32)))]) ⟨by simp, by simp, by simp⟩ (hr7 _ _ _ _ hx1 h)
def f203_187 (n : Nat) (r7 : Nat → Int32 → zσ → Option zσ) (x1 : Nat) (x2 : Int32) (x3 : Int32) (x4 : Int32) (y0 : Int32) (s : zσ) : Option zσ :=
    if y0 = (0 : Int32) then
    if zin? x2 1400 = true then
    yb0 (f173 n (6 : Int32) (s.1 (x1 + 30) (nx x2)) s) fun u1 =>
    f203_206 n r7 x1 x2 x3 x4 u1
    else none
    else f203_206 n r7 x1 x2 x3 x4 s
set_option maxRecDepth 20000 in
theorem f203_187_ok {n d : Nat} {r7 : Nat → Int32 → zσ → Option zσ} {x1 : Nat} {x2 : Int32} {x3 : Int32} {x4 : Int32} {y0 : Int32} {s : zσ} {s2 : zσ} (hd : 1 ≤ d) (hr7 : ∀ (x1 : Nat) (x2 : Int32) (s : zσ) (s2 : zσ), zck 12 x1 = true → r7 x1 x2 s = some s2 → ∀ {w : zσ} {fz : Bool} {L : Nat} {xs : Nat → Int32}, zGo (zX fz L xs) d q_203 (7, [(0, .ref 1132), (1, .ref x1), (2, .int x2)], [], zmk w s, 0, 0) (none, zmk w s2, 0, 0)) (hx1 : zck 12 x1 = true) (h : f203_187 n r7 x1 x2 x3 x4 y0 s = some s2) {w : zσ} {fz : Bool} {L : Nat} {xs : Nat → Int32} : zGo (zX fz L xs) d q_203 (187, [(0, .ref 1132), (1, .ref x1), (2, .int x2), (3, .int x3), (4, .int x4)], [.int y0], zmk w s, 0, 0) (none, zmk w s2, 0, 0) := by
  obtain ⟨d, rfl⟩ : ∃ d0, d = d0 + 1 := ⟨d - 1, by omega⟩
  unfold f203_187 at h
  refine zGo_s (pc' := 189) (st' := []) (lv' := [(6, .int y0), (0, .ref 1132), (1, .ref x1), (2, .int x2), (3, .int x3), (4, .int x4)]) dd203_187 rfl ?_
  refine zGo_s (pc' := 191) (st' := [.int y0]) dd203_189 rfl ?_
  rcases oite h with ⟨hc, h⟩ | ⟨hc, h⟩
  · refine zUF dd203_191 (kNeF hc) ?_
    refine zGo_s (pc' := 195) (st' := [.ref 1132]) dd203_194 rfl ?_
    refine zGo_s (pc' := 197) (st' := [.int (6 : Int32), .ref 1132]) dd203_195 rfl ?_
    refine zGo_s (pc' := 198) (st' := [.ref x1, .int (6 : Int32), .ref 1132]) dd203_197 rfl ?_
    refine mGF (e := (x1 + 30)) dd203_198 rfl (ck12_s hx1).1 (ck12_s hx1).2 rfl (cf12_36 hx1).1 ?_
    refine zGo_s (pc' := 202) (st' := [.int x2, .ref (x1 + 30), .int (6 : Int32), .ref 1132]) dd203_201 rfl ?_
    obtain ⟨hi, h⟩ := ochk h
    refine mIA dd203_202 (cf12_36 hx1).2.1 (cf12_36 hx1).2.2 hi ?_
    obtain ⟨u1, hq, h⟩ := obn0 h
    refine zCV0 (As := [.int (6 : Int32), .int (s.1 (x1 + 30) (nx x2))]) (rest := []) (b := 1132) (q' := q_173) dd203_203 rfl rfl (rcv_m rfl rfl (by decide)) rfl rfl rfl (f173_ok (d := d) (by omega)  hq) ?_
    exact zGo_lv (lv := [(0, .ref 1132), (1, .ref x1), (2, .int x2), (3, .int x3), (4, .int x4)]) ⟨by simp, by simp, by simp⟩ (f203_206_ok hd hr7 hx1 h)
  · refine zUT dd203_191 rfl (kNeT hc) ?_
    exact zGo_lv (lv := [(0, .ref 1132), (1, .ref x1), (2, .int x2), (3, .int x3), (4, .int x4)]) ⟨by simp, by simp, by simp⟩ (f203_206_ok hd hr7 hx1 h)
def f203_164 (n : Nat) (r7 : Nat → Int32 → zσ → Option zσ) (x1 : Nat) (x2 : Int32) (x3 : Int32) (x4 : Int32) (s : zσ) : Option zσ :=
    f203_187 n r7 x1 x2 x3 x4 (1 : Int32) s
set_option maxRecDepth 20000 in
theorem f203_164_ok {n d : Nat} {r7 : Nat → Int32 → zσ → Option zσ} {x1 : Nat} {x2 : Int32} {x3 : Int32} {x4 : Int32} {s : zσ} {s2 : zσ} (hd : 1 ≤ d) (hr7 : ∀ (x1 : Nat) (x2 : Int32) (s : zσ) (s2 : zσ), zck 12 x1 = true → r7 x1 x2 s = some s2 → ∀ {w : zσ} {fz : Bool} {L : Nat} {xs : Nat → Int32}, zGo (zX fz L xs) d q_203 (7, [(0, .ref 1132), (1, .ref x1), (2, .int x2)], [], zmk w s, 0, 0) (none, zmk w s2, 0, 0)) (hx1 : zck 12 x1 = true) (h : f203_164 n r7 x1 x2 x3 x4 s = some s2) {w : zσ} {fz : Bool} {L : Nat} {xs : Nat → Int32} : zGo (zX fz L xs) d q_203 (164, [(0, .ref 1132), (1, .ref x1), (2, .int x2), (3, .int x3), (4, .int x4)], [], zmk w s, 0, 0) (none, zmk w s2, 0, 0) := by
  obtain ⟨d, rfl⟩ : ∃ d0, d = d0 + 1 := ⟨d - 1, by omega⟩
  unfold f203_164 at h
  refine zGo_s (pc' := 165) (st' := [.int (1 : Int32)]) dd203_164 rfl ?_
  refine zGo_s (pc' := 187) (st' := [.int (1 : Int32)]) dd203_165 rfl ?_
  exact f203_187_ok hd hr7 hx1 h
def f203_143 (n : Nat) (r7 : Nat → Int32 → zσ → Option zσ) (x1 : Nat) (x2 : Int32) (x3 : Int32) (x4 : Int32) (s : zσ) : Option zσ :=
    if zin? x2 1400 = true then
    if (s.1 (x1 + 31) (nx x2)) = (10 : Int32) then
    if x3 = (0 : Int32) then
    f203_164 n r7 x1 x2 x3 x4 s
    else if x3 = (9 : Int32) then
    f203_164 n r7 x1 x2 x3 x4 s
    else f203_187 n r7 x1 x2 x3 x4 (0 : Int32) s
    else if zin? x2 1400 = true then
    if x3 = (s.1 (x1 + 31) (nx x2)) then
    f203_187 n r7 x1 x2 x3 x4 (1 : Int32) s
    else f203_187 n r7 x1 x2 x3 x4 (0 : Int32) s
    else none
    else none
set_option maxRecDepth 20000 in
theorem f203_143_ok {n d : Nat} {r7 : Nat → Int32 → zσ → Option zσ} {x1 : Nat} {x2 : Int32} {x3 : Int32} {x4 : Int32} {s : zσ} {s2 : zσ} (hd : 1 ≤ d) (hr7 : ∀ (x1 : Nat) (x2 : Int32) (s : zσ) (s2 : zσ), zck 12 x1 = true → r7 x1 x2 s = some s2 → ∀ {w : zσ} {fz : Bool} {L : Nat} {xs : Nat → Int32}, zGo (zX fz L xs) d q_203 (7, [(0, .ref 1132), (1, .ref x1), (2, .int x2)], [], zmk w s, 0, 0) (none, zmk w s2, 0, 0)) (hx1 : zck 12 x1 = true) (h : f203_143 n r7 x1 x2 x3 x4 s = some s2) {w : zσ} {fz : Bool} {L : Nat} {xs : Nat → Int32} : zGo (zX fz L xs) d q_203 (143, [(0, .ref 1132), (1, .ref x1), (2, .int x2), (3, .int x3), (4, .int x4)], [], zmk w s, 0, 0) (none, zmk w s2, 0, 0) := by
  obtain ⟨d, rfl⟩ : ∃ d0, d = d0 + 1 := ⟨d - 1, by omega⟩
  unfold f203_143 at h
  refine zGo_s (pc' := 144) (st' := [.ref x1]) dd203_143 rfl ?_
  refine mGF (e := (x1 + 31)) dd203_144 rfl (ck12_s hx1).1 (ck12_s hx1).2 rfl (cf12_37 hx1).1 ?_
  refine zGo_s (pc' := 148) (st' := [.int x2, .ref (x1 + 31)]) dd203_147 rfl ?_
  obtain ⟨hi, h⟩ := ochk h
  refine mIA dd203_148 (cf12_37 hx1).2.1 (cf12_37 hx1).2.2 hi ?_
  refine zGo_s (pc' := 151) (st' := [.int (10 : Int32), .int (s.1 (x1 + 31) (nx x2))]) dd203_149 rfl ?_
  rcases oite h with ⟨hc, h⟩ | ⟨hc, h⟩
  · refine zIF dd203_151 (kNeF hc) ?_
    refine zGo_s (pc' := 155) (st' := [.int x3]) dd203_154 rfl ?_
    rcases oite h with ⟨hc, h⟩ | ⟨hc, h⟩
    · refine zUT dd203_155 rfl (kEqT hc) ?_
      exact f203_164_ok hd hr7 hx1 h
    · refine zUF dd203_155 (kEqF hc) ?_
      refine zGo_s (pc' := 159) (st' := [.int x3]) dd203_158 rfl ?_
      refine zGo_s (pc' := 161) (st' := [.int (9 : Int32), .int x3]) dd203_159 rfl ?_
      rcases oite h with ⟨hc, h⟩ | ⟨hc, h⟩
      · refine zIF dd203_161 (kNeF hc) ?_
        exact f203_164_ok hd hr7 hx1 h
      · refine zIT dd203_161 rfl (kNeT hc) ?_
        refine zGo_s (pc' := 169) (st' := [.int (0 : Int32)]) dd203_168 rfl ?_
        refine zGo_s (pc' := 187) (st' := [.int (0 : Int32)]) dd203_169 rfl ?_
        exact f203_187_ok hd hr7 hx1 h
  · refine zIT dd203_151 rfl (kNeT hc) ?_
    refine zGo_s (pc' := 173) (st' := [.int x3]) dd203_172 rfl ?_
    refine zGo_s (pc' := 174) (st' := [.ref x1, .int x3]) dd203_173 rfl ?_
    refine mGF (e := (x1 + 31)) dd203_174 rfl (ck12_s hx1).1 (ck12_s hx1).2 rfl (cf12_37 hx1).1 ?_
    refine zGo_s (pc' := 178) (st' := [.int x2, .ref (x1 + 31), .int x3]) dd203_177 rfl ?_
    obtain ⟨hi, h⟩ := ochk h
    refine mIA dd203_178 (cf12_37 hx1).2.1 (cf12_37 hx1).2.2 hi ?_
    rcases oite h with ⟨hc, h⟩ | ⟨hc, h⟩
    · refine zIF dd203_179 (kNeF hc) ?_
      refine zGo_s (pc' := 183) (st' := [.int (1 : Int32)]) dd203_182 rfl ?_
      refine zGo_s (pc' := 187) (st' := [.int (1 : Int32)]) dd203_183 rfl ?_
      exact f203_187_ok hd hr7 hx1 h
    · refine zIT dd203_179 rfl (kNeT hc) ?_
      refine zGo_s (pc' := 187) (st' := [.int (0 : Int32)]) dd203_186 rfl ?_
      exact f203_187_ok hd hr7 hx1 h
def f203_137 (n : Nat) (r7 : Nat → Int32 → zσ → Option zσ) (r90 : Nat → Int32 → Int32 → Int32 → Int32 → Int32 → zσ → Option zσ) (x1 : Nat) (x2 : Int32) (x3 : Int32) (x4 : Int32) (x5 : Int32) (x6 : Int32) (s : zσ) : Option zσ :=
    r90 x1 x2 x3 x4 x5 (x6 + (1 : Int32)) s
set_option maxRecDepth 20000 in
theorem f203_137_ok {n d : Nat} {r7 : Nat → Int32 → zσ → Option zσ} {r90 : Nat → Int32 → Int32 → Int32 → Int32 → Int32 → zσ → Option zσ} {x1 : Nat} {x2 : Int32} {x3 : Int32} {x4 : Int32} {x5 : Int32} {x6 : Int32} {s : zσ} {s2 : zσ} (hd : 1 ≤ d) (hr7 : ∀ (x1 : Nat) (x2 : Int32) (s : zσ) (s2 : zσ), zck 12 x1 = true → r7 x1 x2 s = some s2 → ∀ {w : zσ} {fz : Bool} {L : Nat} {xs : Nat → Int32}, zGo (zX fz L xs) d q_203 (7, [(0, .ref 1132), (1, .ref x1), (2, .int x2)], [], zmk w s, 0, 0) (none, zmk w s2, 0, 0)) (hr90 : ∀ (x1 : Nat) (x2 : Int32) (x3 : Int32) (x4 : Int32) (x5 : Int32) (x6 : Int32) (s : zσ) (s2 : zσ), zck 12 x1 = true → r90 x1 x2 x3 x4 x5 x6 s = some s2 → ∀ {w : zσ} {fz : Bool} {L : Nat} {xs : Nat → Int32}, zGo (zX fz L xs) d q_203 (90, [(0, .ref 1132), (1, .ref x1), (2, .int x2), (3, .int x3), (4, .int x4), (5, .int x5), (6, .int x6)], [], zmk w s, 0, 0) (none, zmk w s2, 0, 0)) (hx1 : zck 12 x1 = true) (h : f203_137 n r7 r90 x1 x2 x3 x4 x5 x6 s = some s2) {w : zσ} {fz : Bool} {L : Nat} {xs : Nat → Int32} : zGo (zX fz L xs) d q_203 (137, [(0, .ref 1132), (1, .ref x1), (2, .int x2), (3, .int x3), (4, .int x4), (5, .int x5), (6, .int x6)], [], zmk w s, 0, 0) (none, zmk w s2, 0, 0) := by
  obtain ⟨d, rfl⟩ : ∃ d0, d = d0 + 1 := ⟨d - 1, by omega⟩
  unfold f203_137 at h
  refine zGo_s (pc' := 140) (st' := []) (lv' := [(6, .int (x6 + (1 : Int32))), (0, .ref 1132), (1, .ref x1), (2, .int x2), (3, .int x3), (4, .int x4), (5, .int x5)]) dd203_137 rfl ?_
  refine zGo_s (pc' := 90) (st' := []) dd203_140 rfl ?_
  exact zGo_lv (lv := [(0, .ref 1132), (1, .ref x1), (2, .int x2), (3, .int x3), (4, .int x4), (5, .int x5), (6, .int (x6 + (1 : Int32)))]) ⟨by simp, by simp, by simp⟩ (hr90 _ _ _ _ _ _ _ _ hx1 h)
def f203_90 (n : Nat) (r7 : Nat → Int32 → zσ → Option zσ) : Nat → Nat → Int32 → Int32 → Int32 → Int32 → Int32 → zσ → Option zσ
  | 0, _, _, _, _, _, _, _ => none
  | j + 1, x1, x2, x3, x4, x5, x6, s =>
    if x5 = (-1 : Int32) then
    f203_143 n r7 x1 x2 x3 x4 s
    else if zin? x5 6 = true then
    if x6 < (s.1 (x1 + 11) (nx x5)) then
    if zin? (((3 : Int32) * x5) + x6) 18 = true then
    if zin? x2 1400 = true then
    if (s.2.1 (x1 + 12) (nx (((3 : Int32) * x5) + x6))) = (s.2.1 (x1 + 29) (nx x2)) then
    f203_137 n r7 (f203_90 n r7 j) x1 x2 (9 : Int32) x6 x5 x6 s
    else f203_137 n r7 (f203_90 n r7 j) x1 x2 x3 x4 x5 x6 s
    else none
    else none
    else f203_143 n r7 x1 x2 x3 x4 s
    else none
set_option maxRecDepth 20000 in
theorem f203_90_ok {n d : Nat} {r7 : Nat → Int32 → zσ → Option zσ} (hd : 1 ≤ d) (hr7 : ∀ (x1 : Nat) (x2 : Int32) (s : zσ) (s2 : zσ), zck 12 x1 = true → r7 x1 x2 s = some s2 → ∀ {w : zσ} {fz : Bool} {L : Nat} {xs : Nat → Int32}, zGo (zX fz L xs) d q_203 (7, [(0, .ref 1132), (1, .ref x1), (2, .int x2)], [], zmk w s, 0, 0) (none, zmk w s2, 0, 0)) : ∀ (j : Nat) (x1 : Nat) (x2 : Int32) (x3 : Int32) (x4 : Int32) (x5 : Int32) (x6 : Int32) (s : zσ) (s2 : zσ), zck 12 x1 = true → f203_90 n r7 j x1 x2 x3 x4 x5 x6 s = some s2 → ∀ {w : zσ} {fz : Bool} {L : Nat} {xs : Nat → Int32}, zGo (zX fz L xs) d q_203 (90, [(0, .ref 1132), (1, .ref x1), (2, .int x2), (3, .int x3), (4, .int x4), (5, .int x5), (6, .int x6)], [], zmk w s, 0, 0) (none, zmk w s2, 0, 0) := by
  obtain ⟨d, rfl⟩ : ∃ d0, d = d0 + 1 := ⟨d - 1, by omega⟩
  intro j
  induction j with
  | zero => intro x1 x2 x3 x4 x5 x6 s s2 hx1 h; cases h
  | succ j ih =>
    intro x1 x2 x3 x4 x5 x6 s s2 hx1 h w fz L xs
    rw [f203_90] at h
    refine zGo_s (pc' := 92) (st' := [.int x5]) dd203_90 rfl ?_
    refine zGo_s (pc' := 93) (st' := [.int (-1 : Int32), .int x5]) dd203_92 rfl ?_
    rcases oite h with ⟨hc, h⟩ | ⟨hc, h⟩
    · refine zIT dd203_93 rfl (kEqT hc) ?_
      exact zGo_lv (lv := [(0, .ref 1132), (1, .ref x1), (2, .int x2), (3, .int x3), (4, .int x4)]) ⟨by simp, by simp, by simp⟩ (f203_143_ok hd hr7 hx1 h)
    · refine zIF dd203_93 (kEqF hc) ?_
      refine zGo_s (pc' := 98) (st' := [.int x6]) dd203_96 rfl ?_
      refine zGo_s (pc' := 99) (st' := [.ref x1, .int x6]) dd203_98 rfl ?_
      refine mGF (e := (x1 + 11)) dd203_99 rfl (ck12_s hx1).1 (ck12_s hx1).2 rfl (cf12_11 hx1).1 ?_
      refine zGo_s (pc' := 104) (st' := [.int x5, .ref (x1 + 11), .int x6]) dd203_102 rfl ?_
      obtain ⟨hi, h⟩ := ochk h
      refine mIA dd203_104 (cf12_11 hx1).2.1 (cf12_11 hx1).2.2 hi ?_
      rcases oite h with ⟨hc, h⟩ | ⟨hc, h⟩
      · refine zIF dd203_105 (kGeF hc) ?_
        refine zGo_s (pc' := 109) (st' := [.ref x1]) dd203_108 rfl ?_
        refine mGF (e := (x1 + 12)) dd203_109 rfl (ck12_s hx1).1 (ck12_s hx1).2 rfl (cf12_12 hx1).1 ?_
        refine zGo_s (pc' := 113) (st' := [.int (3 : Int32), .ref (x1 + 12)]) dd203_112 rfl ?_
        refine zGo_s (pc' := 115) (st' := [.int x5, .int (3 : Int32), .ref (x1 + 12)]) dd203_113 rfl ?_
        refine zGo_s (pc' := 116) (st' := [.int ((3 : Int32) * x5), .ref (x1 + 12)]) dd203_115 rfl ?_
        refine zGo_s (pc' := 118) (st' := [.int x6, .int ((3 : Int32) * x5), .ref (x1 + 12)]) dd203_116 rfl ?_
        refine zGo_s (pc' := 119) (st' := [.int (((3 : Int32) * x5) + x6), .ref (x1 + 12)]) dd203_118 rfl ?_
        obtain ⟨hi, h⟩ := ochk h
        refine mLA dd203_119 (cf12_12 hx1).2.1 (cf12_12 hx1).2.2 hi ?_
        refine zGo_s (pc' := 121) (st' := [.ref x1, .long (s.2.1 (x1 + 12) (nx (((3 : Int32) * x5) + x6)))]) dd203_120 rfl ?_
        refine mGF (e := (x1 + 29)) dd203_121 rfl (ck12_s hx1).1 (ck12_s hx1).2 rfl (cf12_35 hx1).1 ?_
        refine zGo_s (pc' := 125) (st' := [.int x2, .ref (x1 + 29), .long (s.2.1 (x1 + 12) (nx (((3 : Int32) * x5) + x6)))]) dd203_124 rfl ?_
        obtain ⟨hi, h⟩ := ochk h
        refine mLA dd203_125 (cf12_35 hx1).2.1 (cf12_35 hx1).2.2 hi ?_
        refine zGo_s (pc' := 127) (st' := [.int (lg_cmp (s.2.1 (x1 + 12) (nx (((3 : Int32) * x5) + x6))) (s.2.1 (x1 + 29) (nx x2)))]) dd203_126 rfl ?_
        rcases oite h with ⟨hc, h⟩ | ⟨hc, h⟩
        · refine zUF dd203_127 (kcNeF hc) ?_
          refine zGo_s (pc' := 132) (st' := [.int (9 : Int32)]) dd203_130 rfl ?_
          refine zGo_s (pc' := 133) (st' := []) (lv' := [(3, .int (9 : Int32)), (0, .ref 1132), (1, .ref x1), (2, .int x2), (4, .int x4), (5, .int x5), (6, .int x6)]) dd203_132 rfl ?_
          refine zGo_s (pc' := 135) (st' := [.int x6]) dd203_133 rfl ?_
          refine zGo_s (pc' := 137) (st' := []) (lv' := [(4, .int x6), (3, .int (9 : Int32)), (0, .ref 1132), (1, .ref x1), (2, .int x2), (5, .int x5), (6, .int x6)]) dd203_135 rfl ?_
          exact zGo_lv (lv := [(0, .ref 1132), (1, .ref x1), (2, .int x2), (3, .int (9 : Int32)), (4, .int x6), (5, .int x5), (6, .int x6)]) ⟨by simp, by simp, by simp⟩ (f203_137_ok hd hr7 ih hx1 h)
        · refine zUT dd203_127 rfl (kcNeT hc) ?_
          exact f203_137_ok hd hr7 ih hx1 h
      · refine zIT dd203_105 rfl (kGeT hc) ?_
        exact zGo_lv (lv := [(0, .ref 1132), (1, .ref x1), (2, .int x2), (3, .int x3), (4, .int x4)]) ⟨by simp, by simp, by simp⟩ (f203_143_ok hd hr7 hx1 h)
def f203_73 (n : Nat) (r7 : Nat → Int32 → zσ → Option zσ) (r30 : Nat → Int32 → Int32 → Int32 → Int32 → zσ → Option zσ) (x1 : Nat) (x2 : Int32) (x3 : Int32) (x4 : Int32) (x5 : Int32) (s : zσ) : Option zσ :=
    r30 x1 x2 x3 x4 (x5 + (1 : Int32)) s
set_option maxRecDepth 20000 in
theorem f203_73_ok {n d : Nat} {r7 : Nat → Int32 → zσ → Option zσ} {r30 : Nat → Int32 → Int32 → Int32 → Int32 → zσ → Option zσ} {x1 : Nat} {x2 : Int32} {x3 : Int32} {x4 : Int32} {x5 : Int32} {s : zσ} {s2 : zσ} (hd : 1 ≤ d) (hr7 : ∀ (x1 : Nat) (x2 : Int32) (s : zσ) (s2 : zσ), zck 12 x1 = true → r7 x1 x2 s = some s2 → ∀ {w : zσ} {fz : Bool} {L : Nat} {xs : Nat → Int32}, zGo (zX fz L xs) d q_203 (7, [(0, .ref 1132), (1, .ref x1), (2, .int x2)], [], zmk w s, 0, 0) (none, zmk w s2, 0, 0)) (hr30 : ∀ (x1 : Nat) (x2 : Int32) (x3 : Int32) (x4 : Int32) (x5 : Int32) (s : zσ) (s2 : zσ), zck 12 x1 = true → r30 x1 x2 x3 x4 x5 s = some s2 → ∀ {w : zσ} {fz : Bool} {L : Nat} {xs : Nat → Int32}, zGo (zX fz L xs) d q_203 (30, [(0, .ref 1132), (1, .ref x1), (2, .int x2), (3, .int x3), (4, .int x4), (5, .int x5)], [], zmk w s, 0, 0) (none, zmk w s2, 0, 0)) (hx1 : zck 12 x1 = true) (h : f203_73 n r7 r30 x1 x2 x3 x4 x5 s = some s2) {w : zσ} {fz : Bool} {L : Nat} {xs : Nat → Int32} : zGo (zX fz L xs) d q_203 (73, [(0, .ref 1132), (1, .ref x1), (2, .int x2), (3, .int x3), (4, .int x4), (5, .int x5)], [], zmk w s, 0, 0) (none, zmk w s2, 0, 0) := by
  obtain ⟨d, rfl⟩ : ∃ d0, d = d0 + 1 := ⟨d - 1, by omega⟩
  unfold f203_73 at h
  refine zGo_s (pc' := 76) (st' := []) (lv' := [(5, .int (x5 + (1 : Int32))), (0, .ref 1132), (1, .ref x1), (2, .int x2), (3, .int x3), (4, .int x4)]) dd203_73 rfl ?_
  refine zGo_s (pc' := 30) (st' := []) dd203_76 rfl ?_
  exact zGo_lv (lv := [(0, .ref 1132), (1, .ref x1), (2, .int x2), (3, .int x3), (4, .int x4), (5, .int (x5 + (1 : Int32)))]) ⟨by simp, by simp, by simp⟩ (hr30 _ _ _ _ _ _ _ hx1 h)
def f203_30 (n : Nat) (r7 : Nat → Int32 → zσ → Option zσ) : Nat → Nat → Int32 → Int32 → Int32 → Int32 → zσ → Option zσ
  | 0, _, _, _, _, _, _ => none
  | j + 1, x1, x2, x3, x4, x5, s =>
    if x5 < (s.1 x1 0) then
    if zin? x5 60 = true then
    if zin? x2 1400 = true then
    if (s.2.1 (x1 + 1) (nx x5)) = (s.2.1 (x1 + 29) (nx x2)) then
    if zin? x5 60 = true then
    zlet ((s.1 (x1 + 2) (nx x5))) fun v2 =>
    if zin? x5 60 = true then
    zlet ((s.1 (x1 + 3) (nx x5))) fun v3 =>
    f203_73 n r7 (f203_30 n r7 j) x1 x2 v2 v3 x5 s
    else none
    else none
    else f203_73 n r7 (f203_30 n r7 j) x1 x2 x3 x4 x5 s
    else none
    else none
    else if zin? x2 1400 = true then
    zlet ((s.1 (x1 + 32) (nx x2))) fun v1 =>
    f203_90 n r7 n x1 x2 x3 x4 v1 (0 : Int32) s
    else none
set_option maxRecDepth 20000 in
theorem f203_30_ok {n d : Nat} {r7 : Nat → Int32 → zσ → Option zσ} (hd : 1 ≤ d) (hr7 : ∀ (x1 : Nat) (x2 : Int32) (s : zσ) (s2 : zσ), zck 12 x1 = true → r7 x1 x2 s = some s2 → ∀ {w : zσ} {fz : Bool} {L : Nat} {xs : Nat → Int32}, zGo (zX fz L xs) d q_203 (7, [(0, .ref 1132), (1, .ref x1), (2, .int x2)], [], zmk w s, 0, 0) (none, zmk w s2, 0, 0)) : ∀ (j : Nat) (x1 : Nat) (x2 : Int32) (x3 : Int32) (x4 : Int32) (x5 : Int32) (s : zσ) (s2 : zσ), zck 12 x1 = true → f203_30 n r7 j x1 x2 x3 x4 x5 s = some s2 → ∀ {w : zσ} {fz : Bool} {L : Nat} {xs : Nat → Int32}, zGo (zX fz L xs) d q_203 (30, [(0, .ref 1132), (1, .ref x1), (2, .int x2), (3, .int x3), (4, .int x4), (5, .int x5)], [], zmk w s, 0, 0) (none, zmk w s2, 0, 0) := by
  obtain ⟨d, rfl⟩ : ∃ d0, d = d0 + 1 := ⟨d - 1, by omega⟩
  intro j
  induction j with
  | zero => intro x1 x2 x3 x4 x5 s s2 hx1 h; cases h
  | succ j ih =>
    intro x1 x2 x3 x4 x5 s s2 hx1 h w fz L xs
    rw [f203_30] at h
    refine zGo_s (pc' := 32) (st' := [.int x5]) dd203_30 rfl ?_
    refine zGo_s (pc' := 33) (st' := [.ref x1, .int x5]) dd203_32 rfl ?_
    refine mGI dd203_33 rfl (ck12_s hx1).1 (ck12_s hx1).2 rfl ?_
    rcases oite h with ⟨hc, h⟩ | ⟨hc, h⟩
    · refine zIF dd203_36 (kGeF hc) ?_
      refine zGo_s (pc' := 40) (st' := [.ref x1]) dd203_39 rfl ?_
      refine mGF (e := (x1 + 1)) dd203_40 rfl (ck12_s hx1).1 (ck12_s hx1).2 rfl (cf12_1 hx1).1 ?_
      refine zGo_s (pc' := 45) (st' := [.int x5, .ref (x1 + 1)]) dd203_43 rfl ?_
      obtain ⟨hi, h⟩ := ochk h
      refine mLA dd203_45 (cf12_1 hx1).2.1 (cf12_1 hx1).2.2 hi ?_
      refine zGo_s (pc' := 47) (st' := [.ref x1, .long (s.2.1 (x1 + 1) (nx x5))]) dd203_46 rfl ?_
      refine mGF (e := (x1 + 29)) dd203_47 rfl (ck12_s hx1).1 (ck12_s hx1).2 rfl (cf12_35 hx1).1 ?_
      refine zGo_s (pc' := 51) (st' := [.int x2, .ref (x1 + 29), .long (s.2.1 (x1 + 1) (nx x5))]) dd203_50 rfl ?_
      obtain ⟨hi, h⟩ := ochk h
      refine mLA dd203_51 (cf12_35 hx1).2.1 (cf12_35 hx1).2.2 hi ?_
      refine zGo_s (pc' := 53) (st' := [.int (lg_cmp (s.2.1 (x1 + 1) (nx x5)) (s.2.1 (x1 + 29) (nx x2)))]) dd203_52 rfl ?_
      rcases oite h with ⟨hc, h⟩ | ⟨hc, h⟩
      · refine zUF dd203_53 (kcNeF hc) ?_
        refine zGo_s (pc' := 57) (st' := [.ref x1]) dd203_56 rfl ?_
        refine mGF (e := (x1 + 2)) dd203_57 rfl (ck12_s hx1).1 (ck12_s hx1).2 rfl (cf12_2 hx1).1 ?_
        refine zGo_s (pc' := 62) (st' := [.int x5, .ref (x1 + 2)]) dd203_60 rfl ?_
        obtain ⟨hi, h⟩ := ochk h
        refine mIA dd203_62 (cf12_2 hx1).2.1 (cf12_2 hx1).2.2 hi ?_
        obtain ⟨v2, e_v2, h⟩ := olet h
        refine zGo_is1 e_v2 dd203_63 (x' := (64, [(3, .int v2), (0, .ref 1132), (1, .ref x1), (2, .int x2), (4, .int x4), (5, .int x5)], [], _, _, _)) rfl ?_
        refine zGo_s (pc' := 65) (st' := [.ref x1]) dd203_64 rfl ?_
        refine mGF (e := (x1 + 3)) dd203_65 rfl (ck12_s hx1).1 (ck12_s hx1).2 rfl (cf12_3 hx1).1 ?_
        refine zGo_s (pc' := 70) (st' := [.int x5, .ref (x1 + 3)]) dd203_68 rfl ?_
        obtain ⟨hi, h⟩ := ochk h
        refine mIA dd203_70 (cf12_3 hx1).2.1 (cf12_3 hx1).2.2 hi ?_
        obtain ⟨v3, e_v3, h⟩ := olet h
        refine zGo_is1 e_v3 dd203_71 (x' := (73, [(4, .int v3), (3, .int v2), (0, .ref 1132), (1, .ref x1), (2, .int x2), (5, .int x5)], [], _, _, _)) rfl ?_
        exact zGo_lv (lv := [(0, .ref 1132), (1, .ref x1), (2, .int x2), (3, .int v2), (4, .int v3), (5, .int x5)]) ⟨by simp, by simp, by simp⟩ (f203_73_ok hd hr7 ih hx1 h)
      · refine zUT dd203_53 rfl (kcNeT hc) ?_
        exact f203_73_ok hd hr7 ih hx1 h
    · refine zIT dd203_36 rfl (kGeT hc) ?_
      refine zGo_s (pc' := 80) (st' := [.ref x1]) dd203_79 rfl ?_
      refine mGF (e := (x1 + 32)) dd203_80 rfl (ck12_s hx1).1 (ck12_s hx1).2 rfl (cf12_38 hx1).1 ?_
      refine zGo_s (pc' := 84) (st' := [.int x2, .ref (x1 + 32)]) dd203_83 rfl ?_
      obtain ⟨hi, h⟩ := ochk h
      refine mIA dd203_84 (cf12_38 hx1).2.1 (cf12_38 hx1).2.2 hi ?_
      obtain ⟨v1, e_v1, h⟩ := olet h
      refine zGo_is1 e_v1 dd203_85 (x' := (87, [(5, .int v1), (0, .ref 1132), (1, .ref x1), (2, .int x2), (3, .int x3), (4, .int x4)], [], _, _, _)) rfl ?_
      refine zGo_s (pc' := 88) (st' := [.int (0 : Int32)]) dd203_87 rfl ?_
      refine zGo_s (pc' := 90) (st' := []) (lv' := [(6, .int (0 : Int32)), (5, .int v1), (0, .ref 1132), (1, .ref x1), (2, .int x2), (3, .int x3), (4, .int x4)]) dd203_88 rfl ?_
      exact zGo_lv (lv := [(0, .ref 1132), (1, .ref x1), (2, .int x2), (3, .int x3), (4, .int x4), (5, .int v1), (6, .int (0 : Int32))]) ⟨by simp, by simp, by simp⟩ (f203_90_ok hd hr7 _ _ _ _ _ _ _ _ _ hx1 h)
def f203_7 (n : Nat) : Nat → Nat → Int32 → zσ → Option zσ
  | 0, _, _, _ => none
  | j + 1, x1, x2, s =>
    if x2 < (s.1 x1 34) then
    yb1 (f167 n s) fun v2 u1 =>
    if v2 = (0 : Int32) then
    f203_227 n x1 u1
    else f203_30 n (f203_7 n j) n x1 x2 (-1 : Int32) (-1 : Int32) (0 : Int32) u1
    else f203_227 n x1 s
set_option maxRecDepth 20000 in
theorem f203_7_ok {n d : Nat} (hd : 1 ≤ d) : ∀ (j : Nat) (x1 : Nat) (x2 : Int32) (s : zσ) (s2 : zσ), zck 12 x1 = true → f203_7 n j x1 x2 s = some s2 → ∀ {w : zσ} {fz : Bool} {L : Nat} {xs : Nat → Int32}, zGo (zX fz L xs) d q_203 (7, [(0, .ref 1132), (1, .ref x1), (2, .int x2)], [], zmk w s, 0, 0) (none, zmk w s2, 0, 0) := by
  obtain ⟨d, rfl⟩ : ∃ d0, d = d0 + 1 := ⟨d - 1, by omega⟩
  intro j
  induction j with
  | zero => intro x1 x2 s s2 hx1 h; cases h
  | succ j ih =>
    intro x1 x2 s s2 hx1 h w fz L xs
    rw [f203_7] at h
    refine zGo_s (pc' := 8) (st' := [.int x2]) dd203_7 rfl ?_
    refine zGo_s (pc' := 9) (st' := [.ref x1, .int x2]) dd203_8 rfl ?_
    refine mGI dd203_9 rfl (ck12_s hx1).1 (ck12_s hx1).2 rfl ?_
    rcases oite h with ⟨hc, h⟩ | ⟨hc, h⟩
    · refine zIF dd203_12 (kGeF hc) ?_
      refine zGo_s (pc' := 16) (st' := [.ref 1132]) dd203_15 rfl ?_
      obtain ⟨v2, u1, hq, h⟩ := obnd h
      refine zCV1 (As := []) (rest := []) (b := 1132) (q' := q_167) dd203_16 rfl rfl (rcv_m rfl rfl (by decide)) rfl rfl rfl (f167_ok (d := d) (by omega)  hq) ?_
      rcases oite h with ⟨hc, h⟩ | ⟨hc, h⟩
      · refine zUT dd203_19 rfl (kEqT hc) ?_
        exact zGo_lv (lv := [(0, .ref 1132), (1, .ref x1)]) ⟨by simp, by simp, by simp⟩ (f203_227_ok hd hx1 h)
      · refine zUF dd203_19 (kEqF hc) ?_
        refine zGo_s (pc' := 23) (st' := [.int (-1 : Int32)]) dd203_22 rfl ?_
        refine zGo_s (pc' := 24) (st' := []) (lv' := [(3, .int (-1 : Int32)), (0, .ref 1132), (1, .ref x1), (2, .int x2)]) dd203_23 rfl ?_
        refine zGo_s (pc' := 25) (st' := [.int (-1 : Int32)]) dd203_24 rfl ?_
        refine zGo_s (pc' := 27) (st' := []) (lv' := [(4, .int (-1 : Int32)), (3, .int (-1 : Int32)), (0, .ref 1132), (1, .ref x1), (2, .int x2)]) dd203_25 rfl ?_
        refine zGo_s (pc' := 28) (st' := [.int (0 : Int32)]) dd203_27 rfl ?_
        refine zGo_s (pc' := 30) (st' := []) (lv' := [(5, .int (0 : Int32)), (4, .int (-1 : Int32)), (3, .int (-1 : Int32)), (0, .ref 1132), (1, .ref x1), (2, .int x2)]) dd203_28 rfl ?_
        exact zGo_lv (lv := [(0, .ref 1132), (1, .ref x1), (2, .int x2), (3, .int (-1 : Int32)), (4, .int (-1 : Int32)), (5, .int (0 : Int32))]) ⟨by simp, by simp, by simp⟩ (f203_30_ok hd ih _ _ _ _ _ _ _ _ hx1 h)
    · refine zIT dd203_12 rfl (kGeT hc) ?_
      exact zGo_lv (lv := [(0, .ref 1132), (1, .ref x1)]) ⟨by simp, by simp, by simp⟩ (f203_227_ok hd hx1 h)
def f203 (n : Nat) (s : zσ) : Option zσ :=
    zrd 12 (s.2.2 1132 12) fun a1 =>
    f203_7 n n a1 (0 : Int32) s
set_option maxRecDepth 20000 in
theorem f203_ok {n d : Nat} {s : zσ} {s2 : zσ} (hd : 1 ≤ d) (h : f203 n s = some s2) {w : zσ} {fz : Bool} {L : Nat} {xs : Nat → Int32} : zGo (zX fz L xs) d q_203 (0, [(0, .ref 1132)], [], zmk w s, 0, 0) (none, zmk w s2, 0, 0) := by
  obtain ⟨d, rfl⟩ : ∃ d0, d = d0 + 1 := ⟨d - 1, by omega⟩
  unfold f203 at h
  refine zGo_s (pc' := 1) (st' := [.ref 1132]) dd203_0 rfl ?_
  obtain ⟨a1, e_a1, c_a1, h⟩ := ordd h
  refine mGR dd203_1 rfl rfl rfl rfl e_a1 ?_
  refine zGo_s (pc' := 5) (st' := []) (lv' := [(1, .ref a1), (0, .ref 1132)]) dd203_4 rfl ?_
  refine zGo_s (pc' := 6) (st' := [.int (0 : Int32)]) dd203_5 rfl ?_
  refine zGo_s (pc' := 7) (st' := []) (lv' := [(2, .int (0 : Int32)), (1, .ref a1), (0, .ref 1132)]) dd203_6 rfl ?_
  exact zGo_lv (lv := [(0, .ref 1132), (1, .ref a1), (2, .int (0 : Int32))]) ⟨by simp, by simp, by simp⟩ (f203_7_ok hd _ _ _ _ _ c_a1 h)
/-! PHModel.module()I -/
theorem dd163_0 : decode cX13_module 0 = .ok (.aload_n 0, 1) := by decide +kernel
theorem dd163_1 : decode cX13_module 1 = .ok (.getfield 24, 3) := by decide +kernel
theorem dd163_4 : decode cX13_module 4 = .ok (.astore_n 1, 1) := by decide +kernel
theorem dd163_5 : decode cX13_module 5 = .ok (.aload_n 1, 1) := by decide +kernel
theorem dd163_6 : decode cX13_module 6 = .ok (.iconst 0, 1) := by decide +kernel
theorem dd163_7 : decode cX13_module 7 = .ok (.putfield 273, 3) := by decide +kernel
theorem dd163_10 : decode cX13_module 10 = .ok (.aload_n 1, 1) := by decide +kernel
theorem dd163_11 : decode cX13_module 11 = .ok (.iconst 0, 1) := by decide +kernel
theorem dd163_12 : decode cX13_module 12 = .ok (.putfield 345, 3) := by decide +kernel
theorem dd163_15 : decode cX13_module 15 = .ok (.aload_n 1, 1) := by decide +kernel
theorem dd163_16 : decode cX13_module 16 = .ok (.iconst 0, 1) := by decide +kernel
theorem dd163_17 : decode cX13_module 17 = .ok (.putfield 438, 3) := by decide +kernel
theorem dd163_20 : decode cX13_module 20 = .ok (.aload_n 1, 1) := by decide +kernel
theorem dd163_21 : decode cX13_module 21 = .ok (.iconst 0, 1) := by decide +kernel
theorem dd163_22 : decode cX13_module 22 = .ok (.putfield 285, 3) := by decide +kernel
theorem dd163_25 : decode cX13_module 25 = .ok (.aload_n 1, 1) := by decide +kernel
theorem dd163_26 : decode cX13_module 26 = .ok (.iconst 0, 1) := by decide +kernel
theorem dd163_27 : decode cX13_module 27 = .ok (.putfield 303, 3) := by decide +kernel
theorem dd163_30 : decode cX13_module 30 = .ok (.aload_n 1, 1) := by decide +kernel
theorem dd163_31 : decode cX13_module 31 = .ok (.iconst 0, 1) := by decide +kernel
theorem dd163_32 : decode cX13_module 32 = .ok (.putfield 291, 3) := by decide +kernel
theorem dd163_35 : decode cX13_module 35 = .ok (.aload_n 1, 1) := by decide +kernel
theorem dd163_36 : decode cX13_module 36 = .ok (.iconst 0, 1) := by decide +kernel
theorem dd163_37 : decode cX13_module 37 = .ok (.putfield 252, 3) := by decide +kernel
theorem dd163_40 : decode cX13_module 40 = .ok (.iconst 0, 1) := by decide +kernel
theorem dd163_41 : decode cX13_module 41 = .ok (.istore_n 2, 1) := by decide +kernel
theorem dd163_42 : decode cX13_module 42 = .ok (.iload_n 2, 1) := by decide +kernel
theorem dd163_43 : decode cX13_module 43 = .ok (.bipush 9, 2) := by decide +kernel
theorem dd163_45 : decode cX13_module 45 = .ok (.if_icmp .ge 16, 3) := by decide +kernel
theorem dd163_48 : decode cX13_module 48 = .ok (.aload_n 1, 1) := by decide +kernel
theorem dd163_49 : decode cX13_module 49 = .ok (.getfield 270, 3) := by decide +kernel
theorem dd163_52 : decode cX13_module 52 = .ok (.iload_n 2, 1) := by decide +kernel
theorem dd163_53 : decode cX13_module 53 = .ok (.iconst 0, 1) := by decide +kernel
theorem dd163_54 : decode cX13_module 54 = .ok (.iastore, 1) := by decide +kernel
theorem dd163_55 : decode cX13_module 55 = .ok (.iinc 2 1, 3) := by decide +kernel
theorem dd163_58 : decode cX13_module 58 = .ok (.goto (-16), 3) := by decide +kernel
theorem dd163_61 : decode cX13_module 61 = .ok (.aload_n 0, 1) := by decide +kernel
theorem dd163_62 : decode cX13_module 62 = .ok (.iconst 0, 1) := by decide +kernel
theorem dd163_63 : decode cX13_module 63 = .ok (.putfield 167, 3) := by decide +kernel
theorem dd163_66 : decode cX13_module 66 = .ok (.aload_n 0, 1) := by decide +kernel
theorem dd163_67 : decode cX13_module 67 = .ok (.iconst 0, 1) := by decide +kernel
theorem dd163_68 : decode cX13_module 68 = .ok (.putfield 243, 3) := by decide +kernel
theorem dd163_71 : decode cX13_module 71 = .ok (.aload_n 0, 1) := by decide +kernel
theorem dd163_72 : decode cX13_module 72 = .ok (.iconst (-1), 1) := by decide +kernel
theorem dd163_73 : decode cX13_module 73 = .ok (.putfield 264, 3) := by decide +kernel
theorem dd163_76 : decode cX13_module 76 = .ok (.aload_n 0, 1) := by decide +kernel
theorem dd163_77 : decode cX13_module 77 = .ok (.iconst 0, 1) := by decide +kernel
theorem dd163_78 : decode cX13_module 78 = .ok (.putfield 173, 3) := by decide +kernel
theorem dd163_81 : decode cX13_module 81 = .ok (.aload_n 0, 1) := by decide +kernel
theorem dd163_82 : decode cX13_module 82 = .ok (.invokevirtual 231, 3) := by decide +kernel
theorem dd163_85 : decode cX13_module 85 = .ok (.aload_n 0, 1) := by decide +kernel
theorem dd163_86 : decode cX13_module 86 = .ok (.invokevirtual 223, 3) := by decide +kernel
theorem dd163_89 : decode cX13_module 89 = .ok (.ifCond .eq 17, 3) := by decide +kernel
theorem dd163_92 : decode cX13_module 92 = .ok (.aload_n 0, 1) := by decide +kernel
theorem dd163_93 : decode cX13_module 93 = .ok (.getfield 179, 3) := by decide +kernel
theorem dd163_96 : decode cX13_module 96 = .ok (.ifCond .eq 10, 3) := by decide +kernel
theorem dd163_99 : decode cX13_module 99 = .ok (.aload_n 0, 1) := by decide +kernel
theorem dd163_100 : decode cX13_module 100 = .ok (.invokevirtual 547, 3) := by decide +kernel
theorem dd163_103 : decode cX13_module 103 = .ok (.goto (-18), 3) := by decide +kernel
theorem dd163_106 : decode cX13_module 106 = .ok (.aload_n 0, 1) := by decide +kernel
theorem dd163_107 : decode cX13_module 107 = .ok (.invokevirtual 223, 3) := by decide +kernel
theorem dd163_110 : decode cX13_module 110 = .ok (.ifCond .eq 7, 3) := by decide +kernel
theorem dd163_113 : decode cX13_module 113 = .ok (.aload_n 0, 1) := by decide +kernel
theorem dd163_114 : decode cX13_module 114 = .ok (.invokevirtual 550, 3) := by decide +kernel
theorem dd163_117 : decode cX13_module 117 = .ok (.aload_n 0, 1) := by decide +kernel
theorem dd163_118 : decode cX13_module 118 = .ok (.iconst 0, 1) := by decide +kernel
theorem dd163_119 : decode cX13_module 119 = .ok (.putfield 164, 3) := by decide +kernel
theorem dd163_122 : decode cX13_module 122 = .ok (.aload_n 0, 1) := by decide +kernel
theorem dd163_123 : decode cX13_module 123 = .ok (.getfield 167, 3) := by decide +kernel
theorem dd163_126 : decode cX13_module 126 = .ok (.ifCond .eq 19, 3) := by decide +kernel
theorem dd163_129 : decode cX13_module 129 = .ok (.aload_n 0, 1) := by decide +kernel
theorem dd163_130 : decode cX13_module 130 = .ok (.aload_n 0, 1) := by decide +kernel
theorem dd163_131 : decode cX13_module 131 = .ok (.getfield 170, 3) := by decide +kernel
theorem dd163_134 : decode cX13_module 134 = .ok (.putfield 13, 3) := by decide +kernel
theorem dd163_137 : decode cX13_module 137 = .ok (.bipush (-10), 2) := by decide +kernel
theorem dd163_139 : decode cX13_module 139 = .ok (.aload_n 0, 1) := by decide +kernel
theorem dd163_140 : decode cX13_module 140 = .ok (.getfield 167, 3) := by decide +kernel
theorem dd163_143 : decode cX13_module 143 = .ok (.isub, 1) := by decide +kernel
theorem dd163_144 : decode cX13_module 144 = .ok (.ireturn, 1) := by decide +kernel
theorem dd163_145 : decode cX13_module 145 = .ok (.aload_n 0, 1) := by decide +kernel
theorem dd163_146 : decode cX13_module 146 = .ok (.iconst (-1), 1) := by decide +kernel
theorem dd163_147 : decode cX13_module 147 = .ok (.putfield 13, 3) := by decide +kernel
theorem dd163_150 : decode cX13_module 150 = .ok (.aload_n 0, 1) := by decide +kernel
theorem dd163_151 : decode cX13_module 151 = .ok (.aload_n 0, 1) := by decide +kernel
theorem dd163_152 : decode cX13_module 152 = .ok (.getfield 20, 3) := by decide +kernel
theorem dd163_155 : decode cX13_module 155 = .ok (.putfield 24, 3) := by decide +kernel
theorem dd163_158 : decode cX13_module 158 = .ok (.aload_n 0, 1) := by decide +kernel
theorem dd163_159 : decode cX13_module 159 = .ok (.aload_n 1, 1) := by decide +kernel
theorem dd163_160 : decode cX13_module 160 = .ok (.putfield 20, 3) := by decide +kernel
theorem dd163_163 : decode cX13_module 163 = .ok (.aload_n 0, 1) := by decide +kernel
theorem dd163_164 : decode cX13_module 164 = .ok (.iconst 1, 1) := by decide +kernel
theorem dd163_165 : decode cX13_module 165 = .ok (.putfield 553, 3) := by decide +kernel
theorem dd163_168 : decode cX13_module 168 = .ok (.aload_n 0, 1) := by decide +kernel
theorem dd163_169 : decode cX13_module 169 = .ok (.iconst 0, 1) := by decide +kernel
theorem dd163_170 : decode cX13_module 170 = .ok (.putfield 557, 3) := by decide +kernel
theorem dd163_173 : decode cX13_module 173 = .ok (.aload_n 1, 1) := by decide +kernel
theorem dd163_174 : decode cX13_module 174 = .ok (.getfield 270, 3) := by decide +kernel
theorem dd163_177 : decode cX13_module 177 = .ok (.bipush 8, 2) := by decide +kernel
theorem dd163_179 : decode cX13_module 179 = .ok (.iaload, 1) := by decide +kernel
theorem dd163_180 : decode cX13_module 180 = .ok (.ireturn, 1) := by decide +kernel
def f163_117 (n : Nat) (x1 : Nat) (s : zσ) : Option (Int32 × zσ) :=
    zlet (sI s 1132 1 (0 : Int32)) fun u1 =>
    if (u1.1 1132 9) = (0 : Int32) then
    zlet (sI u1 1132 2 (-1 : Int32)) fun u2 =>
    zrd 12 (u2.2.2 1132 11) fun a3 =>
    zlet (sR u2 1132 12 (some a3)) fun u4 =>
    zlet (sR u4 1132 11 (some x1)) fun u5 =>
    zlet (sI u5 1132 13 (1 : Int32)) fun u6 =>
    zlet (sI u6 1132 17 (0 : Int32)) fun u7 =>
    if zin? (8 : Int32) 9 = true then
    some ((u7.1 (x1 + 4) (nx (8 : Int32))), u7)
    else none
    else zlet (sI u1 1132 2 (u1.1 1132 10)) fun u8 =>
    some (((-10 : Int32) - (u8.1 1132 9)), u8)
set_option maxRecDepth 20000 in
theorem f163_117_ok {n d : Nat} {x1 : Nat} {s : zσ} {v : Int32} {s2 : zσ} (hd : 226 ≤ d) (hx1 : zck 12 x1 = true) (h : f163_117 n x1 s = some (v, s2)) {w : zσ} {fz : Bool} {L : Nat} {xs : Nat → Int32} : zGo (zX fz L xs) d q_163 (117, [(0, .ref 1132), (1, .ref x1)], [], zmk w s, 0, 0) (some (.int v), zmk w s2, 0, 0) := by
  obtain ⟨d, rfl⟩ : ∃ d0, d = d0 + 1 := ⟨d - 1, by omega⟩
  unfold f163_117 at h
  refine zGo_s (pc' := 118) (st' := [.ref 1132]) dd163_117 rfl ?_
  refine zGo_s (pc' := 119) (st' := [.int (0 : Int32), .ref 1132]) dd163_118 rfl ?_
  obtain ⟨u1, e_u1, h⟩ := olet h
  refine mPI dd163_119 rfl rfl rfl rfl rfl rfl e_u1 ?_
  refine zGo_s (pc' := 123) (st' := [.ref 1132]) dd163_122 rfl ?_
  refine mGI dd163_123 rfl rfl rfl rfl ?_
  rcases oite h with ⟨hc, h⟩ | ⟨hc, h⟩
  · refine zUT dd163_126 rfl (kEqT hc) ?_
    refine zGo_s (pc' := 146) (st' := [.ref 1132]) dd163_145 rfl ?_
    refine zGo_s (pc' := 147) (st' := [.int (-1 : Int32), .ref 1132]) dd163_146 rfl ?_
    obtain ⟨u2, e_u2, h⟩ := olet h
    refine mPI dd163_147 rfl rfl rfl rfl rfl rfl e_u2 ?_
    refine zGo_s (pc' := 151) (st' := [.ref 1132]) dd163_150 rfl ?_
    refine zGo_s (pc' := 152) (st' := [.ref 1132, .ref 1132]) dd163_151 rfl ?_
    obtain ⟨a3, e_a3, c_a3, h⟩ := ordd h
    refine mGR dd163_152 rfl rfl rfl rfl e_a3 ?_
    obtain ⟨u4, e_u4, h⟩ := olet h
    refine mPR dd163_155 rfl rfl rfl rfl rfl rfl e_u4 ?_
    refine zGo_s (pc' := 159) (st' := [.ref 1132]) dd163_158 rfl ?_
    refine zGo_s (pc' := 160) (st' := [.ref x1, .ref 1132]) dd163_159 rfl ?_
    obtain ⟨u5, e_u5, h⟩ := olet h
    refine mPR dd163_160 rfl rfl rfl rfl rfl rfl e_u5 ?_
    refine zGo_s (pc' := 164) (st' := [.ref 1132]) dd163_163 rfl ?_
    refine zGo_s (pc' := 165) (st' := [.int (1 : Int32), .ref 1132]) dd163_164 rfl ?_
    obtain ⟨u6, e_u6, h⟩ := olet h
    refine mPI dd163_165 rfl rfl rfl rfl rfl rfl e_u6 ?_
    refine zGo_s (pc' := 169) (st' := [.ref 1132]) dd163_168 rfl ?_
    refine zGo_s (pc' := 170) (st' := [.int (0 : Int32), .ref 1132]) dd163_169 rfl ?_
    obtain ⟨u7, e_u7, h⟩ := olet h
    refine mPI dd163_170 rfl rfl rfl rfl rfl rfl e_u7 ?_
    refine zGo_s (pc' := 174) (st' := [.ref x1]) dd163_173 rfl ?_
    refine mGF (e := (x1 + 4)) dd163_174 rfl (ck12_s hx1).1 (ck12_s hx1).2 rfl (cf12_4 hx1).1 ?_
    refine zGo_s (pc' := 179) (st' := [.int (8 : Int32), .ref (x1 + 4)]) dd163_177 rfl ?_
    obtain ⟨hi, h⟩ := ochk h
    refine mIA dd163_179 (cf12_4 hx1).2.1 (cf12_4 hx1).2.2 hi ?_
    obtain ⟨rfl, rfl⟩ := oret h
    exact zGo_ret dd163_180 rfl rfl
  · refine zUF dd163_126 (kEqF hc) ?_
    refine zGo_s (pc' := 130) (st' := [.ref 1132]) dd163_129 rfl ?_
    refine zGo_s (pc' := 131) (st' := [.ref 1132, .ref 1132]) dd163_130 rfl ?_
    refine mGI dd163_131 rfl rfl rfl rfl ?_
    obtain ⟨u8, e_u8, h⟩ := olet h
    refine mPI dd163_134 rfl rfl rfl rfl rfl rfl e_u8 ?_
    refine zGo_s (pc' := 139) (st' := [.int (-10 : Int32)]) dd163_137 rfl ?_
    refine zGo_s (pc' := 140) (st' := [.ref 1132, .int (-10 : Int32)]) dd163_139 rfl ?_
    refine mGI dd163_140 rfl rfl rfl rfl ?_
    refine zGo_s (pc' := 144) (st' := [.int ((-10 : Int32) - (u8.1 1132 9))]) dd163_143 rfl ?_
    obtain ⟨rfl, rfl⟩ := oret h
    exact zGo_ret dd163_144 rfl rfl
def f163_106 (n : Nat) (x1 : Nat) (s : zσ) : Option (Int32 × zσ) :=
    yb1 (f167 n s) fun v2 u1 =>
    if v2 = (0 : Int32) then
    f163_117 n x1 u1
    else yb0 (f203 n u1) fun u3 =>
    f163_117 n x1 u3
set_option maxRecDepth 20000 in
theorem f163_106_ok {n d : Nat} {x1 : Nat} {s : zσ} {v : Int32} {s2 : zσ} (hd : 226 ≤ d) (hx1 : zck 12 x1 = true) (h : f163_106 n x1 s = some (v, s2)) {w : zσ} {fz : Bool} {L : Nat} {xs : Nat → Int32} : zGo (zX fz L xs) d q_163 (106, [(0, .ref 1132), (1, .ref x1)], [], zmk w s, 0, 0) (some (.int v), zmk w s2, 0, 0) := by
  obtain ⟨d, rfl⟩ : ∃ d0, d = d0 + 1 := ⟨d - 1, by omega⟩
  unfold f163_106 at h
  refine zGo_s (pc' := 107) (st' := [.ref 1132]) dd163_106 rfl ?_
  obtain ⟨v2, u1, hq, h⟩ := obnd h
  refine zCV1 (As := []) (rest := []) (b := 1132) (q' := q_167) dd163_107 rfl rfl (rcv_m rfl rfl (by decide)) rfl rfl rfl (f167_ok (d := d) (by omega)  hq) ?_
  rcases oite h with ⟨hc, h⟩ | ⟨hc, h⟩
  · refine zUT dd163_110 rfl (kEqT hc) ?_
    exact f163_117_ok hd hx1 h
  · refine zUF dd163_110 (kEqF hc) ?_
    refine zGo_s (pc' := 114) (st' := [.ref 1132]) dd163_113 rfl ?_
    obtain ⟨u3, hq, h⟩ := obn0 h
    refine zCV0 (As := []) (rest := []) (b := 1132) (q' := q_203) dd163_114 rfl rfl (rcv_m rfl rfl (by decide)) rfl rfl rfl (f203_ok (d := d) (by omega)  hq) ?_
    exact f163_117_ok hd hx1 h
def f163_85 (n : Nat) : Nat → Nat → zσ → Option (Int32 × zσ)
  | 0, _, _ => none
  | j + 1, x1, s =>
    yb1 (f167 n s) fun v2 u1 =>
    if v2 = (0 : Int32) then
    f163_106 n x1 u1
    else if (u1.1 1132 3) = (0 : Int32) then
    f163_106 n x1 u1
    else yb0 (f168 n u1) fun u3 =>
    f163_85 n j x1 u3
set_option maxRecDepth 20000 in
theorem f163_85_ok {n d : Nat} (hd : 226 ≤ d) : ∀ (j : Nat) (x1 : Nat) (s : zσ) (v : Int32) (s2 : zσ), zck 12 x1 = true → f163_85 n j x1 s = some (v, s2) → ∀ {w : zσ} {fz : Bool} {L : Nat} {xs : Nat → Int32}, zGo (zX fz L xs) d q_163 (85, [(0, .ref 1132), (1, .ref x1)], [], zmk w s, 0, 0) (some (.int v), zmk w s2, 0, 0) := by
  obtain ⟨d, rfl⟩ : ∃ d0, d = d0 + 1 := ⟨d - 1, by omega⟩
  intro j
  induction j with
  | zero => intro x1 s v s2 hx1 h; cases h
  | succ j ih =>
    intro x1 s v s2 hx1 h w fz L xs
    rw [f163_85] at h
    refine zGo_s (pc' := 86) (st' := [.ref 1132]) dd163_85 rfl ?_
    obtain ⟨v2, u1, hq, h⟩ := obnd h
    refine zCV1 (As := []) (rest := []) (b := 1132) (q' := q_167) dd163_86 rfl rfl (rcv_m rfl rfl (by decide)) rfl rfl rfl (f167_ok (d := d) (by omega)  hq) ?_
    rcases oite h with ⟨hc, h⟩ | ⟨hc, h⟩
    · refine zUT dd163_89 rfl (kEqT hc) ?_
      exact f163_106_ok hd hx1 h
    · refine zUF dd163_89 (kEqF hc) ?_
      refine zGo_s (pc' := 93) (st' := [.ref 1132]) dd163_92 rfl ?_
      refine mGI dd163_93 rfl rfl rfl rfl ?_
      rcases oite h with ⟨hc, h⟩ | ⟨hc, h⟩
      · refine zUT dd163_96 rfl (kEqT hc) ?_
        exact f163_106_ok hd hx1 h
      · refine zUF dd163_96 (kEqF hc) ?_
        refine zGo_s (pc' := 100) (st' := [.ref 1132]) dd163_99 rfl ?_
        obtain ⟨u3, hq, h⟩ := obn0 h
        refine zCV0 (As := []) (rest := []) (b := 1132) (q' := q_168) dd163_100 rfl rfl (rcv_m rfl rfl (by decide)) rfl rfl rfl (f168_ok (d := d) (by omega)  hq) ?_
        refine zGo_s (pc' := 85) (st' := []) dd163_103 rfl ?_
        exact ih _ _ _ _ hx1 h
def f163_42 (n : Nat) : Nat → Nat → Int32 → zσ → Option (Int32 × zσ)
  | 0, _, _, _ => none
  | j + 1, x1, x2, s =>
    if x2 < (9 : Int32) then
    if zin? x2 9 = true then
    zlet (sI s (x1 + 4) (nx x2) (0 : Int32)) fun u6 =>
    f163_42 n j x1 (x2 + (1 : Int32)) u6
    else none
    else zlet (sI s 1132 9 (0 : Int32)) fun u1 =>
    zlet (sI u1 1132 14 (0 : Int32)) fun u2 =>
    zlet (sI u2 1132 15 (-1 : Int32)) fun u3 =>
    zlet (sI u3 1132 5 (0 : Int32)) fun u4 =>
    yb0 (f164 n u4) fun u5 =>
    f163_85 n n x1 u5
set_option maxRecDepth 20000 in
theorem f163_42_ok {n d : Nat} (hd : 226 ≤ d) : ∀ (j : Nat) (x1 : Nat) (x2 : Int32) (s : zσ) (v : Int32) (s2 : zσ), zck 12 x1 = true → f163_42 n j x1 x2 s = some (v, s2) → ∀ {w : zσ} {fz : Bool} {L : Nat} {xs : Nat → Int32}, zGo (zX fz L xs) d q_163 (42, [(0, .ref 1132), (1, .ref x1), (2, .int x2)], [], zmk w s, 0, 0) (some (.int v), zmk w s2, 0, 0) := by
  obtain ⟨d, rfl⟩ : ∃ d0, d = d0 + 1 := ⟨d - 1, by omega⟩
  intro j
  induction j with
  | zero => intro x1 x2 s v s2 hx1 h; cases h
  | succ j ih =>
    intro x1 x2 s v s2 hx1 h w fz L xs
    rw [f163_42] at h
    refine zGo_s (pc' := 43) (st' := [.int x2]) dd163_42 rfl ?_
    refine zGo_s (pc' := 45) (st' := [.int (9 : Int32), .int x2]) dd163_43 rfl ?_
    rcases oite h with ⟨hc, h⟩ | ⟨hc, h⟩
    · refine zIF dd163_45 (kGeF hc) ?_
      refine zGo_s (pc' := 49) (st' := [.ref x1]) dd163_48 rfl ?_
      refine mGF (e := (x1 + 4)) dd163_49 rfl (ck12_s hx1).1 (ck12_s hx1).2 rfl (cf12_4 hx1).1 ?_
      refine zGo_s (pc' := 53) (st' := [.int x2, .ref (x1 + 4)]) dd163_52 rfl ?_
      refine zGo_s (pc' := 54) (st' := [.int (0 : Int32), .int x2, .ref (x1 + 4)]) dd163_53 rfl ?_
      obtain ⟨hi, h⟩ := ochk h
      obtain ⟨u6, e_u6, h⟩ := olet h
      refine mIS dd163_54 (cf12_4 hx1).2.1 (cf12_4 hx1).2.2 hi e_u6 ?_
      refine zGo_s (pc' := 58) (st' := []) (lv' := [(2, .int (x2 + (1 : Int32))), (0, .ref 1132), (1, .ref x1)]) dd163_55 rfl ?_
      refine zGo_s (pc' := 42) (st' := []) dd163_58 rfl ?_
      exact zGo_lv (lv := [(0, .ref 1132), (1, .ref x1), (2, .int (x2 + (1 : Int32)))]) ⟨by simp, by simp, by simp⟩ (ih _ _ _ _ _ hx1 h)
    · refine zIT dd163_45 rfl (kGeT hc) ?_
      refine zGo_s (pc' := 62) (st' := [.ref 1132]) dd163_61 rfl ?_
      refine zGo_s (pc' := 63) (st' := [.int (0 : Int32), .ref 1132]) dd163_62 rfl ?_
      obtain ⟨u1, e_u1, h⟩ := olet h
      refine mPI dd163_63 rfl rfl rfl rfl rfl rfl e_u1 ?_
      refine zGo_s (pc' := 67) (st' := [.ref 1132]) dd163_66 rfl ?_
      refine zGo_s (pc' := 68) (st' := [.int (0 : Int32), .ref 1132]) dd163_67 rfl ?_
      obtain ⟨u2, e_u2, h⟩ := olet h
      refine mPI dd163_68 rfl rfl rfl rfl rfl rfl e_u2 ?_
      refine zGo_s (pc' := 72) (st' := [.ref 1132]) dd163_71 rfl ?_
      refine zGo_s (pc' := 73) (st' := [.int (-1 : Int32), .ref 1132]) dd163_72 rfl ?_
      obtain ⟨u3, e_u3, h⟩ := olet h
      refine mPI dd163_73 rfl rfl rfl rfl rfl rfl e_u3 ?_
      refine zGo_s (pc' := 77) (st' := [.ref 1132]) dd163_76 rfl ?_
      refine zGo_s (pc' := 78) (st' := [.int (0 : Int32), .ref 1132]) dd163_77 rfl ?_
      obtain ⟨u4, e_u4, h⟩ := olet h
      refine mPI dd163_78 rfl rfl rfl rfl rfl rfl e_u4 ?_
      refine zGo_s (pc' := 82) (st' := [.ref 1132]) dd163_81 rfl ?_
      obtain ⟨u5, hq, h⟩ := obn0 h
      refine zCV0 (As := []) (rest := []) (b := 1132) (q' := q_164) dd163_82 rfl rfl (rcv_m rfl rfl (by decide)) rfl rfl rfl (f164_ok (d := d) (by omega)  hq) ?_
      exact zGo_lv (lv := [(0, .ref 1132), (1, .ref x1)]) ⟨by simp, by simp, by simp⟩ (f163_85_ok hd _ _ _ _ _ hx1 h)
def f163 (n : Nat) (s : zσ) : Option (Int32 × zσ) :=
    zrd 12 (s.2.2 1132 12) fun a1 =>
    zlet (sI s a1 0 (0 : Int32)) fun u2 =>
    zlet (sI u2 a1 13 (0 : Int32)) fun u3 =>
    zlet (sI u3 a1 16 (0 : Int32)) fun u4 =>
    zlet (sI u4 a1 27 (0 : Int32)) fun u5 =>
    zlet (sI u5 a1 28 (0 : Int32)) fun u6 =>
    zlet (sI u6 a1 31 (0 : Int32)) fun u7 =>
    zlet (sI u7 a1 34 (0 : Int32)) fun u8 =>
    f163_42 n n a1 (0 : Int32) u8
set_option maxRecDepth 20000 in
theorem f163_ok {n d : Nat} {s : zσ} {v : Int32} {s2 : zσ} (hd : 226 ≤ d) (h : f163 n s = some (v, s2)) {w : zσ} {fz : Bool} {L : Nat} {xs : Nat → Int32} : zGo (zX fz L xs) d q_163 (0, [(0, .ref 1132)], [], zmk w s, 0, 0) (some (.int v), zmk w s2, 0, 0) := by
  obtain ⟨d, rfl⟩ : ∃ d0, d = d0 + 1 := ⟨d - 1, by omega⟩
  unfold f163 at h
  refine zGo_s (pc' := 1) (st' := [.ref 1132]) dd163_0 rfl ?_
  obtain ⟨a1, e_a1, c_a1, h⟩ := ordd h
  refine mGR dd163_1 rfl rfl rfl rfl e_a1 ?_
  refine zGo_s (pc' := 5) (st' := []) (lv' := [(1, .ref a1), (0, .ref 1132)]) dd163_4 rfl ?_
  refine zGo_s (pc' := 6) (st' := [.ref a1]) dd163_5 rfl ?_
  refine zGo_s (pc' := 7) (st' := [.int (0 : Int32), .ref a1]) dd163_6 rfl ?_
  obtain ⟨u2, e_u2, h⟩ := olet h
  refine mPI dd163_7 rfl (ck12_s c_a1).1 (ck12_s c_a1).2 rfl rfl rfl e_u2 ?_
  refine zGo_s (pc' := 11) (st' := [.ref a1]) dd163_10 rfl ?_
  refine zGo_s (pc' := 12) (st' := [.int (0 : Int32), .ref a1]) dd163_11 rfl ?_
  obtain ⟨u3, e_u3, h⟩ := olet h
  refine mPI dd163_12 rfl (ck12_s c_a1).1 (ck12_s c_a1).2 rfl rfl rfl e_u3 ?_
  refine zGo_s (pc' := 16) (st' := [.ref a1]) dd163_15 rfl ?_
  refine zGo_s (pc' := 17) (st' := [.int (0 : Int32), .ref a1]) dd163_16 rfl ?_
  obtain ⟨u4, e_u4, h⟩ := olet h
  refine mPI dd163_17 rfl (ck12_s c_a1).1 (ck12_s c_a1).2 rfl rfl rfl e_u4 ?_
  refine zGo_s (pc' := 21) (st' := [.ref a1]) dd163_20 rfl ?_
  refine zGo_s (pc' := 22) (st' := [.int (0 : Int32), .ref a1]) dd163_21 rfl ?_
  obtain ⟨u5, e_u5, h⟩ := olet h
  refine mPI dd163_22 rfl (ck12_s c_a1).1 (ck12_s c_a1).2 rfl rfl rfl e_u5 ?_
  refine zGo_s (pc' := 26) (st' := [.ref a1]) dd163_25 rfl ?_
  refine zGo_s (pc' := 27) (st' := [.int (0 : Int32), .ref a1]) dd163_26 rfl ?_
  obtain ⟨u6, e_u6, h⟩ := olet h
  refine mPI dd163_27 rfl (ck12_s c_a1).1 (ck12_s c_a1).2 rfl rfl rfl e_u6 ?_
  refine zGo_s (pc' := 31) (st' := [.ref a1]) dd163_30 rfl ?_
  refine zGo_s (pc' := 32) (st' := [.int (0 : Int32), .ref a1]) dd163_31 rfl ?_
  obtain ⟨u7, e_u7, h⟩ := olet h
  refine mPI dd163_32 rfl (ck12_s c_a1).1 (ck12_s c_a1).2 rfl rfl rfl e_u7 ?_
  refine zGo_s (pc' := 36) (st' := [.ref a1]) dd163_35 rfl ?_
  refine zGo_s (pc' := 37) (st' := [.int (0 : Int32), .ref a1]) dd163_36 rfl ?_
  obtain ⟨u8, e_u8, h⟩ := olet h
  refine mPI dd163_37 rfl (ck12_s c_a1).1 (ck12_s c_a1).2 rfl rfl rfl e_u8 ?_
  refine zGo_s (pc' := 41) (st' := [.int (0 : Int32)]) dd163_40 rfl ?_
  refine zGo_s (pc' := 42) (st' := []) (lv' := [(2, .int (0 : Int32)), (1, .ref a1), (0, .ref 1132)]) dd163_41 rfl ?_
  exact zGo_lv (lv := [(0, .ref 1132), (1, .ref a1), (2, .int (0 : Int32))]) ⟨by simp, by simp, by simp⟩ (f163_42_ok hd _ _ _ _ _ _ c_a1 h)
/-! PHModel.place()I -/
theorem dd204_0 : decode cX13_place 0 = .ok (.aload_n 0, 1) := by decide +kernel
theorem dd204_1 : decode cX13_place 1 = .ok (.getfield 13, 3) := by decide +kernel
theorem dd204_4 : decode cX13_place 4 = .ok (.ireturn, 1) := by decide +kernel
def f204 (n : Nat) (s : zσ) : Option (Int32 × zσ) :=
    some ((s.1 1132 2), s)
set_option maxRecDepth 20000 in
theorem f204_ok {n d : Nat} {s : zσ} {v : Int32} {s2 : zσ} (hd : 0 ≤ d) (h : f204 n s = some (v, s2)) {w : zσ} {fz : Bool} {L : Nat} {xs : Nat → Int32} : zGo (zX fz L xs) d q_204 (0, [(0, .ref 1132)], [], zmk w s, 0, 0) (some (.int v), zmk w s2, 0, 0) := by
  unfold f204 at h
  refine zGo_s (pc' := 1) (st' := [.ref 1132]) dd204_0 rfl ?_
  refine mGI dd204_1 rfl rfl rfl rfl ?_
  obtain ⟨rfl, rfl⟩ := oret h
  exact zGo_ret dd204_4 rfl rfl
/-! PHModel.declared(I)I -/
theorem dd205_0 : decode cX13_declared 0 = .ok (.iload_n 1, 1) := by decide +kernel
theorem dd205_1 : decode cX13_declared 1 = .ok (.ifCond .lt 9, 3) := by decide +kernel
theorem dd205_4 : decode cX13_declared 4 = .ok (.iload_n 1, 1) := by decide +kernel
theorem dd205_5 : decode cX13_declared 5 = .ok (.bipush 10, 2) := by decide +kernel
theorem dd205_7 : decode cX13_declared 7 = .ok (.if_icmp .le 6, 3) := by decide +kernel
theorem dd205_10 : decode cX13_declared 10 = .ok (.bipush (-2), 2) := by decide +kernel
theorem dd205_12 : decode cX13_declared 12 = .ok (.ireturn, 1) := by decide +kernel
theorem dd205_13 : decode cX13_declared 13 = .ok (.aload_n 0, 1) := by decide +kernel
theorem dd205_14 : decode cX13_declared 14 = .ok (.getfield 553, 3) := by decide +kernel
theorem dd205_17 : decode cX13_declared 17 = .ok (.ifCond .ne 7, 3) := by decide +kernel
theorem dd205_20 : decode cX13_declared 20 = .ok (.iconst 0, 1) := by decide +kernel
theorem dd205_21 : decode cX13_declared 21 = .ok (.goto 44, 3) := by decide +kernel
theorem dd205_24 : decode cX13_declared 24 = .ok (.iload_n 1, 1) := by decide +kernel
theorem dd205_25 : decode cX13_declared 25 = .ok (.bipush 9, 2) := by decide +kernel
theorem dd205_27 : decode cX13_declared 27 = .ok (.if_icmp .ne 13, 3) := by decide +kernel
theorem dd205_30 : decode cX13_declared 30 = .ok (.aload_n 0, 1) := by decide +kernel
theorem dd205_31 : decode cX13_declared 31 = .ok (.getfield 20, 3) := by decide +kernel
theorem dd205_34 : decode cX13_declared 34 = .ok (.getfield 438, 3) := by decide +kernel
theorem dd205_37 : decode cX13_declared 37 = .ok (.goto 28, 3) := by decide +kernel
theorem dd205_40 : decode cX13_declared 40 = .ok (.iload_n 1, 1) := by decide +kernel
theorem dd205_41 : decode cX13_declared 41 = .ok (.bipush 10, 2) := by decide +kernel
theorem dd205_43 : decode cX13_declared 43 = .ok (.if_icmp .ne 13, 3) := by decide +kernel
theorem dd205_46 : decode cX13_declared 46 = .ok (.aload_n 0, 1) := by decide +kernel
theorem dd205_47 : decode cX13_declared 47 = .ok (.getfield 20, 3) := by decide +kernel
theorem dd205_50 : decode cX13_declared 50 = .ok (.getfield 285, 3) := by decide +kernel
theorem dd205_53 : decode cX13_declared 53 = .ok (.goto 12, 3) := by decide +kernel
theorem dd205_56 : decode cX13_declared 56 = .ok (.aload_n 0, 1) := by decide +kernel
theorem dd205_57 : decode cX13_declared 57 = .ok (.getfield 20, 3) := by decide +kernel
theorem dd205_60 : decode cX13_declared 60 = .ok (.getfield 270, 3) := by decide +kernel
theorem dd205_63 : decode cX13_declared 63 = .ok (.iload_n 1, 1) := by decide +kernel
theorem dd205_64 : decode cX13_declared 64 = .ok (.iaload, 1) := by decide +kernel
theorem dd205_65 : decode cX13_declared 65 = .ok (.ireturn, 1) := by decide +kernel
def f205 (n : Nat) (x1 : Int32) (s : zσ) : Option (Int32 × zσ) :=
    if x1 < (0 : Int32) then
    some ((-2 : Int32), s)
    else if (10 : Int32) < x1 then
    some ((-2 : Int32), s)
    else if (s.1 1132 13) = (0 : Int32) then
    some ((0 : Int32), s)
    else if x1 = (9 : Int32) then
    zrd 12 (s.2.2 1132 11) fun a3 =>
    some ((s.1 a3 16), s)
    else if x1 = (10 : Int32) then
    zrd 12 (s.2.2 1132 11) fun a2 =>
    some ((s.1 a2 27), s)
    else zrd 12 (s.2.2 1132 11) fun a1 =>
    if zin? x1 9 = true then
    some ((s.1 (a1 + 4) (nx x1)), s)
    else none
set_option maxRecDepth 20000 in
theorem f205_ok {n d : Nat} {x1 : Int32} {s : zσ} {v : Int32} {s2 : zσ} (hd : 0 ≤ d) (h : f205 n x1 s = some (v, s2)) {w : zσ} {fz : Bool} {L : Nat} {xs : Nat → Int32} : zGo (zX fz L xs) d q_205 (0, [(0, .ref 1132), (1, .int x1)], [], zmk w s, 0, 0) (some (.int v), zmk w s2, 0, 0) := by
  unfold f205 at h
  refine zGo_s (pc' := 1) (st' := [.int x1]) dd205_0 rfl ?_
  rcases oite h with ⟨hc, h⟩ | ⟨hc, h⟩
  · refine zUT dd205_1 rfl (kLtT hc) ?_
    refine zGo_s (pc' := 12) (st' := [.int (-2 : Int32)]) dd205_10 rfl ?_
    obtain ⟨rfl, rfl⟩ := oret h
    exact zGo_ret dd205_12 rfl rfl
  · refine zUF dd205_1 (kLtF hc) ?_
    refine zGo_s (pc' := 5) (st' := [.int x1]) dd205_4 rfl ?_
    refine zGo_s (pc' := 7) (st' := [.int (10 : Int32), .int x1]) dd205_5 rfl ?_
    rcases oite h with ⟨hc, h⟩ | ⟨hc, h⟩
    · refine zIF dd205_7 (kLeF hc) ?_
      refine zGo_s (pc' := 12) (st' := [.int (-2 : Int32)]) dd205_10 rfl ?_
      obtain ⟨rfl, rfl⟩ := oret h
      exact zGo_ret dd205_12 rfl rfl
    · refine zIT dd205_7 rfl (kLeT hc) ?_
      refine zGo_s (pc' := 14) (st' := [.ref 1132]) dd205_13 rfl ?_
      refine mGI dd205_14 rfl rfl rfl rfl ?_
      rcases oite h with ⟨hc, h⟩ | ⟨hc, h⟩
      · refine zUF dd205_17 (kNeF hc) ?_
        refine zGo_s (pc' := 21) (st' := [.int (0 : Int32)]) dd205_20 rfl ?_
        refine zGo_s (pc' := 65) (st' := [.int (0 : Int32)]) dd205_21 rfl ?_
        obtain ⟨rfl, rfl⟩ := oret h
        exact zGo_ret dd205_65 rfl rfl
      · refine zUT dd205_17 rfl (kNeT hc) ?_
        refine zGo_s (pc' := 25) (st' := [.int x1]) dd205_24 rfl ?_
        refine zGo_s (pc' := 27) (st' := [.int (9 : Int32), .int x1]) dd205_25 rfl ?_
        rcases oite h with ⟨hc, h⟩ | ⟨hc, h⟩
        · refine zIF dd205_27 (kNeF hc) ?_
          refine zGo_s (pc' := 31) (st' := [.ref 1132]) dd205_30 rfl ?_
          obtain ⟨a3, e_a3, c_a3, h⟩ := ordd h
          refine mGR dd205_31 rfl rfl rfl rfl e_a3 ?_
          refine mGI dd205_34 rfl (ck12_s c_a3).1 (ck12_s c_a3).2 rfl ?_
          refine zGo_s (pc' := 65) (st' := [.int (s.1 a3 16)]) dd205_37 rfl ?_
          obtain ⟨rfl, rfl⟩ := oret h
          exact zGo_ret dd205_65 rfl rfl
        · refine zIT dd205_27 rfl (kNeT hc) ?_
          refine zGo_s (pc' := 41) (st' := [.int x1]) dd205_40 rfl ?_
          refine zGo_s (pc' := 43) (st' := [.int (10 : Int32), .int x1]) dd205_41 rfl ?_
          rcases oite h with ⟨hc, h⟩ | ⟨hc, h⟩
          · refine zIF dd205_43 (kNeF hc) ?_
            refine zGo_s (pc' := 47) (st' := [.ref 1132]) dd205_46 rfl ?_
            obtain ⟨a2, e_a2, c_a2, h⟩ := ordd h
            refine mGR dd205_47 rfl rfl rfl rfl e_a2 ?_
            refine mGI dd205_50 rfl (ck12_s c_a2).1 (ck12_s c_a2).2 rfl ?_
            refine zGo_s (pc' := 65) (st' := [.int (s.1 a2 27)]) dd205_53 rfl ?_
            obtain ⟨rfl, rfl⟩ := oret h
            exact zGo_ret dd205_65 rfl rfl
          · refine zIT dd205_43 rfl (kNeT hc) ?_
            refine zGo_s (pc' := 57) (st' := [.ref 1132]) dd205_56 rfl ?_
            obtain ⟨a1, e_a1, c_a1, h⟩ := ordd h
            refine mGR dd205_57 rfl rfl rfl rfl e_a1 ?_
            refine mGF (e := (a1 + 4)) dd205_60 rfl (ck12_s c_a1).1 (ck12_s c_a1).2 rfl (cf12_4 c_a1).1 ?_
            refine zGo_s (pc' := 64) (st' := [.int x1, .ref (a1 + 4)]) dd205_63 rfl ?_
            obtain ⟨hi, h⟩ := ochk h
            refine mIA dd205_64 (cf12_4 c_a1).2.1 (cf12_4 c_a1).2.2 hi ?_
            obtain ⟨rfl, rfl⟩ := oret h
            exact zGo_ret dd205_65 rfl rfl
/-! PHModel.find(IJ)I -/
theorem dd206_0 : decode cX13_find 0 = .ok (.iconst 0, 1) := by decide +kernel
theorem dd206_1 : decode cX13_find 1 = .ok (.istore 4, 2) := by decide +kernel
theorem dd206_3 : decode cX13_find 3 = .ok (.aload_n 0, 1) := by decide +kernel
theorem dd206_4 : decode cX13_find 4 = .ok (.getfield 553, 3) := by decide +kernel
theorem dd206_7 : decode cX13_find 7 = .ok (.ifCond .eq 61, 3) := by decide +kernel
theorem dd206_10 : decode cX13_find 10 = .ok (.iload 4, 2) := by decide +kernel
theorem dd206_12 : decode cX13_find 12 = .ok (.aload_n 0, 1) := by decide +kernel
theorem dd206_13 : decode cX13_find 13 = .ok (.getfield 20, 3) := by decide +kernel
theorem dd206_16 : decode cX13_find 16 = .ok (.getfield 273, 3) := by decide +kernel
theorem dd206_19 : decode cX13_find 19 = .ok (.if_icmp .ge 49, 3) := by decide +kernel
theorem dd206_22 : decode cX13_find 22 = .ok (.aload_n 0, 1) := by decide +kernel
theorem dd206_23 : decode cX13_find 23 = .ok (.getfield 20, 3) := by decide +kernel
theorem dd206_26 : decode cX13_find 26 = .ok (.getfield 276, 3) := by decide +kernel
theorem dd206_29 : decode cX13_find 29 = .ok (.iload 4, 2) := by decide +kernel
theorem dd206_31 : decode cX13_find 31 = .ok (.laload, 1) := by decide +kernel
theorem dd206_32 : decode cX13_find 32 = .ok (.lload_n 2, 1) := by decide +kernel
theorem dd206_33 : decode cX13_find 33 = .ok (.lcmp, 1) := by decide +kernel
theorem dd206_34 : decode cX13_find 34 = .ok (.ifCond .ne 28, 3) := by decide +kernel
theorem dd206_37 : decode cX13_find 37 = .ok (.aload_n 0, 1) := by decide +kernel
theorem dd206_38 : decode cX13_find 38 = .ok (.getfield 20, 3) := by decide +kernel
theorem dd206_41 : decode cX13_find 41 = .ok (.getfield 279, 3) := by decide +kernel
theorem dd206_44 : decode cX13_find 44 = .ok (.iload 4, 2) := by decide +kernel
theorem dd206_46 : decode cX13_find 46 = .ok (.iaload, 1) := by decide +kernel
theorem dd206_47 : decode cX13_find 47 = .ok (.iload_n 1, 1) := by decide +kernel
theorem dd206_48 : decode cX13_find 48 = .ok (.if_icmp .ne 14, 3) := by decide +kernel
theorem dd206_51 : decode cX13_find 51 = .ok (.aload_n 0, 1) := by decide +kernel
theorem dd206_52 : decode cX13_find 52 = .ok (.getfield 20, 3) := by decide +kernel
theorem dd206_55 : decode cX13_find 55 = .ok (.getfield 282, 3) := by decide +kernel
theorem dd206_58 : decode cX13_find 58 = .ok (.iload 4, 2) := by decide +kernel
theorem dd206_60 : decode cX13_find 60 = .ok (.iaload, 1) := by decide +kernel
theorem dd206_61 : decode cX13_find 61 = .ok (.ireturn, 1) := by decide +kernel
theorem dd206_62 : decode cX13_find 62 = .ok (.iinc 4 1, 3) := by decide +kernel
theorem dd206_65 : decode cX13_find 65 = .ok (.goto (-62), 3) := by decide +kernel
theorem dd206_68 : decode cX13_find 68 = .ok (.iconst (-1), 1) := by decide +kernel
theorem dd206_69 : decode cX13_find 69 = .ok (.ireturn, 1) := by decide +kernel
def f206_62 (n : Nat) (r3 : Int32 → Int64 → Int32 → zσ → Option (Int32 × zσ)) (x1 : Int32) (x2 : Int64) (x4 : Int32) (s : zσ) : Option (Int32 × zσ) :=
    r3 x1 x2 (x4 + (1 : Int32)) s
set_option maxRecDepth 20000 in
theorem f206_62_ok {n d : Nat} {r3 : Int32 → Int64 → Int32 → zσ → Option (Int32 × zσ)} {x1 : Int32} {x2 : Int64} {x4 : Int32} {s : zσ} {v : Int32} {s2 : zσ} (hd : 0 ≤ d) (hr3 : ∀ (x1 : Int32) (x2 : Int64) (x4 : Int32) (s : zσ) (v : Int32) (s2 : zσ), r3 x1 x2 x4 s = some (v, s2) → ∀ {w : zσ} {fz : Bool} {L : Nat} {xs : Nat → Int32}, zGo (zX fz L xs) d q_206 (3, [(0, .ref 1132), (1, .int x1), (2, .long x2), (4, .int x4)], [], zmk w s, 0, 0) (some (.int v), zmk w s2, 0, 0)) (h : f206_62 n r3 x1 x2 x4 s = some (v, s2)) {w : zσ} {fz : Bool} {L : Nat} {xs : Nat → Int32} : zGo (zX fz L xs) d q_206 (62, [(0, .ref 1132), (1, .int x1), (2, .long x2), (4, .int x4)], [], zmk w s, 0, 0) (some (.int v), zmk w s2, 0, 0) := by
  unfold f206_62 at h
  refine zGo_s (pc' := 65) (st' := []) (lv' := [(4, .int (x4 + (1 : Int32))), (0, .ref 1132), (1, .int x1), (2, .long x2)]) dd206_62 rfl ?_
  refine zGo_s (pc' := 3) (st' := []) dd206_65 rfl ?_
  exact zGo_lv (lv := [(0, .ref 1132), (1, .int x1), (2, .long x2), (4, .int (x4 + (1 : Int32)))]) ⟨by simp, by simp, by simp⟩ (hr3 _ _ _ _ _ _ h)
def f206_3 (n : Nat) : Nat → Int32 → Int64 → Int32 → zσ → Option (Int32 × zσ)
  | 0, _, _, _, _ => none
  | j + 1, x1, x2, x4, s =>
    if (s.1 1132 13) = (0 : Int32) then
    some ((-1 : Int32), s)
    else zrd 12 (s.2.2 1132 11) fun a1 =>
    if x4 < (s.1 a1 0) then
    zrd 12 (s.2.2 1132 11) fun a2 =>
    if zin? x4 60 = true then
    if (s.2.1 (a2 + 1) (nx x4)) = x2 then
    zrd 12 (s.2.2 1132 11) fun a3 =>
    if zin? x4 60 = true then
    if (s.1 (a3 + 2) (nx x4)) = x1 then
    zrd 12 (s.2.2 1132 11) fun a4 =>
    if zin? x4 60 = true then
    some ((s.1 (a4 + 3) (nx x4)), s)
    else none
    else f206_62 n (f206_3 n j) x1 x2 x4 s
    else none
    else f206_62 n (f206_3 n j) x1 x2 x4 s
    else none
    else some ((-1 : Int32), s)
set_option maxRecDepth 20000 in
theorem f206_3_ok {n d : Nat} (hd : 0 ≤ d) : ∀ (j : Nat) (x1 : Int32) (x2 : Int64) (x4 : Int32) (s : zσ) (v : Int32) (s2 : zσ), f206_3 n j x1 x2 x4 s = some (v, s2) → ∀ {w : zσ} {fz : Bool} {L : Nat} {xs : Nat → Int32}, zGo (zX fz L xs) d q_206 (3, [(0, .ref 1132), (1, .int x1), (2, .long x2), (4, .int x4)], [], zmk w s, 0, 0) (some (.int v), zmk w s2, 0, 0) := by
  intro j
  induction j with
  | zero => intro x1 x2 x4 s v s2 h; cases h
  | succ j ih =>
    intro x1 x2 x4 s v s2 h w fz L xs
    rw [f206_3] at h
    refine zGo_s (pc' := 4) (st' := [.ref 1132]) dd206_3 rfl ?_
    refine mGI dd206_4 rfl rfl rfl rfl ?_
    rcases oite h with ⟨hc, h⟩ | ⟨hc, h⟩
    · refine zUT dd206_7 rfl (kEqT hc) ?_
      refine zGo_s (pc' := 69) (st' := [.int (-1 : Int32)]) dd206_68 rfl ?_
      obtain ⟨rfl, rfl⟩ := oret h
      exact zGo_ret dd206_69 rfl rfl
    · refine zUF dd206_7 (kEqF hc) ?_
      refine zGo_s (pc' := 12) (st' := [.int x4]) dd206_10 rfl ?_
      refine zGo_s (pc' := 13) (st' := [.ref 1132, .int x4]) dd206_12 rfl ?_
      obtain ⟨a1, e_a1, c_a1, h⟩ := ordd h
      refine mGR dd206_13 rfl rfl rfl rfl e_a1 ?_
      refine mGI dd206_16 rfl (ck12_s c_a1).1 (ck12_s c_a1).2 rfl ?_
      rcases oite h with ⟨hc, h⟩ | ⟨hc, h⟩
      · refine zIF dd206_19 (kGeF hc) ?_
        refine zGo_s (pc' := 23) (st' := [.ref 1132]) dd206_22 rfl ?_
        obtain ⟨a2, e_a2, c_a2, h⟩ := ordd h
        refine mGR dd206_23 rfl rfl rfl rfl e_a2 ?_
        refine mGF (e := (a2 + 1)) dd206_26 rfl (ck12_s c_a2).1 (ck12_s c_a2).2 rfl (cf12_1 c_a2).1 ?_
        refine zGo_s (pc' := 31) (st' := [.int x4, .ref (a2 + 1)]) dd206_29 rfl ?_
        obtain ⟨hi, h⟩ := ochk h
        refine mLA dd206_31 (cf12_1 c_a2).2.1 (cf12_1 c_a2).2.2 hi ?_
        refine zGo_s (pc' := 33) (st' := [.long x2, .long (s.2.1 (a2 + 1) (nx x4))]) dd206_32 rfl ?_
        refine zGo_s (pc' := 34) (st' := [.int (lg_cmp (s.2.1 (a2 + 1) (nx x4)) x2)]) dd206_33 rfl ?_
        rcases oite h with ⟨hc, h⟩ | ⟨hc, h⟩
        · refine zUF dd206_34 (kcNeF hc) ?_
          refine zGo_s (pc' := 38) (st' := [.ref 1132]) dd206_37 rfl ?_
          obtain ⟨a3, e_a3, c_a3, h⟩ := ordd h
          refine mGR dd206_38 rfl rfl rfl rfl e_a3 ?_
          refine mGF (e := (a3 + 2)) dd206_41 rfl (ck12_s c_a3).1 (ck12_s c_a3).2 rfl (cf12_2 c_a3).1 ?_
          refine zGo_s (pc' := 46) (st' := [.int x4, .ref (a3 + 2)]) dd206_44 rfl ?_
          obtain ⟨hi, h⟩ := ochk h
          refine mIA dd206_46 (cf12_2 c_a3).2.1 (cf12_2 c_a3).2.2 hi ?_
          refine zGo_s (pc' := 48) (st' := [.int x1, .int (s.1 (a3 + 2) (nx x4))]) dd206_47 rfl ?_
          rcases oite h with ⟨hc, h⟩ | ⟨hc, h⟩
          · refine zIF dd206_48 (kNeF hc) ?_
            refine zGo_s (pc' := 52) (st' := [.ref 1132]) dd206_51 rfl ?_
            obtain ⟨a4, e_a4, c_a4, h⟩ := ordd h
            refine mGR dd206_52 rfl rfl rfl rfl e_a4 ?_
            refine mGF (e := (a4 + 3)) dd206_55 rfl (ck12_s c_a4).1 (ck12_s c_a4).2 rfl (cf12_3 c_a4).1 ?_
            refine zGo_s (pc' := 60) (st' := [.int x4, .ref (a4 + 3)]) dd206_58 rfl ?_
            obtain ⟨hi, h⟩ := ochk h
            refine mIA dd206_60 (cf12_3 c_a4).2.1 (cf12_3 c_a4).2.2 hi ?_
            obtain ⟨rfl, rfl⟩ := oret h
            exact zGo_ret dd206_61 rfl rfl
          · refine zIT dd206_48 rfl (kNeT hc) ?_
            exact f206_62_ok hd ih h
        · refine zUT dd206_34 rfl (kcNeT hc) ?_
          exact f206_62_ok hd ih h
      · refine zIT dd206_19 rfl (kGeT hc) ?_
        refine zGo_s (pc' := 69) (st' := [.int (-1 : Int32)]) dd206_68 rfl ?_
        obtain ⟨rfl, rfl⟩ := oret h
        exact zGo_ret dd206_69 rfl rfl
def f206 (n : Nat) (x1 : Int32) (x2 : Int64) (s : zσ) : Option (Int32 × zσ) :=
    f206_3 n n x1 x2 (0 : Int32) s
set_option maxRecDepth 20000 in
theorem f206_ok {n d : Nat} {x1 : Int32} {x2 : Int64} {s : zσ} {v : Int32} {s2 : zσ} (hd : 0 ≤ d) (h : f206 n x1 x2 s = some (v, s2)) {w : zσ} {fz : Bool} {L : Nat} {xs : Nat → Int32} : zGo (zX fz L xs) d q_206 (0, [(0, .ref 1132), (1, .int x1), (2, .long x2)], [], zmk w s, 0, 0) (some (.int v), zmk w s2, 0, 0) := by
  unfold f206 at h
  refine zGo_s (pc' := 1) (st' := [.int (0 : Int32)]) dd206_0 rfl ?_
  refine zGo_s (pc' := 3) (st' := []) (lv' := [(4, .int (0 : Int32)), (0, .ref 1132), (1, .int x1), (2, .long x2)]) dd206_1 rfl ?_
  exact zGo_lv (lv := [(0, .ref 1132), (1, .int x1), (2, .long x2), (4, .int (0 : Int32))]) ⟨by simp, by simp, by simp⟩ (f206_3_ok hd _ _ _ _ _ _ _ h)
/-! PHModel.processors(I)I -/
theorem dd207_0 : decode cX13_processors 0 = .ok (.iload_n 1, 1) := by decide +kernel
theorem dd207_1 : decode cX13_processors 1 = .ok (.iconst 1, 1) := by decide +kernel
theorem dd207_2 : decode cX13_processors 2 = .ok (.if_icmp .lt 8, 3) := by decide +kernel
theorem dd207_5 : decode cX13_processors 5 = .ok (.iload_n 1, 1) := by decide +kernel
theorem dd207_6 : decode cX13_processors 6 = .ok (.iconst 3, 1) := by decide +kernel
theorem dd207_7 : decode cX13_processors 7 = .ok (.if_icmp .le 6, 3) := by decide +kernel
theorem dd207_10 : decode cX13_processors 10 = .ok (.bipush (-2), 2) := by decide +kernel
theorem dd207_12 : decode cX13_processors 12 = .ok (.ireturn, 1) := by decide +kernel
theorem dd207_13 : decode cX13_processors 13 = .ok (.aload_n 0, 1) := by decide +kernel
theorem dd207_14 : decode cX13_processors 14 = .ok (.getfield 30, 3) := by decide +kernel
theorem dd207_17 : decode cX13_processors 17 = .ok (.istore_n 2, 1) := by decide +kernel
theorem dd207_18 : decode cX13_processors 18 = .ok (.aload_n 0, 1) := by decide +kernel
theorem dd207_19 : decode cX13_processors 19 = .ok (.iload_n 1, 1) := by decide +kernel
theorem dd207_20 : decode cX13_processors 20 = .ok (.putfield 30, 3) := by decide +kernel
theorem dd207_23 : decode cX13_processors 23 = .ok (.iload_n 2, 1) := by decide +kernel
theorem dd207_24 : decode cX13_processors 24 = .ok (.ireturn, 1) := by decide +kernel
def f207 (n : Nat) (x1 : Int32) (s : zσ) : Option (Int32 × zσ) :=
    if x1 < (1 : Int32) then
    some ((-2 : Int32), s)
    else if (3 : Int32) < x1 then
    some ((-2 : Int32), s)
    else zlet ((s.1 1132 18)) fun v1 =>
    zlet (sI s 1132 18 x1) fun u2 =>
    some (v1, u2)
set_option maxRecDepth 20000 in
theorem f207_ok {n d : Nat} {x1 : Int32} {s : zσ} {v : Int32} {s2 : zσ} (hd : 0 ≤ d) (h : f207 n x1 s = some (v, s2)) {w : zσ} {fz : Bool} {L : Nat} {xs : Nat → Int32} : zGo (zX fz L xs) d q_207 (0, [(0, .ref 1132), (1, .int x1)], [], zmk w s, 0, 0) (some (.int v), zmk w s2, 0, 0) := by
  unfold f207 at h
  refine zGo_s (pc' := 1) (st' := [.int x1]) dd207_0 rfl ?_
  refine zGo_s (pc' := 2) (st' := [.int (1 : Int32), .int x1]) dd207_1 rfl ?_
  rcases oite h with ⟨hc, h⟩ | ⟨hc, h⟩
  · refine zIT dd207_2 rfl (kLtT hc) ?_
    refine zGo_s (pc' := 12) (st' := [.int (-2 : Int32)]) dd207_10 rfl ?_
    obtain ⟨rfl, rfl⟩ := oret h
    exact zGo_ret dd207_12 rfl rfl
  · refine zIF dd207_2 (kLtF hc) ?_
    refine zGo_s (pc' := 6) (st' := [.int x1]) dd207_5 rfl ?_
    refine zGo_s (pc' := 7) (st' := [.int (3 : Int32), .int x1]) dd207_6 rfl ?_
    rcases oite h with ⟨hc, h⟩ | ⟨hc, h⟩
    · refine zIF dd207_7 (kLeF hc) ?_
      refine zGo_s (pc' := 12) (st' := [.int (-2 : Int32)]) dd207_10 rfl ?_
      obtain ⟨rfl, rfl⟩ := oret h
      exact zGo_ret dd207_12 rfl rfl
    · refine zIT dd207_7 rfl (kLeT hc) ?_
      refine zGo_s (pc' := 14) (st' := [.ref 1132]) dd207_13 rfl ?_
      refine mGI dd207_14 rfl rfl rfl rfl ?_
      obtain ⟨v1, e_v1, h⟩ := olet h
      refine zGo_is1 e_v1 dd207_17 (x' := (18, [(2, .int v1), (0, .ref 1132), (1, .int x1)], [], _, _, _)) rfl ?_
      refine zGo_s (pc' := 19) (st' := [.ref 1132]) dd207_18 rfl ?_
      refine zGo_s (pc' := 20) (st' := [.int x1, .ref 1132]) dd207_19 rfl ?_
      obtain ⟨u2, e_u2, h⟩ := olet h
      refine mPI dd207_20 rfl rfl rfl rfl rfl rfl e_u2 ?_
      refine zGo_s (pc' := 24) (st' := [.int v1]) dd207_23 rfl ?_
      obtain ⟨rfl, rfl⟩ := oret h
      exact zGo_ret dd207_24 rfl rfl
/-! PHModel.tasks()I -/
theorem dd209_0 : decode cX13_tasks 0 = .ok (.aload_n 0, 1) := by decide +kernel
theorem dd209_1 : decode cX13_tasks 1 = .ok (.getfield 20, 3) := by decide +kernel
theorem dd209_4 : decode cX13_tasks 4 = .ok (.getfield 270, 3) := by decide +kernel
theorem dd209_7 : decode cX13_tasks 7 = .ok (.bipush 8, 2) := by decide +kernel
theorem dd209_9 : decode cX13_tasks 9 = .ok (.iaload, 1) := by decide +kernel
theorem dd209_10 : decode cX13_tasks 10 = .ok (.ireturn, 1) := by decide +kernel
def f209 (n : Nat) (s : zσ) : Option (Int32 × zσ) :=
    zrd 12 (s.2.2 1132 11) fun a1 =>
    if zin? (8 : Int32) 9 = true then
    some ((s.1 (a1 + 4) (nx (8 : Int32))), s)
    else none
set_option maxRecDepth 20000 in
theorem f209_ok {n d : Nat} {s : zσ} {v : Int32} {s2 : zσ} (hd : 0 ≤ d) (h : f209 n s = some (v, s2)) {w : zσ} {fz : Bool} {L : Nat} {xs : Nat → Int32} : zGo (zX fz L xs) d q_209 (0, [(0, .ref 1132)], [], zmk w s, 0, 0) (some (.int v), zmk w s2, 0, 0) := by
  unfold f209 at h
  refine zGo_s (pc' := 1) (st' := [.ref 1132]) dd209_0 rfl ?_
  obtain ⟨a1, e_a1, c_a1, h⟩ := ordd h
  refine mGR dd209_1 rfl rfl rfl rfl e_a1 ?_
  refine mGF (e := (a1 + 4)) dd209_4 rfl (ck12_s c_a1).1 (ck12_s c_a1).2 rfl (cf12_4 c_a1).1 ?_
  refine zGo_s (pc' := 9) (st' := [.int (8 : Int32), .ref (a1 + 4)]) dd209_7 rfl ?_
  obtain ⟨hi, h⟩ := ochk h
  refine mIA dd209_9 (cf12_4 c_a1).2.1 (cf12_4 c_a1).2.2 hi ?_
  obtain ⟨rfl, rfl⟩ := oret h
  exact zGo_ret dd209_10 rfl rfl
/-! PHModel.push(IIZ)V -/
theorem dd212_0 : decode cX13_push 0 = .ok (.sipush 140, 3) := by decide +kernel
theorem dd212_3 : decode cX13_push 3 = .ok (.iload_n 1, 1) := by decide +kernel
theorem dd212_4 : decode cX13_push 4 = .ok (.imul, 1) := by decide +kernel
theorem dd212_5 : decode cX13_push 5 = .ok (.aload_n 0, 1) := by decide +kernel
theorem dd212_6 : decode cX13_push 6 = .ok (.getfield 121, 3) := by decide +kernel
theorem dd212_9 : decode cX13_push 9 = .ok (.iload_n 1, 1) := by decide +kernel
theorem dd212_10 : decode cX13_push 10 = .ok (.iaload, 1) := by decide +kernel
theorem dd212_11 : decode cX13_push 11 = .ok (.iadd, 1) := by decide +kernel
theorem dd212_12 : decode cX13_push 12 = .ok (.istore 4, 2) := by decide +kernel
theorem dd212_14 : decode cX13_push 14 = .ok (.aload_n 0, 1) := by decide +kernel
theorem dd212_15 : decode cX13_push 15 = .ok (.getfield 124, 3) := by decide +kernel
theorem dd212_18 : decode cX13_push 18 = .ok (.iload 4, 2) := by decide +kernel
theorem dd212_20 : decode cX13_push 20 = .ok (.iload_n 2, 1) := by decide +kernel
theorem dd212_21 : decode cX13_push 21 = .ok (.iastore, 1) := by decide +kernel
theorem dd212_22 : decode cX13_push 22 = .ok (.aload_n 0, 1) := by decide +kernel
theorem dd212_23 : decode cX13_push 23 = .ok (.getfield 127, 3) := by decide +kernel
theorem dd212_26 : decode cX13_push 26 = .ok (.iload 4, 2) := by decide +kernel
theorem dd212_28 : decode cX13_push 28 = .ok (.aload_n 0, 1) := by decide +kernel
theorem dd212_29 : decode cX13_push 29 = .ok (.getfield 20, 3) := by decide +kernel
theorem dd212_32 : decode cX13_push 32 = .ok (.getfield 348, 3) := by decide +kernel
theorem dd212_35 : decode cX13_push 35 = .ok (.iload_n 2, 1) := by decide +kernel
theorem dd212_36 : decode cX13_push 36 = .ok (.iaload, 1) := by decide +kernel
theorem dd212_37 : decode cX13_push 37 = .ok (.iastore, 1) := by decide +kernel
theorem dd212_38 : decode cX13_push 38 = .ok (.aload_n 0, 1) := by decide +kernel
theorem dd212_39 : decode cX13_push 39 = .ok (.getfield 130, 3) := by decide +kernel
theorem dd212_42 : decode cX13_push 42 = .ok (.iload 4, 2) := by decide +kernel
theorem dd212_44 : decode cX13_push 44 = .ok (.iload_n 3, 1) := by decide +kernel
theorem dd212_45 : decode cX13_push 45 = .ok (.bastore, 1) := by decide +kernel
theorem dd212_46 : decode cX13_push 46 = .ok (.aload_n 0, 1) := by decide +kernel
theorem dd212_47 : decode cX13_push 47 = .ok (.getfield 121, 3) := by decide +kernel
theorem dd212_50 : decode cX13_push 50 = .ok (.iload_n 1, 1) := by decide +kernel
theorem dd212_51 : decode cX13_push 51 = .ok (.dup2, 1) := by decide +kernel
theorem dd212_52 : decode cX13_push 52 = .ok (.iaload, 1) := by decide +kernel
theorem dd212_53 : decode cX13_push 53 = .ok (.iconst 1, 1) := by decide +kernel
theorem dd212_54 : decode cX13_push 54 = .ok (.iadd, 1) := by decide +kernel
theorem dd212_55 : decode cX13_push 55 = .ok (.iastore, 1) := by decide +kernel
theorem dd212_56 : decode cX13_push 56 = .ok (.iload_n 3, 1) := by decide +kernel
theorem dd212_57 : decode cX13_push 57 = .ok (.ifCond .eq 23, 3) := by decide +kernel
theorem dd212_60 : decode cX13_push 60 = .ok (.aload_n 0, 1) := by decide +kernel
theorem dd212_61 : decode cX13_push 61 = .ok (.getfield 118, 3) := by decide +kernel
theorem dd212_64 : decode cX13_push 64 = .ok (.iload_n 1, 1) := by decide +kernel
theorem dd212_65 : decode cX13_push 65 = .ok (.dup2, 1) := by decide +kernel
theorem dd212_66 : decode cX13_push 66 = .ok (.iaload, 1) := by decide +kernel
theorem dd212_67 : decode cX13_push 67 = .ok (.iconst 1, 1) := by decide +kernel
theorem dd212_68 : decode cX13_push 68 = .ok (.iadd, 1) := by decide +kernel
theorem dd212_69 : decode cX13_push 69 = .ok (.iastore, 1) := by decide +kernel
theorem dd212_70 : decode cX13_push 70 = .ok (.aload_n 0, 1) := by decide +kernel
theorem dd212_71 : decode cX13_push 71 = .ok (.dup, 1) := by decide +kernel
theorem dd212_72 : decode cX13_push 72 = .ok (.getfield 577, 3) := by decide +kernel
theorem dd212_75 : decode cX13_push 75 = .ok (.iconst 1, 1) := by decide +kernel
theorem dd212_76 : decode cX13_push 76 = .ok (.iadd, 1) := by decide +kernel
theorem dd212_77 : decode cX13_push 77 = .ok (.putfield 577, 3) := by decide +kernel
theorem dd212_80 : decode cX13_push 80 = .ok (.return_, 1) := by decide +kernel
def f212 (n : Nat) (x1 : Int32) (x2 : Int32) (x3 : Int32) (s : zσ) : Option zσ :=
    if zin? x1 8 = true then
    zlet ((((140 : Int32) * x1) + (s.1 1235 (nx x1)))) fun v1 =>
    if zin? v1 1120 = true then
    zlet (sI s 1236 (nx v1) x2) fun u2 =>
    zrd 12 (u2.2.2 1132 11) fun a3 =>
    if zin? x2 2000 = true then
    if zin? v1 1120 = true then
    zlet (sI u2 1237 (nx v1) (u2.1 (a3 + 13) (nx x2))) fun u4 =>
    if zin? v1 1120 = true then
    zlet (sI u4 1238 (nx v1) (vp_nar .boolean x3)) fun u5 =>
    if zin? x1 8 = true then
    if zin? x1 8 = true then
    zlet (sI u5 1235 (nx x1) ((u5.1 1235 (nx x1)) + (1 : Int32))) fun u6 =>
    if x3 = (0 : Int32) then
    some u6
    else if zin? x1 8 = true then
    if zin? x1 8 = true then
    zlet (sI u6 1234 (nx x1) ((u6.1 1234 (nx x1)) + (1 : Int32))) fun u7 =>
    zlet (sI u7 1132 26 ((u7.1 1132 26) + (1 : Int32))) fun u8 =>
    some u8
    else none
    else none
    else none
    else none
    else none
    else none
    else none
    else none
    else none
set_option maxRecDepth 20000 in
theorem f212_ok {n d : Nat} {x1 : Int32} {x2 : Int32} {x3 : Int32} {s : zσ} {s2 : zσ} (hd : 0 ≤ d) (h : f212 n x1 x2 x3 s = some s2) {w : zσ} {fz : Bool} {L : Nat} {xs : Nat → Int32} : zGo (zX fz L xs) d q_212 (0, [(0, .ref 1132), (1, .int x1), (2, .int x2), (3, .int x3)], [], zmk w s, 0, 0) (none, zmk w s2, 0, 0) := by
  unfold f212 at h
  refine zGo_s (pc' := 3) (st' := [.int (140 : Int32)]) dd212_0 rfl ?_
  refine zGo_s (pc' := 4) (st' := [.int x1, .int (140 : Int32)]) dd212_3 rfl ?_
  refine zGo_s (pc' := 5) (st' := [.int ((140 : Int32) * x1)]) dd212_4 rfl ?_
  refine zGo_s (pc' := 6) (st' := [.ref 1132, .int ((140 : Int32) * x1)]) dd212_5 rfl ?_
  refine mGF (e := 1235) dd212_6 rfl rfl rfl rfl rfl ?_
  refine zGo_s (pc' := 10) (st' := [.int x1, .ref 1235, .int ((140 : Int32) * x1)]) dd212_9 rfl ?_
  obtain ⟨hi, h⟩ := ochk h
  refine mIA dd212_10 rfl rfl hi ?_
  refine zGo_s (pc' := 12) (st' := [.int (((140 : Int32) * x1) + (s.1 1235 (nx x1)))]) dd212_11 rfl ?_
  obtain ⟨v1, e_v1, h⟩ := olet h
  refine zGo_is1 e_v1 dd212_12 (x' := (14, [(4, .int v1), (0, .ref 1132), (1, .int x1), (2, .int x2), (3, .int x3)], [], _, _, _)) rfl ?_
  refine zGo_s (pc' := 15) (st' := [.ref 1132]) dd212_14 rfl ?_
  refine mGF (e := 1236) dd212_15 rfl rfl rfl rfl rfl ?_
  refine zGo_s (pc' := 20) (st' := [.int v1, .ref 1236]) dd212_18 rfl ?_
  refine zGo_s (pc' := 21) (st' := [.int x2, .int v1, .ref 1236]) dd212_20 rfl ?_
  obtain ⟨hi, h⟩ := ochk h
  obtain ⟨u2, e_u2, h⟩ := olet h
  refine mIS dd212_21 rfl rfl hi e_u2 ?_
  refine zGo_s (pc' := 23) (st' := [.ref 1132]) dd212_22 rfl ?_
  refine mGF (e := 1237) dd212_23 rfl rfl rfl rfl rfl ?_
  refine zGo_s (pc' := 28) (st' := [.int v1, .ref 1237]) dd212_26 rfl ?_
  refine zGo_s (pc' := 29) (st' := [.ref 1132, .int v1, .ref 1237]) dd212_28 rfl ?_
  obtain ⟨a3, e_a3, c_a3, h⟩ := ordd h
  refine mGR dd212_29 rfl rfl rfl rfl e_a3 ?_
  refine mGF (e := (a3 + 13)) dd212_32 rfl (ck12_s c_a3).1 (ck12_s c_a3).2 rfl (cf12_14 c_a3).1 ?_
  refine zGo_s (pc' := 36) (st' := [.int x2, .ref (a3 + 13), .int v1, .ref 1237]) dd212_35 rfl ?_
  obtain ⟨hi, h⟩ := ochk h
  refine mIA dd212_36 (cf12_14 c_a3).2.1 (cf12_14 c_a3).2.2 hi ?_
  obtain ⟨hi, h⟩ := ochk h
  obtain ⟨u4, e_u4, h⟩ := olet h
  refine mIS dd212_37 rfl rfl hi e_u4 ?_
  refine zGo_s (pc' := 39) (st' := [.ref 1132]) dd212_38 rfl ?_
  refine mGF (e := 1238) dd212_39 rfl rfl rfl rfl rfl ?_
  refine zGo_s (pc' := 44) (st' := [.int v1, .ref 1238]) dd212_42 rfl ?_
  refine zGo_s (pc' := 45) (st' := [.int x3, .int v1, .ref 1238]) dd212_44 rfl ?_
  obtain ⟨hi, h⟩ := ochk h
  obtain ⟨u5, e_u5, h⟩ := olet h
  refine mBS dd212_45 rfl rfl rfl hi e_u5 ?_
  refine zGo_s (pc' := 47) (st' := [.ref 1132]) dd212_46 rfl ?_
  refine mGF (e := 1235) dd212_47 rfl rfl rfl rfl rfl ?_
  refine zGo_s (pc' := 51) (st' := [.int x1, .ref 1235]) dd212_50 rfl ?_
  refine zGo_s (pc' := 52) (st' := [.int x1, .ref 1235, .int x1, .ref 1235]) dd212_51 rfl ?_
  obtain ⟨hi, h⟩ := ochk h
  refine mIA dd212_52 rfl rfl hi ?_
  refine zGo_s (pc' := 54) (st' := [.int (1 : Int32), .int (u5.1 1235 (nx x1)), .int x1, .ref 1235]) dd212_53 rfl ?_
  refine zGo_s (pc' := 55) (st' := [.int ((u5.1 1235 (nx x1)) + (1 : Int32)), .int x1, .ref 1235]) dd212_54 rfl ?_
  obtain ⟨hi, h⟩ := ochk h
  obtain ⟨u6, e_u6, h⟩ := olet h
  refine mIS dd212_55 rfl rfl hi e_u6 ?_
  refine zGo_s (pc' := 57) (st' := [.int x3]) dd212_56 rfl ?_
  rcases oite h with ⟨hc, h⟩ | ⟨hc, h⟩
  · refine zUT dd212_57 rfl (kEqT hc) ?_
    obtain rfl := ore0 h
    exact zGo_ret dd212_80 rfl rfl
  · refine zUF dd212_57 (kEqF hc) ?_
    refine zGo_s (pc' := 61) (st' := [.ref 1132]) dd212_60 rfl ?_
    refine mGF (e := 1234) dd212_61 rfl rfl rfl rfl rfl ?_
    refine zGo_s (pc' := 65) (st' := [.int x1, .ref 1234]) dd212_64 rfl ?_
    refine zGo_s (pc' := 66) (st' := [.int x1, .ref 1234, .int x1, .ref 1234]) dd212_65 rfl ?_
    obtain ⟨hi, h⟩ := ochk h
    refine mIA dd212_66 rfl rfl hi ?_
    refine zGo_s (pc' := 68) (st' := [.int (1 : Int32), .int (u6.1 1234 (nx x1)), .int x1, .ref 1234]) dd212_67 rfl ?_
    refine zGo_s (pc' := 69) (st' := [.int ((u6.1 1234 (nx x1)) + (1 : Int32)), .int x1, .ref 1234]) dd212_68 rfl ?_
    obtain ⟨hi, h⟩ := ochk h
    obtain ⟨u7, e_u7, h⟩ := olet h
    refine mIS dd212_69 rfl rfl hi e_u7 ?_
    refine zGo_s (pc' := 71) (st' := [.ref 1132]) dd212_70 rfl ?_
    refine zGo_s (pc' := 72) (st' := [.ref 1132, .ref 1132]) dd212_71 rfl ?_
    refine mGI dd212_72 rfl rfl rfl rfl ?_
    refine zGo_s (pc' := 76) (st' := [.int (1 : Int32), .int (u7.1 1132 26), .ref 1132]) dd212_75 rfl ?_
    refine zGo_s (pc' := 77) (st' := [.int ((u7.1 1132 26) + (1 : Int32)), .ref 1132]) dd212_76 rfl ?_
    obtain ⟨u8, e_u8, h⟩ := olet h
    refine mPI dd212_77 rfl rfl rfl rfl rfl rfl e_u8 ?_
    obtain rfl := ore0 h
    exact zGo_ret dd212_80 rfl rfl
/-! PHModel.top(I)I -/
theorem dd214_0 : decode cX13_top 0 = .ok (.sipush 140, 3) := by decide +kernel
theorem dd214_3 : decode cX13_top 3 = .ok (.iload_n 1, 1) := by decide +kernel
theorem dd214_4 : decode cX13_top 4 = .ok (.imul, 1) := by decide +kernel
theorem dd214_5 : decode cX13_top 5 = .ok (.aload_n 0, 1) := by decide +kernel
theorem dd214_6 : decode cX13_top 6 = .ok (.getfield 121, 3) := by decide +kernel
theorem dd214_9 : decode cX13_top 9 = .ok (.iload_n 1, 1) := by decide +kernel
theorem dd214_10 : decode cX13_top 10 = .ok (.iaload, 1) := by decide +kernel
theorem dd214_11 : decode cX13_top 11 = .ok (.iadd, 1) := by decide +kernel
theorem dd214_12 : decode cX13_top 12 = .ok (.iconst 1, 1) := by decide +kernel
theorem dd214_13 : decode cX13_top 13 = .ok (.isub, 1) := by decide +kernel
theorem dd214_14 : decode cX13_top 14 = .ok (.ireturn, 1) := by decide +kernel
def f214 (n : Nat) (x1 : Int32) (s : zσ) : Option (Int32 × zσ) :=
    if zin? x1 8 = true then
    some (((((140 : Int32) * x1) + (s.1 1235 (nx x1))) - (1 : Int32)), s)
    else none
set_option maxRecDepth 20000 in
theorem f214_ok {n d : Nat} {x1 : Int32} {s : zσ} {v : Int32} {s2 : zσ} (hd : 0 ≤ d) (h : f214 n x1 s = some (v, s2)) {w : zσ} {fz : Bool} {L : Nat} {xs : Nat → Int32} : zGo (zX fz L xs) d q_214 (0, [(0, .ref 1132), (1, .int x1)], [], zmk w s, 0, 0) (some (.int v), zmk w s2, 0, 0) := by
  unfold f214 at h
  refine zGo_s (pc' := 3) (st' := [.int (140 : Int32)]) dd214_0 rfl ?_
  refine zGo_s (pc' := 4) (st' := [.int x1, .int (140 : Int32)]) dd214_3 rfl ?_
  refine zGo_s (pc' := 5) (st' := [.int ((140 : Int32) * x1)]) dd214_4 rfl ?_
  refine zGo_s (pc' := 6) (st' := [.ref 1132, .int ((140 : Int32) * x1)]) dd214_5 rfl ?_
  refine mGF (e := 1235) dd214_6 rfl rfl rfl rfl rfl ?_
  refine zGo_s (pc' := 10) (st' := [.int x1, .ref 1235, .int ((140 : Int32) * x1)]) dd214_9 rfl ?_
  obtain ⟨hi, h⟩ := ochk h
  refine mIA dd214_10 rfl rfl hi ?_
  refine zGo_s (pc' := 12) (st' := [.int (((140 : Int32) * x1) + (s.1 1235 (nx x1)))]) dd214_11 rfl ?_
  refine zGo_s (pc' := 13) (st' := [.int (1 : Int32), .int (((140 : Int32) * x1) + (s.1 1235 (nx x1)))]) dd214_12 rfl ?_
  refine zGo_s (pc' := 14) (st' := [.int ((((140 : Int32) * x1) + (s.1 1235 (nx x1))) - (1 : Int32))]) dd214_13 rfl ?_
  obtain ⟨rfl, rfl⟩ := oret h
  exact zGo_ret dd214_14 rfl rfl
