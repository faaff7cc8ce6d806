/-! PHModel.row(II)V -/
theorem dd255_0 : decode cX13_row 0 = .ok (.aload_n 0, 1) := by decide +kernel
theorem dd255_1 : decode cX13_row 1 = .ok (.getfield 20, 3) := by decide +kernel
theorem dd255_4 : decode cX13_row 4 = .ok (.getfield 544, 3) := by decide +kernel
theorem dd255_7 : decode cX13_row 7 = .ok (.aload_n 0, 1) := by decide +kernel
theorem dd255_8 : decode cX13_row 8 = .ok (.getfield 20, 3) := by decide +kernel
theorem dd255_11 : decode cX13_row 11 = .ok (.getfield 441, 3) := by decide +kernel
theorem dd255_14 : decode cX13_row 14 = .ok (.iload_n 2, 1) := by decide +kernel
theorem dd255_15 : decode cX13_row 15 = .ok (.iaload, 1) := by decide +kernel
theorem dd255_16 : decode cX13_row 16 = .ok (.iaload, 1) := by decide +kernel
theorem dd255_17 : decode cX13_row 17 = .ok (.istore_n 3, 1) := by decide +kernel
theorem dd255_18 : decode cX13_row 18 = .ok (.aload_n 0, 1) := by decide +kernel
theorem dd255_19 : decode cX13_row 19 = .ok (.getfield 20, 3) := by decide +kernel
theorem dd255_22 : decode cX13_row 22 = .ok (.getfield 459, 3) := by decide +kernel
theorem dd255_25 : decode cX13_row 25 = .ok (.iload_n 2, 1) := by decide +kernel
theorem dd255_26 : decode cX13_row 26 = .ok (.iaload, 1) := by decide +kernel
theorem dd255_27 : decode cX13_row 27 = .ok (.bipush 7, 2) := by decide +kernel
theorem dd255_29 : decode cX13_row 29 = .ok (.if_icmp .ne 183, 3) := by decide +kernel
theorem dd255_32 : decode cX13_row 32 = .ok (.aload_n 0, 1) := by decide +kernel
theorem dd255_33 : decode cX13_row 33 = .ok (.iload_n 1, 1) := by decide +kernel
theorem dd255_34 : decode cX13_row 34 = .ok (.aload_n 0, 1) := by decide +kernel
theorem dd255_35 : decode cX13_row 35 = .ok (.getfield 20, 3) := by decide +kernel
theorem dd255_38 : decode cX13_row 38 = .ok (.getfield 469, 3) := by decide +kernel
theorem dd255_41 : decode cX13_row 41 = .ok (.iconst 4, 1) := by decide +kernel
theorem dd255_42 : decode cX13_row 42 = .ok (.iload_n 2, 1) := by decide +kernel
theorem dd255_43 : decode cX13_row 43 = .ok (.imul, 1) := by decide +kernel
theorem dd255_44 : decode cX13_row 44 = .ok (.iaload, 1) := by decide +kernel
theorem dd255_45 : decode cX13_row 45 = .ok (.invokevirtual 662, 3) := by decide +kernel
theorem dd255_48 : decode cX13_row 48 = .ok (.istore 4, 2) := by decide +kernel
theorem dd255_50 : decode cX13_row 50 = .ok (.aload_n 0, 1) := by decide +kernel
theorem dd255_51 : decode cX13_row 51 = .ok (.getfield 623, 3) := by decide +kernel
theorem dd255_54 : decode cX13_row 54 = .ok (.ifCond .ne 30, 3) := by decide +kernel
theorem dd255_57 : decode cX13_row 57 = .ok (.iload 4, 2) := by decide +kernel
theorem dd255_59 : decode cX13_row 59 = .ok (.ifCond .lt 20, 3) := by decide +kernel
theorem dd255_62 : decode cX13_row 62 = .ok (.iload 4, 2) := by decide +kernel
theorem dd255_64 : decode cX13_row 64 = .ok (.bipush 20, 2) := by decide +kernel
theorem dd255_66 : decode cX13_row 66 = .ok (.if_icmp .gt 13, 3) := by decide +kernel
theorem dd255_69 : decode cX13_row 69 = .ok (.aload_n 0, 1) := by decide +kernel
theorem dd255_70 : decode cX13_row 70 = .ok (.getfield 697, 3) := by decide +kernel
theorem dd255_73 : decode cX13_row 73 = .ok (.sipush 4000, 3) := by decide +kernel
theorem dd255_76 : decode cX13_row 76 = .ok (.if_icmp .ne 8, 3) := by decide +kernel
theorem dd255_79 : decode cX13_row 79 = .ok (.aload_n 0, 1) := by decide +kernel
theorem dd255_80 : decode cX13_row 80 = .ok (.iconst 3, 1) := by decide +kernel
theorem dd255_81 : decode cX13_row 81 = .ok (.invokevirtual 644, 3) := by decide +kernel
theorem dd255_84 : decode cX13_row 84 = .ok (.aload_n 0, 1) := by decide +kernel
theorem dd255_85 : decode cX13_row 85 = .ok (.getfield 623, 3) := by decide +kernel
theorem dd255_88 : decode cX13_row 88 = .ok (.ifCond .eq 4, 3) := by decide +kernel
theorem dd255_91 : decode cX13_row 91 = .ok (.return_, 1) := by decide +kernel
theorem dd255_92 : decode cX13_row 92 = .ok (.aload_n 0, 1) := by decide +kernel
theorem dd255_93 : decode cX13_row 93 = .ok (.dup, 1) := by decide +kernel
theorem dd255_94 : decode cX13_row 94 = .ok (.getfield 697, 3) := by decide +kernel
theorem dd255_97 : decode cX13_row 97 = .ok (.iconst 1, 1) := by decide +kernel
theorem dd255_98 : decode cX13_row 98 = .ok (.iadd, 1) := by decide +kernel
theorem dd255_99 : decode cX13_row 99 = .ok (.putfield 697, 3) := by decide +kernel
theorem dd255_102 : decode cX13_row 102 = .ok (.aload_n 0, 1) := by decide +kernel
theorem dd255_103 : decode cX13_row 103 = .ok (.getfield 39, 3) := by decide +kernel
theorem dd255_106 : decode cX13_row 106 = .ok (.iload_n 3, 1) := by decide +kernel
theorem dd255_107 : decode cX13_row 107 = .ok (.iconst (-1), 1) := by decide +kernel
theorem dd255_108 : decode cX13_row 108 = .ok (.iastore, 1) := by decide +kernel
theorem dd255_109 : decode cX13_row 109 = .ok (.iconst 0, 1) := by decide +kernel
theorem dd255_110 : decode cX13_row 110 = .ok (.istore 5, 2) := by decide +kernel
theorem dd255_112 : decode cX13_row 112 = .ok (.aload_n 0, 1) := by decide +kernel
theorem dd255_113 : decode cX13_row 113 = .ok (.getfield 39, 3) := by decide +kernel
theorem dd255_116 : decode cX13_row 116 = .ok (.iconst 0, 1) := by decide +kernel
theorem dd255_117 : decode cX13_row 117 = .ok (.iaload, 1) := by decide +kernel
theorem dd255_118 : decode cX13_row 118 = .ok (.iload 5, 2) := by decide +kernel
theorem dd255_120 : decode cX13_row 120 = .ok (.if_icmp .eq 36, 3) := by decide +kernel
theorem dd255_123 : decode cX13_row 123 = .ok (.aload_n 0, 1) := by decide +kernel
theorem dd255_124 : decode cX13_row 124 = .ok (.getfield 39, 3) := by decide +kernel
theorem dd255_127 : decode cX13_row 127 = .ok (.iconst 1, 1) := by decide +kernel
theorem dd255_128 : decode cX13_row 128 = .ok (.iaload, 1) := by decide +kernel
theorem dd255_129 : decode cX13_row 129 = .ok (.iload 5, 2) := by decide +kernel
theorem dd255_131 : decode cX13_row 131 = .ok (.if_icmp .eq 25, 3) := by decide +kernel
theorem dd255_134 : decode cX13_row 134 = .ok (.aload_n 0, 1) := by decide +kernel
theorem dd255_135 : decode cX13_row 135 = .ok (.getfield 39, 3) := by decide +kernel
theorem dd255_138 : decode cX13_row 138 = .ok (.iconst 2, 1) := by decide +kernel
theorem dd255_139 : decode cX13_row 139 = .ok (.iaload, 1) := by decide +kernel
theorem dd255_140 : decode cX13_row 140 = .ok (.iload 5, 2) := by decide +kernel
theorem dd255_142 : decode cX13_row 142 = .ok (.if_icmp .eq 14, 3) := by decide +kernel
theorem dd255_145 : decode cX13_row 145 = .ok (.aload_n 0, 1) := by decide +kernel
theorem dd255_146 : decode cX13_row 146 = .ok (.getfield 39, 3) := by decide +kernel
theorem dd255_149 : decode cX13_row 149 = .ok (.iconst 3, 1) := by decide +kernel
theorem dd255_150 : decode cX13_row 150 = .ok (.iaload, 1) := by decide +kernel
theorem dd255_151 : decode cX13_row 151 = .ok (.iload 5, 2) := by decide +kernel
theorem dd255_153 : decode cX13_row 153 = .ok (.if_icmp .ne 9, 3) := by decide +kernel
theorem dd255_156 : decode cX13_row 156 = .ok (.iinc 5 1, 3) := by decide +kernel
theorem dd255_159 : decode cX13_row 159 = .ok (.goto (-47), 3) := by decide +kernel
theorem dd255_162 : decode cX13_row 162 = .ok (.aload_n 0, 1) := by decide +kernel
theorem dd255_163 : decode cX13_row 163 = .ok (.getfield 39, 3) := by decide +kernel
theorem dd255_166 : decode cX13_row 166 = .ok (.iload_n 3, 1) := by decide +kernel
theorem dd255_167 : decode cX13_row 167 = .ok (.iload 5, 2) := by decide +kernel
theorem dd255_169 : decode cX13_row 169 = .ok (.iastore, 1) := by decide +kernel
theorem dd255_170 : decode cX13_row 170 = .ok (.aload_n 0, 1) := by decide +kernel
theorem dd255_171 : decode cX13_row 171 = .ok (.getfield 42, 3) := by decide +kernel
theorem dd255_174 : decode cX13_row 174 = .ok (.iload 5, 2) := by decide +kernel
theorem dd255_176 : decode cX13_row 176 = .ok (.iload 4, 2) := by decide +kernel
theorem dd255_178 : decode cX13_row 178 = .ok (.iastore, 1) := by decide +kernel
theorem dd255_179 : decode cX13_row 179 = .ok (.iconst 0, 1) := by decide +kernel
theorem dd255_180 : decode cX13_row 180 = .ok (.istore 6, 2) := by decide +kernel
theorem dd255_182 : decode cX13_row 182 = .ok (.iload 6, 2) := by decide +kernel
theorem dd255_184 : decode cX13_row 184 = .ok (.bipush 20, 2) := by decide +kernel
theorem dd255_186 : decode cX13_row 186 = .ok (.if_icmp .ge 23, 3) := by decide +kernel
theorem dd255_189 : decode cX13_row 189 = .ok (.aload_n 0, 1) := by decide +kernel
theorem dd255_190 : decode cX13_row 190 = .ok (.getfield 45, 3) := by decide +kernel
theorem dd255_193 : decode cX13_row 193 = .ok (.bipush 20, 2) := by decide +kernel
theorem dd255_195 : decode cX13_row 195 = .ok (.iload 5, 2) := by decide +kernel
theorem dd255_197 : decode cX13_row 197 = .ok (.imul, 1) := by decide +kernel
theorem dd255_198 : decode cX13_row 198 = .ok (.iload 6, 2) := by decide +kernel
theorem dd255_200 : decode cX13_row 200 = .ok (.iadd, 1) := by decide +kernel
theorem dd255_201 : decode cX13_row 201 = .ok (.iconst 0, 1) := by decide +kernel
theorem dd255_202 : decode cX13_row 202 = .ok (.iastore, 1) := by decide +kernel
theorem dd255_203 : decode cX13_row 203 = .ok (.iinc 6 1, 3) := by decide +kernel
theorem dd255_206 : decode cX13_row 206 = .ok (.goto (-24), 3) := by decide +kernel
theorem dd255_209 : decode cX13_row 209 = .ok (.goto 49, 3) := by decide +kernel
theorem dd255_212 : decode cX13_row 212 = .ok (.aload_n 0, 1) := by decide +kernel
theorem dd255_213 : decode cX13_row 213 = .ok (.getfield 39, 3) := by decide +kernel
theorem dd255_216 : decode cX13_row 216 = .ok (.iload_n 3, 1) := by decide +kernel
theorem dd255_217 : decode cX13_row 217 = .ok (.aload_n 0, 1) := by decide +kernel
theorem dd255_218 : decode cX13_row 218 = .ok (.getfield 20, 3) := by decide +kernel
theorem dd255_221 : decode cX13_row 221 = .ok (.getfield 459, 3) := by decide +kernel
theorem dd255_224 : decode cX13_row 224 = .ok (.iload_n 2, 1) := by decide +kernel
theorem dd255_225 : decode cX13_row 225 = .ok (.iaload, 1) := by decide +kernel
theorem dd255_226 : decode cX13_row 226 = .ok (.bipush 8, 2) := by decide +kernel
theorem dd255_228 : decode cX13_row 228 = .ok (.if_icmp .ne 28, 3) := by decide +kernel
theorem dd255_231 : decode cX13_row 231 = .ok (.aload_n 0, 1) := by decide +kernel
theorem dd255_232 : decode cX13_row 232 = .ok (.getfield 39, 3) := by decide +kernel
theorem dd255_235 : decode cX13_row 235 = .ok (.aload_n 0, 1) := by decide +kernel
theorem dd255_236 : decode cX13_row 236 = .ok (.getfield 20, 3) := by decide +kernel
theorem dd255_239 : decode cX13_row 239 = .ok (.getfield 544, 3) := by decide +kernel
theorem dd255_242 : decode cX13_row 242 = .ok (.aload_n 0, 1) := by decide +kernel
theorem dd255_243 : decode cX13_row 243 = .ok (.getfield 20, 3) := by decide +kernel
theorem dd255_246 : decode cX13_row 246 = .ok (.getfield 444, 3) := by decide +kernel
theorem dd255_249 : decode cX13_row 249 = .ok (.iload_n 2, 1) := by decide +kernel
theorem dd255_250 : decode cX13_row 250 = .ok (.iaload, 1) := by decide +kernel
theorem dd255_251 : decode cX13_row 251 = .ok (.iaload, 1) := by decide +kernel
theorem dd255_252 : decode cX13_row 252 = .ok (.iaload, 1) := by decide +kernel
theorem dd255_253 : decode cX13_row 253 = .ok (.goto 4, 3) := by decide +kernel
theorem dd255_256 : decode cX13_row 256 = .ok (.iconst (-1), 1) := by decide +kernel
theorem dd255_257 : decode cX13_row 257 = .ok (.iastore, 1) := by decide +kernel
theorem dd255_258 : decode cX13_row 258 = .ok (.aload_n 0, 1) := by decide +kernel
theorem dd255_259 : decode cX13_row 259 = .ok (.iload_n 1, 1) := by decide +kernel
theorem dd255_260 : decode cX13_row 260 = .ok (.invokevirtual 665, 3) := by decide +kernel
theorem dd255_263 : decode cX13_row 263 = .ok (.return_, 1) := by decide +kernel
def f255_258 (n : Nat) (x1 : Int32) (s : zσ) : Option zσ :=
    yb0 (f237 n x1 s) fun u1 =>
    some u1
set_option maxRecDepth 20000 in
theorem f255_258_ok {n d : Nat} {x1 : Int32} {s : zσ} {s2 : zσ} (hd : 26 ≤ d) (h : f255_258 n x1 s = some s2) {w : zσ} {fz : Bool} {L : Nat} {xs : Nat → Int32} : zGo (zX fz L xs) d q_255 (258, [(0, .ref 1132), (1, .int x1)], [], zmk w s, 0, 0) (none, zmk w s2, 0, 0) := by
  obtain ⟨d, rfl⟩ : ∃ d0, d = d0 + 1 := ⟨d - 1, by omega⟩
  unfold f255_258 at h
  refine zGo_s (pc' := 259) (st' := [.ref 1132]) dd255_258 rfl ?_
  refine zGo_s (pc' := 260) (st' := [.int x1, .ref 1132]) dd255_259 rfl ?_
  obtain ⟨u1, hq, h⟩ := obn0 h
  refine zCV0 (As := [.int x1]) (rest := []) (b := 1132) (q' := q_237) dd255_260 rfl rfl (rcv_m rfl rfl (by decide)) rfl rfl rfl (f237_ok (d := d) (by omega)  hq) ?_
  obtain rfl := ore0 h
  exact zGo_ret dd255_263 rfl rfl
def f255_257 (n : Nat) (x1 : Int32) (y0 : Int32) (y1 : Int32) (s : zσ) : Option zσ :=
    if zin? y1 4 = true then
    zlet (sI s 1208 (nx y1) y0) fun u1 =>
    f255_258 n x1 u1
    else none
set_option maxRecDepth 20000 in
theorem f255_257_ok {n d : Nat} {x1 : Int32} {y0 : Int32} {y1 : Int32} {s : zσ} {s2 : zσ} (hd : 26 ≤ d) (h : f255_257 n x1 y0 y1 s = some s2) {w : zσ} {fz : Bool} {L : Nat} {xs : Nat → Int32} : zGo (zX fz L xs) d q_255 (257, [(0, .ref 1132), (1, .int x1)], [.int y0, .int y1, .ref 1208], zmk w s, 0, 0) (none, zmk w s2, 0, 0) := by
  obtain ⟨d, rfl⟩ : ∃ d0, d = d0 + 1 := ⟨d - 1, by omega⟩
  unfold f255_257 at h
  obtain ⟨hi, h⟩ := ochk h
  obtain ⟨u1, e_u1, h⟩ := olet h
  refine mIS dd255_257 rfl rfl hi e_u1 ?_
  exact f255_258_ok hd h
def f255_182 (n : Nat) : Nat → Int32 → Int32 → Int32 → zσ → Option zσ
  | 0, _, _, _, _ => none
  | j + 1, x1, x5, x6, s =>
    if x6 < (20 : Int32) then
    if zin? (((20 : Int32) * x5) + x6) 100 = true then
    zlet (sI s 1210 (nx (((20 : Int32) * x5) + x6)) (0 : Int32)) fun u1 =>
    f255_182 n j x1 x5 (x6 + (1 : Int32)) u1
    else none
    else f255_258 n x1 s
set_option maxRecDepth 20000 in
theorem f255_182_ok {n d : Nat} (hd : 26 ≤ d) : ∀ (j : Nat) (x1 : Int32) (x5 : Int32) (x6 : Int32) (s : zσ) (s2 : zσ), f255_182 n j x1 x5 x6 s = some s2 → ∀ {w : zσ} {fz : Bool} {L : Nat} {xs : Nat → Int32}, zGo (zX fz L xs) d q_255 (182, [(0, .ref 1132), (1, .int x1), (5, .int x5), (6, .int x6)], [], zmk w s, 0, 0) (none, zmk w s2, 0, 0) := by
  obtain ⟨d, rfl⟩ : ∃ d0, d = d0 + 1 := ⟨d - 1, by omega⟩
  intro j
  induction j with
  | zero => intro x1 x5 x6 s s2 h; cases h
  | succ j ih =>
    intro x1 x5 x6 s s2 h w fz L xs
    rw [f255_182] at h
    refine zGo_s (pc' := 184) (st' := [.int x6]) dd255_182 rfl ?_
    refine zGo_s (pc' := 186) (st' := [.int (20 : Int32), .int x6]) dd255_184 rfl ?_
    rcases oite h with ⟨hc, h⟩ | ⟨hc, h⟩
    · refine zIF dd255_186 (kGeF hc) ?_
      refine zGo_s (pc' := 190) (st' := [.ref 1132]) dd255_189 rfl ?_
      refine mGF (e := 1210) dd255_190 rfl rfl rfl rfl rfl ?_
      refine zGo_s (pc' := 195) (st' := [.int (20 : Int32), .ref 1210]) dd255_193 rfl ?_
      refine zGo_s (pc' := 197) (st' := [.int x5, .int (20 : Int32), .ref 1210]) dd255_195 rfl ?_
      refine zGo_s (pc' := 198) (st' := [.int ((20 : Int32) * x5), .ref 1210]) dd255_197 rfl ?_
      refine zGo_s (pc' := 200) (st' := [.int x6, .int ((20 : Int32) * x5), .ref 1210]) dd255_198 rfl ?_
      refine zGo_s (pc' := 201) (st' := [.int (((20 : Int32) * x5) + x6), .ref 1210]) dd255_200 rfl ?_
      refine zGo_s (pc' := 202) (st' := [.int (0 : Int32), .int (((20 : Int32) * x5) + x6), .ref 1210]) dd255_201 rfl ?_
      obtain ⟨hi, h⟩ := ochk h
      obtain ⟨u1, e_u1, h⟩ := olet h
      refine mIS dd255_202 rfl rfl hi e_u1 ?_
      refine zGo_s (pc' := 206) (st' := []) (lv' := [(6, .int (x6 + (1 : Int32))), (0, .ref 1132), (1, .int x1), (5, .int x5)]) dd255_203 rfl ?_
      refine zGo_s (pc' := 182) (st' := []) dd255_206 rfl ?_
      exact zGo_lv (lv := [(0, .ref 1132), (1, .int x1), (5, .int x5), (6, .int (x6 + (1 : Int32)))]) ⟨by simp, by simp, by simp⟩ (ih _ _ _ _ _ h)
    · refine zIT dd255_186 rfl (kGeT hc) ?_
      refine zGo_s (pc' := 258) (st' := []) dd255_209 rfl ?_
      exact zGo_lv (lv := [(0, .ref 1132), (1, .int x1)]) ⟨by simp, by simp, by simp⟩ (f255_258_ok hd h)
def f255_156 (n : Nat) (r112 : Int32 → Int32 → Int32 → Int32 → zσ → Option zσ) (x1 : Int32) (x3 : Int32) (x4 : Int32) (x5 : Int32) (s : zσ) : Option zσ :=
    r112 x1 x3 x4 (x5 + (1 : Int32)) s
set_option maxRecDepth 20000 in
theorem f255_156_ok {n d : Nat} {r112 : Int32 → Int32 → Int32 → Int32 → zσ → Option zσ} {x1 : Int32} {x3 : Int32} {x4 : Int32} {x5 : Int32} {s : zσ} {s2 : zσ} (hd : 26 ≤ d) (hr112 : ∀ (x1 : Int32) (x3 : Int32) (x4 : Int32) (x5 : Int32) (s : zσ) (s2 : zσ), r112 x1 x3 x4 x5 s = some s2 → ∀ {w : zσ} {fz : Bool} {L : Nat} {xs : Nat → Int32}, zGo (zX fz L xs) d q_255 (112, [(0, .ref 1132), (1, .int x1), (3, .int x3), (4, .int x4), (5, .int x5)], [], zmk w s, 0, 0) (none, zmk w s2, 0, 0)) (h : f255_156 n r112 x1 x3 x4 x5 s = some s2) {w : zσ} {fz : Bool} {L : Nat} {xs : Nat → Int32} : zGo (zX fz L xs) d q_255 (156, [(0, .ref 1132), (1, .int x1), (3, .int x3), (4, .int x4), (5, .int x5)], [], zmk w s, 0, 0) (none, zmk w s2, 0, 0) := by
  obtain ⟨d, rfl⟩ : ∃ d0, d = d0 + 1 := ⟨d - 1, by omega⟩
  unfold f255_156 at h
  refine zGo_s (pc' := 159) (st' := []) (lv' := [(5, .int (x5 + (1 : Int32))), (0, .ref 1132), (1, .int x1), (3, .int x3), (4, .int x4)]) dd255_156 rfl ?_
  refine zGo_s (pc' := 112) (st' := []) dd255_159 rfl ?_
  exact zGo_lv (lv := [(0, .ref 1132), (1, .int x1), (3, .int x3), (4, .int x4), (5, .int (x5 + (1 : Int32)))]) ⟨by simp, by simp, by simp⟩ (hr112 _ _ _ _ _ _ h)
def f255_112 (n : Nat) : Nat → Int32 → Int32 → Int32 → Int32 → zσ → Option zσ
  | 0, _, _, _, _, _ => none
  | j + 1, x1, x3, x4, x5, s =>
    if zin? (0 : Int32) 4 = true then
    if (s.1 1208 (nx (0 : Int32))) = x5 then
    f255_156 n (f255_112 n j) x1 x3 x4 x5 s
    else if zin? (1 : Int32) 4 = true then
    if (s.1 1208 (nx (1 : Int32))) = x5 then
    f255_156 n (f255_112 n j) x1 x3 x4 x5 s
    else if zin? (2 : Int32) 4 = true then
    if (s.1 1208 (nx (2 : Int32))) = x5 then
    f255_156 n (f255_112 n j) x1 x3 x4 x5 s
    else if zin? (3 : Int32) 4 = true then
    if (s.1 1208 (nx (3 : Int32))) = x5 then
    f255_156 n (f255_112 n j) x1 x3 x4 x5 s
    else if zin? x3 4 = true then
    zlet (sI s 1208 (nx x3) x5) fun u1 =>
    if zin? x5 5 = true then
    zlet (sI u1 1209 (nx x5) x4) fun u2 =>
    f255_182 n n x1 x5 (0 : Int32) u2
    else none
    else none
    else none
    else none
    else none
    else none
set_option maxRecDepth 20000 in
theorem f255_112_ok {n d : Nat} (hd : 26 ≤ d) : ∀ (j : Nat) (x1 : Int32) (x3 : Int32) (x4 : Int32) (x5 : Int32) (s : zσ) (s2 : zσ), f255_112 n j x1 x3 x4 x5 s = some s2 → ∀ {w : zσ} {fz : Bool} {L : Nat} {xs : Nat → Int32}, zGo (zX fz L xs) d q_255 (112, [(0, .ref 1132), (1, .int x1), (3, .int x3), (4, .int x4), (5, .int x5)], [], zmk w s, 0, 0) (none, zmk w s2, 0, 0) := by
  obtain ⟨d, rfl⟩ : ∃ d0, d = d0 + 1 := ⟨d - 1, by omega⟩
  intro j
  induction j with
  | zero => intro x1 x3 x4 x5 s s2 h; cases h
  | succ j ih =>
    intro x1 x3 x4 x5 s s2 h w fz L xs
    rw [f255_112] at h
    refine zGo_s (pc' := 113) (st' := [.ref 1132]) dd255_112 rfl ?_
    refine mGF (e := 1208) dd255_113 rfl rfl rfl rfl rfl ?_
    refine zGo_s (pc' := 117) (st' := [.int (0 : Int32), .ref 1208]) dd255_116 rfl ?_
    obtain ⟨hi, h⟩ := ochk h
    refine mIA dd255_117 rfl rfl hi ?_
    refine zGo_s (pc' := 120) (st' := [.int x5, .int (s.1 1208 (nx (0 : Int32)))]) dd255_118 rfl ?_
    rcases oite h with ⟨hc, h⟩ | ⟨hc, h⟩
    · refine zIT dd255_120 rfl (kEqT hc) ?_
      exact f255_156_ok hd ih h
    · refine zIF dd255_120 (kEqF hc) ?_
      refine zGo_s (pc' := 124) (st' := [.ref 1132]) dd255_123 rfl ?_
      refine mGF (e := 1208) dd255_124 rfl rfl rfl rfl rfl ?_
      refine zGo_s (pc' := 128) (st' := [.int (1 : Int32), .ref 1208]) dd255_127 rfl ?_
      obtain ⟨hi, h⟩ := ochk h
      refine mIA dd255_128 rfl rfl hi ?_
      refine zGo_s (pc' := 131) (st' := [.int x5, .int (s.1 1208 (nx (1 : Int32)))]) dd255_129 rfl ?_
      rcases oite h with ⟨hc, h⟩ | ⟨hc, h⟩
      · refine zIT dd255_131 rfl (kEqT hc) ?_
        exact f255_156_ok hd ih h
      · refine zIF dd255_131 (kEqF hc) ?_
        refine zGo_s (pc' := 135) (st' := [.ref 1132]) dd255_134 rfl ?_
        refine mGF (e := 1208) dd255_135 rfl rfl rfl rfl rfl ?_
        refine zGo_s (pc' := 139) (st' := [.int (2 : Int32), .ref 1208]) dd255_138 rfl ?_
        obtain ⟨hi, h⟩ := ochk h
        refine mIA dd255_139 rfl rfl hi ?_
        refine zGo_s (pc' := 142) (st' := [.int x5, .int (s.1 1208 (nx (2 : Int32)))]) dd255_140 rfl ?_
        rcases oite h with ⟨hc, h⟩ | ⟨hc, h⟩
        · refine zIT dd255_142 rfl (kEqT hc) ?_
          exact f255_156_ok hd ih h
        · refine zIF dd255_142 (kEqF hc) ?_
          refine zGo_s (pc' := 146) (st' := [.ref 1132]) dd255_145 rfl ?_
          refine mGF (e := 1208) dd255_146 rfl rfl rfl rfl rfl ?_
          refine zGo_s (pc' := 150) (st' := [.int (3 : Int32), .ref 1208]) dd255_149 rfl ?_
          obtain ⟨hi, h⟩ := ochk h
          refine mIA dd255_150 rfl rfl hi ?_
          refine zGo_s (pc' := 153) (st' := [.int x5, .int (s.1 1208 (nx (3 : Int32)))]) dd255_151 rfl ?_
          rcases oite h with ⟨hc, h⟩ | ⟨hc, h⟩
          · refine zIF dd255_153 (kNeF hc) ?_
            exact f255_156_ok hd ih h
          · refine zIT dd255_153 rfl (kNeT hc) ?_
            refine zGo_s (pc' := 163) (st' := [.ref 1132]) dd255_162 rfl ?_
            refine mGF (e := 1208) dd255_163 rfl rfl rfl rfl rfl ?_
            refine zGo_s (pc' := 167) (st' := [.int x3, .ref 1208]) dd255_166 rfl ?_
            refine zGo_s (pc' := 169) (st' := [.int x5, .int x3, .ref 1208]) dd255_167 rfl ?_
            obtain ⟨hi, h⟩ := ochk h
            obtain ⟨u1, e_u1, h⟩ := olet h
            refine mIS dd255_169 rfl rfl hi e_u1 ?_
            refine zGo_s (pc' := 171) (st' := [.ref 1132]) dd255_170 rfl ?_
            refine mGF (e := 1209) dd255_171 rfl rfl rfl rfl rfl ?_
            refine zGo_s (pc' := 176) (st' := [.int x5, .ref 1209]) dd255_174 rfl ?_
            refine zGo_s (pc' := 178) (st' := [.int x4, .int x5, .ref 1209]) dd255_176 rfl ?_
            obtain ⟨hi, h⟩ := ochk h
            obtain ⟨u2, e_u2, h⟩ := olet h
            refine mIS dd255_178 rfl rfl hi e_u2 ?_
            refine zGo_s (pc' := 180) (st' := [.int (0 : Int32)]) dd255_179 rfl ?_
            refine zGo_s (pc' := 182) (st' := []) (lv' := [(6, .int (0 : Int32)), (0, .ref 1132), (1, .int x1), (3, .int x3), (4, .int x4), (5, .int x5)]) dd255_180 rfl ?_
            exact zGo_lv (lv := [(0, .ref 1132), (1, .int x1), (5, .int x5), (6, .int (0 : Int32))]) ⟨by simp, by simp, by simp⟩ (f255_182_ok hd _ _ _ _ _ _ h)
def f255_84 (n : Nat) (x1 : Int32) (x3 : Int32) (x4 : Int32) (s : zσ) : Option zσ :=
    if (s.1 1132 69) = (0 : Int32) then
    zlet (sI s 1132 28 ((s.1 1132 28) + (1 : Int32))) fun u1 =>
    if zin? x3 4 = true then
    zlet (sI u1 1208 (nx x3) (-1 : Int32)) fun u2 =>
    f255_112 n n x1 x3 x4 (0 : Int32) u2
    else none
    else some s
set_option maxRecDepth 20000 in
theorem f255_84_ok {n d : Nat} {x1 : Int32} {x3 : Int32} {x4 : Int32} {s : zσ} {s2 : zσ} (hd : 26 ≤ d) (h : f255_84 n x1 x3 x4 s = some s2) {w : zσ} {fz : Bool} {L : Nat} {xs : Nat → Int32} : zGo (zX fz L xs) d q_255 (84, [(0, .ref 1132), (1, .int x1), (3, .int x3), (4, .int x4)], [], zmk w s, 0, 0) (none, zmk w s2, 0, 0) := by
  obtain ⟨d, rfl⟩ : ∃ d0, d = d0 + 1 := ⟨d - 1, by omega⟩
  unfold f255_84 at h
  refine zGo_s (pc' := 85) (st' := [.ref 1132]) dd255_84 rfl ?_
  refine mGI dd255_85 rfl rfl rfl rfl ?_
  rcases oite h with ⟨hc, h⟩ | ⟨hc, h⟩
  · refine zUT dd255_88 rfl (kEqT hc) ?_
    refine zGo_s (pc' := 93) (st' := [.ref 1132]) dd255_92 rfl ?_
    refine zGo_s (pc' := 94) (st' := [.ref 1132, .ref 1132]) dd255_93 rfl ?_
    refine mGI dd255_94 rfl rfl rfl rfl ?_
    refine zGo_s (pc' := 98) (st' := [.int (1 : Int32), .int (s.1 1132 28), .ref 1132]) dd255_97 rfl ?_
    refine zGo_s (pc' := 99) (st' := [.int ((s.1 1132 28) + (1 : Int32)), .ref 1132]) dd255_98 rfl ?_
    obtain ⟨u1, e_u1, h⟩ := olet h
    refine mPI dd255_99 rfl rfl rfl rfl rfl rfl e_u1 ?_
    refine zGo_s (pc' := 103) (st' := [.ref 1132]) dd255_102 rfl ?_
    refine mGF (e := 1208) dd255_103 rfl rfl rfl rfl rfl ?_
    refine zGo_s (pc' := 107) (st' := [.int x3, .ref 1208]) dd255_106 rfl ?_
    refine zGo_s (pc' := 108) (st' := [.int (-1 : Int32), .int x3, .ref 1208]) dd255_107 rfl ?_
    obtain ⟨hi, h⟩ := ochk h
    obtain ⟨u2, e_u2, h⟩ := olet h
    refine mIS dd255_108 rfl rfl hi e_u2 ?_
    refine zGo_s (pc' := 110) (st' := [.int (0 : Int32)]) dd255_109 rfl ?_
    refine zGo_s (pc' := 112) (st' := []) (lv' := [(5, .int (0 : Int32)), (0, .ref 1132), (1, .int x1), (3, .int x3), (4, .int x4)]) dd255_110 rfl ?_
    exact zGo_lv (lv := [(0, .ref 1132), (1, .int x1), (3, .int x3), (4, .int x4), (5, .int (0 : Int32))]) ⟨by simp, by simp, by simp⟩ (f255_112_ok hd _ _ _ _ _ _ _ h)
  · refine zUF dd255_88 (kEqF hc) ?_
    obtain rfl := ore0 h
    exact zGo_ret dd255_91 rfl rfl
def f255_79 (n : Nat) (x1 : Int32) (x3 : Int32) (x4 : Int32) (s : zσ) : Option zσ :=
    yb0 (f246 n (3 : Int32) s) fun u1 =>
    f255_84 n x1 x3 x4 u1
set_option maxRecDepth 20000 in
theorem f255_79_ok {n d : Nat} {x1 : Int32} {x3 : Int32} {x4 : Int32} {s : zσ} {s2 : zσ} (hd : 26 ≤ d) (h : f255_79 n x1 x3 x4 s = some s2) {w : zσ} {fz : Bool} {L : Nat} {xs : Nat → Int32} : zGo (zX fz L xs) d q_255 (79, [(0, .ref 1132), (1, .int x1), (3, .int x3), (4, .int x4)], [], zmk w s, 0, 0) (none, zmk w s2, 0, 0) := by
  obtain ⟨d, rfl⟩ : ∃ d0, d = d0 + 1 := ⟨d - 1, by omega⟩
  unfold f255_79 at h
  refine zGo_s (pc' := 80) (st' := [.ref 1132]) dd255_79 rfl ?_
  refine zGo_s (pc' := 81) (st' := [.int (3 : Int32), .ref 1132]) dd255_80 rfl ?_
  obtain ⟨u1, hq, h⟩ := obn0 h
  refine zCV0 (As := [.int (3 : Int32)]) (rest := []) (b := 1132) (q' := q_246) dd255_81 rfl rfl (rcv_m rfl rfl (by decide)) rfl rfl rfl (f246_ok (d := d) (by omega)  hq) ?_
  exact f255_84_ok hd h
def f255 (n : Nat) (x1 : Int32) (x2 : Int32) (s : zσ) : Option zσ :=
    zrd 12 (s.2.2 1132 11) fun a1 =>
    zrd 12 (s.2.2 1132 11) fun a2 =>
    if zin? x2 200 = true then
    if zin? (s.1 (a2 + 17) (nx x2)) 1400 = true then
    zlet ((s.1 (a1 + 33) (nx (s.1 (a2 + 17) (nx x2))))) fun v3 =>
    zrd 12 (s.2.2 1132 11) fun a4 =>
    if zin? x2 200 = true then
    if (s.1 (a4 + 15) (nx x2)) = (7 : Int32) then
    zrd 12 (s.2.2 1132 11) fun a8 =>
    if zin? ((4 : Int32) * x2) 800 = true then
    yb1 (f243 n x1 (s.1 (a8 + 22) (nx ((4 : Int32) * x2))) s) fun v10 u9 =>
    if (u9.1 1132 69) = (0 : Int32) then
    if v10 < (0 : Int32) then
    f255_79 n x1 v3 v10 u9
    else if (20 : Int32) < v10 then
    f255_79 n x1 v3 v10 u9
    else if (u9.1 1132 28) = (4000 : Int32) then
    f255_79 n x1 v3 v10 u9
    else f255_84 n x1 v3 v10 u9
    else f255_84 n x1 v3 v10 u9
    else none
    else zrd 12 (s.2.2 1132 11) fun a5 =>
    if zin? x2 200 = true then
    if (s.1 (a5 + 15) (nx x2)) = (8 : Int32) then
    zrd 12 (s.2.2 1132 11) fun a6 =>
    zrd 12 (s.2.2 1132 11) fun a7 =>
    if zin? x2 200 = true then
    if zin? (s.1 (a7 + 18) (nx x2)) 1400 = true then
    if zin? (s.1 (a6 + 33) (nx (s.1 (a7 + 18) (nx x2)))) 4 = true then
    f255_257 n x1 (s.1 1208 (nx (s.1 (a6 + 33) (nx (s.1 (a7 + 18) (nx x2)))))) v3 s
    else none
    else none
    else none
    else f255_257 n x1 (-1 : Int32) v3 s
    else none
    else none
    else none
    else none
set_option maxRecDepth 20000 in
theorem f255_ok {n d : Nat} {x1 : Int32} {x2 : Int32} {s : zσ} {s2 : zσ} (hd : 26 ≤ d) (h : f255 n x1 x2 s = some s2) {w : zσ} {fz : Bool} {L : Nat} {xs : Nat → Int32} : zGo (zX fz L xs) d q_255 (0, [(0, .ref 1132), (1, .int x1), (2, .int x2)], [], zmk w s, 0, 0) (none, zmk w s2, 0, 0) := by
  obtain ⟨d, rfl⟩ : ∃ d0, d = d0 + 1 := ⟨d - 1, by omega⟩
  unfold f255 at h
  refine zGo_s (pc' := 1) (st' := [.ref 1132]) dd255_0 rfl ?_
  obtain ⟨a1, e_a1, c_a1, h⟩ := ordd h
  refine mGR dd255_1 rfl rfl rfl rfl e_a1 ?_
  refine mGF (e := (a1 + 33)) dd255_4 rfl (ck12_s c_a1).1 (ck12_s c_a1).2 rfl (cf12_39 c_a1).1 ?_
  refine zGo_s (pc' := 8) (st' := [.ref 1132, .ref (a1 + 33)]) dd255_7 rfl ?_
  obtain ⟨a2, e_a2, c_a2, h⟩ := ordd h
  refine mGR dd255_8 rfl rfl rfl rfl e_a2 ?_
  refine mGF (e := (a2 + 17)) dd255_11 rfl (ck12_s c_a2).1 (ck12_s c_a2).2 rfl (cf12_19 c_a2).1 ?_
  refine zGo_s (pc' := 15) (st' := [.int x2, .ref (a2 + 17), .ref (a1 + 33)]) dd255_14 rfl ?_
  obtain ⟨hi, h⟩ := ochk h
  refine mIA dd255_15 (cf12_19 c_a2).2.1 (cf12_19 c_a2).2.2 hi ?_
  obtain ⟨hi, h⟩ := ochk h
  refine mIA dd255_16 (cf12_39 c_a1).2.1 (cf12_39 c_a1).2.2 hi ?_
  obtain ⟨v3, e_v3, h⟩ := olet h
  refine zGo_is1 e_v3 dd255_17 (x' := (18, [(3, .int v3), (0, .ref 1132), (1, .int x1), (2, .int x2)], [], _, _, _)) rfl ?_
  refine zGo_s (pc' := 19) (st' := [.ref 1132]) dd255_18 rfl ?_
  obtain ⟨a4, e_a4, c_a4, h⟩ := ordd h
  refine mGR dd255_19 rfl rfl rfl rfl e_a4 ?_
  refine mGF (e := (a4 + 15)) dd255_22 rfl (ck12_s c_a4).1 (ck12_s c_a4).2 rfl (cf12_17 c_a4).1 ?_
  refine zGo_s (pc' := 26) (st' := [.int x2, .ref (a4 + 15)]) dd255_25 rfl ?_
  obtain ⟨hi, h⟩ := ochk h
  refine mIA dd255_26 (cf12_17 c_a4).2.1 (cf12_17 c_a4).2.2 hi ?_
  refine zGo_s (pc' := 29) (st' := [.int (7 : Int32), .int (s.1 (a4 + 15) (nx x2))]) dd255_27 rfl ?_
  rcases oite h with ⟨hc, h⟩ | ⟨hc, h⟩
  · refine zIF dd255_29 (kNeF hc) ?_
    refine zGo_s (pc' := 33) (st' := [.ref 1132]) dd255_32 rfl ?_
    refine zGo_s (pc' := 34) (st' := [.int x1, .ref 1132]) dd255_33 rfl ?_
    refine zGo_s (pc' := 35) (st' := [.ref 1132, .int x1, .ref 1132]) dd255_34 rfl ?_
    obtain ⟨a8, e_a8, c_a8, h⟩ := ordd h
    refine mGR dd255_35 rfl rfl rfl rfl e_a8 ?_
    refine mGF (e := (a8 + 22)) dd255_38 rfl (ck12_s c_a8).1 (ck12_s c_a8).2 rfl (cf12_24 c_a8).1 ?_
    refine zGo_s (pc' := 42) (st' := [.int (4 : Int32), .ref (a8 + 22), .int x1, .ref 1132]) dd255_41 rfl ?_
    refine zGo_s (pc' := 43) (st' := [.int x2, .int (4 : Int32), .ref (a8 + 22), .int x1, .ref 1132]) dd255_42 rfl ?_
    refine zGo_s (pc' := 44) (st' := [.int ((4 : Int32) * x2), .ref (a8 + 22), .int x1, .ref 1132]) dd255_43 rfl ?_
    obtain ⟨hi, h⟩ := ochk h
    refine mIA dd255_44 (cf12_24 c_a8).2.1 (cf12_24 c_a8).2.2 hi ?_
    obtain ⟨v10, u9, hq, h⟩ := obnd h
    refine zCV1 (As := [.int x1, .int (s.1 (a8 + 22) (nx ((4 : Int32) * x2)))]) (rest := []) (b := 1132) (q' := q_243) dd255_45 rfl rfl (rcv_m rfl rfl (by decide)) rfl rfl rfl (f243_ok (d := d) (by omega)  hq) ?_
    refine zGo_s (pc' := 50) (st' := []) (lv' := [(4, .int v10), (3, .int v3), (0, .ref 1132), (1, .int x1), (2, .int x2)]) dd255_48 rfl ?_
    refine zGo_s (pc' := 51) (st' := [.ref 1132]) dd255_50 rfl ?_
    refine mGI dd255_51 rfl rfl rfl rfl ?_
    rcases oite h with ⟨hc, h⟩ | ⟨hc, h⟩
    · refine zUF dd255_54 (kNeF hc) ?_
      refine zGo_s (pc' := 59) (st' := [.int v10]) dd255_57 rfl ?_
      rcases oite h with ⟨hc, h⟩ | ⟨hc, h⟩
      · refine zUT dd255_59 rfl (kLtT hc) ?_
        exact zGo_lv (lv := [(0, .ref 1132), (1, .int x1), (3, .int v3), (4, .int v10)]) ⟨by simp, by simp, by simp⟩ (f255_79_ok hd h)
      · refine zUF dd255_59 (kLtF hc) ?_
        refine zGo_s (pc' := 64) (st' := [.int v10]) dd255_62 rfl ?_
        refine zGo_s (pc' := 66) (st' := [.int (20 : Int32), .int v10]) dd255_64 rfl ?_
        rcases oite h with ⟨hc, h⟩ | ⟨hc, h⟩
        · refine zIT dd255_66 rfl (kGtT hc) ?_
          exact zGo_lv (lv := [(0, .ref 1132), (1, .int x1), (3, .int v3), (4, .int v10)]) ⟨by simp, by simp, by simp⟩ (f255_79_ok hd h)
        · refine zIF dd255_66 (kGtF hc) ?_
          refine zGo_s (pc' := 70) (st' := [.ref 1132]) dd255_69 rfl ?_
          refine mGI dd255_70 rfl rfl rfl rfl ?_
          refine zGo_s (pc' := 76) (st' := [.int (4000 : Int32), .int (u9.1 1132 28)]) dd255_73 rfl ?_
          rcases oite h with ⟨hc, h⟩ | ⟨hc, h⟩
          · refine zIF dd255_76 (kNeF hc) ?_
            exact zGo_lv (lv := [(0, .ref 1132), (1, .int x1), (3, .int v3), (4, .int v10)]) ⟨by simp, by simp, by simp⟩ (f255_79_ok hd h)
          · refine zIT dd255_76 rfl (kNeT hc) ?_
            exact zGo_lv (lv := [(0, .ref 1132), (1, .int x1), (3, .int v3), (4, .int v10)]) ⟨by simp, by simp, by simp⟩ (f255_84_ok hd h)
    · refine zUT dd255_54 rfl (kNeT hc) ?_
      exact zGo_lv (lv := [(0, .ref 1132), (1, .int x1), (3, .int v3), (4, .int v10)]) ⟨by simp, by simp, by simp⟩ (f255_84_ok hd h)
  · refine zIT dd255_29 rfl (kNeT hc) ?_
    refine zGo_s (pc' := 213) (st' := [.ref 1132]) dd255_212 rfl ?_
    refine mGF (e := 1208) dd255_213 rfl rfl rfl rfl rfl ?_
    refine zGo_s (pc' := 217) (st' := [.int v3, .ref 1208]) dd255_216 rfl ?_
    refine zGo_s (pc' := 218) (st' := [.ref 1132, .int v3, .ref 1208]) dd255_217 rfl ?_
    obtain ⟨a5, e_a5, c_a5, h⟩ := ordd h
    refine mGR dd255_218 rfl rfl rfl rfl e_a5 ?_
    refine mGF (e := (a5 + 15)) dd255_221 rfl (ck12_s c_a5).1 (ck12_s c_a5).2 rfl (cf12_17 c_a5).1 ?_
    refine zGo_s (pc' := 225) (st' := [.int x2, .ref (a5 + 15), .int v3, .ref 1208]) dd255_224 rfl ?_
    obtain ⟨hi, h⟩ := ochk h
    refine mIA dd255_225 (cf12_17 c_a5).2.1 (cf12_17 c_a5).2.2 hi ?_
    refine zGo_s (pc' := 228) (st' := [.int (8 : Int32), .int (s.1 (a5 + 15) (nx x2)), .int v3, .ref 1208]) dd255_226 rfl ?_
    rcases oite h with ⟨hc, h⟩ | ⟨hc, h⟩
    · refine zIF dd255_228 (kNeF hc) ?_
      refine zGo_s (pc' := 232) (st' := [.ref 1132, .int v3, .ref 1208]) dd255_231 rfl ?_
      refine mGF (e := 1208) dd255_232 rfl rfl rfl rfl rfl ?_
      refine zGo_s (pc' := 236) (st' := [.ref 1132, .ref 1208, .int v3, .ref 1208]) dd255_235 rfl ?_
      obtain ⟨a6, e_a6, c_a6, h⟩ := ordd h
      refine mGR dd255_236 rfl rfl rfl rfl e_a6 ?_
      refine mGF (e := (a6 + 33)) dd255_239 rfl (ck12_s c_a6).1 (ck12_s c_a6).2 rfl (cf12_39 c_a6).1 ?_
      refine zGo_s (pc' := 243) (st' := [.ref 1132, .ref (a6 + 33), .ref 1208, .int v3, .ref 1208]) dd255_242 rfl ?_
      obtain ⟨a7, e_a7, c_a7, h⟩ := ordd h
      refine mGR dd255_243 rfl rfl rfl rfl e_a7 ?_
      refine mGF (e := (a7 + 18)) dd255_246 rfl (ck12_s c_a7).1 (ck12_s c_a7).2 rfl (cf12_20 c_a7).1 ?_
      refine zGo_s (pc' := 250) (st' := [.int x2, .ref (a7 + 18), .ref (a6 + 33), .ref 1208, .int v3, .ref 1208]) dd255_249 rfl ?_
      obtain ⟨hi, h⟩ := ochk h
      refine mIA dd255_250 (cf12_20 c_a7).2.1 (cf12_20 c_a7).2.2 hi ?_
      obtain ⟨hi, h⟩ := ochk h
      refine mIA dd255_251 (cf12_39 c_a6).2.1 (cf12_39 c_a6).2.2 hi ?_
      obtain ⟨hi, h⟩ := ochk h
      refine mIA dd255_252 rfl rfl hi ?_
      refine zGo_s (pc' := 257) (st' := [.int (s.1 1208 (nx (s.1 (a6 + 33) (nx (s.1 (a7 + 18) (nx x2)))))), .int v3, .ref 1208]) dd255_253 rfl ?_
      exact zGo_lv (lv := [(0, .ref 1132), (1, .int x1)]) ⟨by simp, by simp, by simp⟩ (f255_257_ok hd h)
    · refine zIT dd255_228 rfl (kNeT hc) ?_
      refine zGo_s (pc' := 257) (st' := [.int (-1 : Int32), .int v3, .ref 1208]) dd255_256 rfl ?_
      exact zGo_lv (lv := [(0, .ref 1132), (1, .int x1)]) ⟨by simp, by simp, by simp⟩ (f255_257_ok hd h)
/-! PHModel.beginsToWait(I)V -/
theorem dd257_0 : decode cX13_beginsToWait 0 = .ok (.aload_n 0, 1) := by decide +kernel
theorem dd257_1 : decode cX13_beginsToWait 1 = .ok (.getfield 91, 3) := by decide +kernel
theorem dd257_4 : decode cX13_beginsToWait 4 = .ok (.iload_n 1, 1) := by decide +kernel
theorem dd257_5 : decode cX13_beginsToWait 5 = .ok (.iconst 3, 1) := by decide +kernel
theorem dd257_6 : decode cX13_beginsToWait 6 = .ok (.iastore, 1) := by decide +kernel
theorem dd257_7 : decode cX13_beginsToWait 7 = .ok (.aload_n 0, 1) := by decide +kernel
theorem dd257_8 : decode cX13_beginsToWait 8 = .ok (.getfield 100, 3) := by decide +kernel
theorem dd257_11 : decode cX13_beginsToWait 11 = .ok (.iload_n 1, 1) := by decide +kernel
theorem dd257_12 : decode cX13_beginsToWait 12 = .ok (.aload_n 0, 1) := by decide +kernel
theorem dd257_13 : decode cX13_beginsToWait 13 = .ok (.getfield 610, 3) := by decide +kernel
theorem dd257_16 : decode cX13_beginsToWait 16 = .ok (.iastore, 1) := by decide +kernel
theorem dd257_17 : decode cX13_beginsToWait 17 = .ok (.aload_n 0, 1) := by decide +kernel
theorem dd257_18 : decode cX13_beginsToWait 18 = .ok (.dup, 1) := by decide +kernel
theorem dd257_19 : decode cX13_beginsToWait 19 = .ok (.getfield 610, 3) := by decide +kernel
theorem dd257_22 : decode cX13_beginsToWait 22 = .ok (.iconst 1, 1) := by decide +kernel
theorem dd257_23 : decode cX13_beginsToWait 23 = .ok (.iadd, 1) := by decide +kernel
theorem dd257_24 : decode cX13_beginsToWait 24 = .ok (.putfield 610, 3) := by decide +kernel
theorem dd257_27 : decode cX13_beginsToWait 27 = .ok (.return_, 1) := by decide +kernel
def f257 (n : Nat) (x1 : Int32) (s : zσ) : Option zσ :=
    if zin? x1 8 = true then
    zlet (sI s 1225 (nx x1) (3 : Int32)) fun u1 =>
    if zin? x1 8 = true then
    zlet (sI u1 1228 (nx x1) (u1.1 1132 30)) fun u2 =>
    zlet (sI u2 1132 30 ((u2.1 1132 30) + (1 : Int32))) fun u3 =>
    some u3
    else none
    else none
set_option maxRecDepth 20000 in
theorem f257_ok {n d : Nat} {x1 : Int32} {s : zσ} {s2 : zσ} (hd : 0 ≤ d) (h : f257 n x1 s = some s2) {w : zσ} {fz : Bool} {L : Nat} {xs : Nat → Int32} : zGo (zX fz L xs) d q_257 (0, [(0, .ref 1132), (1, .int x1)], [], zmk w s, 0, 0) (none, zmk w s2, 0, 0) := by
  unfold f257 at h
  refine zGo_s (pc' := 1) (st' := [.ref 1132]) dd257_0 rfl ?_
  refine mGF (e := 1225) dd257_1 rfl rfl rfl rfl rfl ?_
  refine zGo_s (pc' := 5) (st' := [.int x1, .ref 1225]) dd257_4 rfl ?_
  refine zGo_s (pc' := 6) (st' := [.int (3 : Int32), .int x1, .ref 1225]) dd257_5 rfl ?_
  obtain ⟨hi, h⟩ := ochk h
  obtain ⟨u1, e_u1, h⟩ := olet h
  refine mIS dd257_6 rfl rfl hi e_u1 ?_
  refine zGo_s (pc' := 8) (st' := [.ref 1132]) dd257_7 rfl ?_
  refine mGF (e := 1228) dd257_8 rfl rfl rfl rfl rfl ?_
  refine zGo_s (pc' := 12) (st' := [.int x1, .ref 1228]) dd257_11 rfl ?_
  refine zGo_s (pc' := 13) (st' := [.ref 1132, .int x1, .ref 1228]) dd257_12 rfl ?_
  refine mGI dd257_13 rfl rfl rfl rfl ?_
  obtain ⟨hi, h⟩ := ochk h
  obtain ⟨u2, e_u2, h⟩ := olet h
  refine mIS dd257_16 rfl rfl hi e_u2 ?_
  refine zGo_s (pc' := 18) (st' := [.ref 1132]) dd257_17 rfl ?_
  refine zGo_s (pc' := 19) (st' := [.ref 1132, .ref 1132]) dd257_18 rfl ?_
  refine mGI dd257_19 rfl rfl rfl rfl ?_
  refine zGo_s (pc' := 23) (st' := [.int (1 : Int32), .int (u2.1 1132 30), .ref 1132]) dd257_22 rfl ?_
  refine zGo_s (pc' := 24) (st' := [.int ((u2.1 1132 30) + (1 : Int32)), .ref 1132]) dd257_23 rfl ?_
  obtain ⟨u3, e_u3, h⟩ := olet h
  refine mPI dd257_24 rfl rfl rfl rfl rfl rfl e_u3 ?_
  obtain rfl := ore0 h
  exact zGo_ret dd257_27 rfl rfl
/-! PHModel.gates(II)V -/
theorem dd256_0 : decode cX13_gates 0 = .ok (.aload_n 0, 1) := by decide +kernel
theorem dd256_1 : decode cX13_gates 1 = .ok (.getfield 20, 3) := by decide +kernel
theorem dd256_4 : decode cX13_gates 4 = .ok (.getfield 459, 3) := by decide +kernel
theorem dd256_7 : decode cX13_gates 7 = .ok (.iload_n 2, 1) := by decide +kernel
theorem dd256_8 : decode cX13_gates 8 = .ok (.iaload, 1) := by decide +kernel
theorem dd256_9 : decode cX13_gates 9 = .ok (.bipush 10, 2) := by decide +kernel
theorem dd256_11 : decode cX13_gates 11 = .ok (.if_icmp .ne 7, 3) := by decide +kernel
theorem dd256_14 : decode cX13_gates 14 = .ok (.iconst 1, 1) := by decide +kernel
theorem dd256_15 : decode cX13_gates 15 = .ok (.goto 4, 3) := by decide +kernel
theorem dd256_18 : decode cX13_gates 18 = .ok (.iconst 0, 1) := by decide +kernel
theorem dd256_19 : decode cX13_gates 19 = .ok (.istore_n 3, 1) := by decide +kernel
theorem dd256_20 : decode cX13_gates 20 = .ok (.iload_n 3, 1) := by decide +kernel
theorem dd256_21 : decode cX13_gates 21 = .ok (.ifCond .eq 17, 3) := by decide +kernel
theorem dd256_24 : decode cX13_gates 24 = .ok (.aload_n 0, 1) := by decide +kernel
theorem dd256_25 : decode cX13_gates 25 = .ok (.iload_n 2, 1) := by decide +kernel
theorem dd256_26 : decode cX13_gates 26 = .ok (.invokevirtual 703, 3) := by decide +kernel
theorem dd256_29 : decode cX13_gates 29 = .ok (.ifCond .ne 9, 3) := by decide +kernel
theorem dd256_32 : decode cX13_gates 32 = .ok (.aload_n 0, 1) := by decide +kernel
theorem dd256_33 : decode cX13_gates 33 = .ok (.iload_n 1, 1) := by decide +kernel
theorem dd256_34 : decode cX13_gates 34 = .ok (.invokevirtual 706, 3) := by decide +kernel
theorem dd256_37 : decode cX13_gates 37 = .ok (.return_, 1) := by decide +kernel
theorem dd256_38 : decode cX13_gates 38 = .ok (.iconst 0, 1) := by decide +kernel
theorem dd256_39 : decode cX13_gates 39 = .ok (.istore 4, 2) := by decide +kernel
theorem dd256_41 : decode cX13_gates 41 = .ok (.iload 4, 2) := by decide +kernel
theorem dd256_43 : decode cX13_gates 43 = .ok (.iconst 4, 1) := by decide +kernel
theorem dd256_44 : decode cX13_gates 44 = .ok (.if_icmp .ge 50, 3) := by decide +kernel
theorem dd256_47 : decode cX13_gates 47 = .ok (.iload_n 3, 1) := by decide +kernel
theorem dd256_48 : decode cX13_gates 48 = .ok (.ifCond .ne 40, 3) := by decide +kernel
theorem dd256_51 : decode cX13_gates 51 = .ok (.aload_n 0, 1) := by decide +kernel
theorem dd256_52 : decode cX13_gates 52 = .ok (.iload_n 2, 1) := by decide +kernel
theorem dd256_53 : decode cX13_gates 53 = .ok (.iload 4, 2) := by decide +kernel
theorem dd256_55 : decode cX13_gates 55 = .ok (.invokevirtual 700, 3) := by decide +kernel
theorem dd256_58 : decode cX13_gates 58 = .ok (.ifCond .le 30, 3) := by decide +kernel
theorem dd256_61 : decode cX13_gates 61 = .ok (.aload_n 0, 1) := by decide +kernel
theorem dd256_62 : decode cX13_gates 62 = .ok (.getfield 48, 3) := by decide +kernel
theorem dd256_65 : decode cX13_gates 65 = .ok (.iload 4, 2) := by decide +kernel
theorem dd256_67 : decode cX13_gates 67 = .ok (.iaload, 1) := by decide +kernel
theorem dd256_68 : decode cX13_gates 68 = .ok (.aload_n 0, 1) := by decide +kernel
theorem dd256_69 : decode cX13_gates 69 = .ok (.iload_n 2, 1) := by decide +kernel
theorem dd256_70 : decode cX13_gates 70 = .ok (.iload 4, 2) := by decide +kernel
theorem dd256_72 : decode cX13_gates 72 = .ok (.invokevirtual 700, 3) := by decide +kernel
theorem dd256_75 : decode cX13_gates 75 = .ok (.iadd, 1) := by decide +kernel
theorem dd256_76 : decode cX13_gates 76 = .ok (.bipush 9, 2) := by decide +kernel
theorem dd256_78 : decode cX13_gates 78 = .ok (.if_icmp .le 10, 3) := by decide +kernel
theorem dd256_81 : decode cX13_gates 81 = .ok (.aload_n 0, 1) := by decide +kernel
theorem dd256_82 : decode cX13_gates 82 = .ok (.bipush 8, 2) := by decide +kernel
theorem dd256_84 : decode cX13_gates 84 = .ok (.invokevirtual 644, 3) := by decide +kernel
theorem dd256_87 : decode cX13_gates 87 = .ok (.return_, 1) := by decide +kernel
theorem dd256_88 : decode cX13_gates 88 = .ok (.iinc 4 1, 3) := by decide +kernel
theorem dd256_91 : decode cX13_gates 91 = .ok (.goto (-50), 3) := by decide +kernel
theorem dd256_94 : decode cX13_gates 94 = .ok (.iconst 0, 1) := by decide +kernel
theorem dd256_95 : decode cX13_gates 95 = .ok (.istore 4, 2) := by decide +kernel
theorem dd256_97 : decode cX13_gates 97 = .ok (.iload 4, 2) := by decide +kernel
theorem dd256_99 : decode cX13_gates 99 = .ok (.iconst 4, 1) := by decide +kernel
theorem dd256_100 : decode cX13_gates 100 = .ok (.if_icmp .ge 41, 3) := by decide +kernel
theorem dd256_103 : decode cX13_gates 103 = .ok (.aload_n 0, 1) := by decide +kernel
theorem dd256_104 : decode cX13_gates 104 = .ok (.getfield 48, 3) := by decide +kernel
theorem dd256_107 : decode cX13_gates 107 = .ok (.iload 4, 2) := by decide +kernel
theorem dd256_109 : decode cX13_gates 109 = .ok (.dup2, 1) := by decide +kernel
theorem dd256_110 : decode cX13_gates 110 = .ok (.iaload, 1) := by decide +kernel
theorem dd256_111 : decode cX13_gates 111 = .ok (.iload_n 3, 1) := by decide +kernel
theorem dd256_112 : decode cX13_gates 112 = .ok (.ifCond .eq 14, 3) := by decide +kernel
theorem dd256_115 : decode cX13_gates 115 = .ok (.aload_n 0, 1) := by decide +kernel
theorem dd256_116 : decode cX13_gates 116 = .ok (.iload_n 2, 1) := by decide +kernel
theorem dd256_117 : decode cX13_gates 117 = .ok (.iload 4, 2) := by decide +kernel
theorem dd256_119 : decode cX13_gates 119 = .ok (.invokevirtual 700, 3) := by decide +kernel
theorem dd256_122 : decode cX13_gates 122 = .ok (.ineg, 1) := by decide +kernel
theorem dd256_123 : decode cX13_gates 123 = .ok (.goto 10, 3) := by decide +kernel
theorem dd256_126 : decode cX13_gates 126 = .ok (.aload_n 0, 1) := by decide +kernel
theorem dd256_127 : decode cX13_gates 127 = .ok (.iload_n 2, 1) := by decide +kernel
theorem dd256_128 : decode cX13_gates 128 = .ok (.iload 4, 2) := by decide +kernel
theorem dd256_130 : decode cX13_gates 130 = .ok (.invokevirtual 700, 3) := by decide +kernel
theorem dd256_133 : decode cX13_gates 133 = .ok (.iadd, 1) := by decide +kernel
theorem dd256_134 : decode cX13_gates 134 = .ok (.iastore, 1) := by decide +kernel
theorem dd256_135 : decode cX13_gates 135 = .ok (.iinc 4 1, 3) := by decide +kernel
theorem dd256_138 : decode cX13_gates 138 = .ok (.goto (-41), 3) := by decide +kernel
theorem dd256_141 : decode cX13_gates 141 = .ok (.aload_n 0, 1) := by decide +kernel
theorem dd256_142 : decode cX13_gates 142 = .ok (.iload_n 1, 1) := by decide +kernel
theorem dd256_143 : decode cX13_gates 143 = .ok (.invokevirtual 665, 3) := by decide +kernel
theorem dd256_146 : decode cX13_gates 146 = .ok (.return_, 1) := by decide +kernel
def f256_133 (n : Nat) (r97 : Int32 → Int32 → Int32 → Int32 → zσ → Option zσ) (x1 : Int32) (x2 : Int32) (x3 : Int32) (x4 : Int32) (y0 : Int32) (y1 : Int32) (y2 : Int32) (s : zσ) : Option zσ :=
    if zin? y2 4 = true then
    zlet (sI s 1211 (nx y2) (y1 + y0)) fun u1 =>
    r97 x1 x2 x3 (x4 + (1 : Int32)) u1
    else none
set_option maxRecDepth 20000 in
theorem f256_133_ok {n d : Nat} {r97 : Int32 → Int32 → Int32 → Int32 → zσ → Option zσ} {x1 : Int32} {x2 : Int32} {x3 : Int32} {x4 : Int32} {y0 : Int32} {y1 : Int32} {y2 : Int32} {s : zσ} {s2 : zσ} (hd : 26 ≤ d) (hr97 : ∀ (x1 : Int32) (x2 : Int32) (x3 : Int32) (x4 : Int32) (s : zσ) (s2 : zσ), r97 x1 x2 x3 x4 s = some s2 → ∀ {w : zσ} {fz : Bool} {L : Nat} {xs : Nat → Int32}, zGo (zX fz L xs) d q_256 (97, [(0, .ref 1132), (1, .int x1), (2, .int x2), (3, .int x3), (4, .int x4)], [], zmk w s, 0, 0) (none, zmk w s2, 0, 0)) (h : f256_133 n r97 x1 x2 x3 x4 y0 y1 y2 s = some s2) {w : zσ} {fz : Bool} {L : Nat} {xs : Nat → Int32} : zGo (zX fz L xs) d q_256 (133, [(0, .ref 1132), (1, .int x1), (2, .int x2), (3, .int x3), (4, .int x4)], [.int y0, .int y1, .int y2, .ref 1211], zmk w s, 0, 0) (none, zmk w s2, 0, 0) := by
  obtain ⟨d, rfl⟩ : ∃ d0, d = d0 + 1 := ⟨d - 1, by omega⟩
  unfold f256_133 at h
  refine zGo_s (pc' := 134) (st' := [.int (y1 + y0), .int y2, .ref 1211]) dd256_133 rfl ?_
  obtain ⟨hi, h⟩ := ochk h
  obtain ⟨u1, e_u1, h⟩ := olet h
  refine mIS dd256_134 rfl rfl hi e_u1 ?_
  refine zGo_s (pc' := 138) (st' := []) (lv' := [(4, .int (x4 + (1 : Int32))), (0, .ref 1132), (1, .int x1), (2, .int x2), (3, .int x3)]) dd256_135 rfl ?_
  refine zGo_s (pc' := 97) (st' := []) dd256_138 rfl ?_
  exact zGo_lv (lv := [(0, .ref 1132), (1, .int x1), (2, .int x2), (3, .int x3), (4, .int (x4 + (1 : Int32)))]) ⟨by simp, by simp, by simp⟩ (hr97 _ _ _ _ _ _ h)
def f256_97 (n : Nat) : Nat → Int32 → Int32 → Int32 → Int32 → zσ → Option zσ
  | 0, _, _, _, _, _ => none
  | j + 1, x1, x2, x3, x4, s =>
    if x4 < (4 : Int32) then
    if zin? x4 4 = true then
    if x3 = (0 : Int32) then
    yb1 (f232 n x2 x4 s) fun v3 u2 =>
    f256_133 n (f256_97 n j) x1 x2 x3 x4 v3 (s.1 1211 (nx x4)) x4 u2
    else yb1 (f232 n x2 x4 s) fun v5 u4 =>
    f256_133 n (f256_97 n j) x1 x2 x3 x4 (-v5) (s.1 1211 (nx x4)) x4 u4
    else none
    else yb0 (f237 n x1 s) fun u1 =>
    some u1
set_option maxRecDepth 20000 in
theorem f256_97_ok {n d : Nat} (hd : 26 ≤ d) : ∀ (j : Nat) (x1 : Int32) (x2 : Int32) (x3 : Int32) (x4 : Int32) (s : zσ) (s2 : zσ), f256_97 n j x1 x2 x3 x4 s = some s2 → ∀ {w : zσ} {fz : Bool} {L : Nat} {xs : Nat → Int32}, zGo (zX fz L xs) d q_256 (97, [(0, .ref 1132), (1, .int x1), (2, .int x2), (3, .int x3), (4, .int x4)], [], zmk w s, 0, 0) (none, zmk w s2, 0, 0) := by
  obtain ⟨d, rfl⟩ : ∃ d0, d = d0 + 1 := ⟨d - 1, by omega⟩
  intro j
  induction j with
  | zero => intro x1 x2 x3 x4 s s2 h; cases h
  | succ j ih =>
    intro x1 x2 x3 x4 s s2 h w fz L xs
    rw [f256_97] at h
    refine zGo_s (pc' := 99) (st' := [.int x4]) dd256_97 rfl ?_
    refine zGo_s (pc' := 100) (st' := [.int (4 : Int32), .int x4]) dd256_99 rfl ?_
    rcases oite h with ⟨hc, h⟩ | ⟨hc, h⟩
    · refine zIF dd256_100 (kGeF hc) ?_
      refine zGo_s (pc' := 104) (st' := [.ref 1132]) dd256_103 rfl ?_
      refine mGF (e := 1211) dd256_104 rfl rfl rfl rfl rfl ?_
      refine zGo_s (pc' := 109) (st' := [.int x4, .ref 1211]) dd256_107 rfl ?_
      refine zGo_s (pc' := 110) (st' := [.int x4, .ref 1211, .int x4, .ref 1211]) dd256_109 rfl ?_
      obtain ⟨hi, h⟩ := ochk h
      refine mIA dd256_110 rfl rfl hi ?_
      refine zGo_s (pc' := 112) (st' := [.int x3, .int (s.1 1211 (nx x4)), .int x4, .ref 1211]) dd256_111 rfl ?_
      rcases oite h with ⟨hc, h⟩ | ⟨hc, h⟩
      · refine zUT dd256_112 rfl (kEqT hc) ?_
        refine zGo_s (pc' := 127) (st' := [.ref 1132, .int (s.1 1211 (nx x4)), .int x4, .ref 1211]) dd256_126 rfl ?_
        refine zGo_s (pc' := 128) (st' := [.int x2, .ref 1132, .int (s.1 1211 (nx x4)), .int x4, .ref 1211]) dd256_127 rfl ?_
        refine zGo_s (pc' := 130) (st' := [.int x4, .int x2, .ref 1132, .int (s.1 1211 (nx x4)), .int x4, .ref 1211]) dd256_128 rfl ?_
        obtain ⟨v3, u2, hq, h⟩ := obnd h
        refine zCV1 (As := [.int x2, .int x4]) (rest := [.int (s.1 1211 (nx x4)), .int x4, .ref 1211]) (b := 1132) (q' := q_232) dd256_130 rfl rfl (rcv_m rfl rfl (by decide)) rfl rfl rfl (f232_ok (d := d) (by omega)  hq) ?_
        exact f256_133_ok hd ih h
      · refine zUF dd256_112 (kEqF hc) ?_
        refine zGo_s (pc' := 116) (st' := [.ref 1132, .int (s.1 1211 (nx x4)), .int x4, .ref 1211]) dd256_115 rfl ?_
        refine zGo_s (pc' := 117) (st' := [.int x2, .ref 1132, .int (s.1 1211 (nx x4)), .int x4, .ref 1211]) dd256_116 rfl ?_
        refine zGo_s (pc' := 119) (st' := [.int x4, .int x2, .ref 1132, .int (s.1 1211 (nx x4)), .int x4, .ref 1211]) dd256_117 rfl ?_
        obtain ⟨v5, u4, hq, h⟩ := obnd h
        refine zCV1 (As := [.int x2, .int x4]) (rest := [.int (s.1 1211 (nx x4)), .int x4, .ref 1211]) (b := 1132) (q' := q_232) dd256_119 rfl rfl (rcv_m rfl rfl (by decide)) rfl rfl rfl (f232_ok (d := d) (by omega)  hq) ?_
        refine zGo_s (pc' := 123) (st' := [.int (-v5), .int (s.1 1211 (nx x4)), .int x4, .ref 1211]) dd256_122 rfl ?_
        refine zGo_s (pc' := 133) (st' := [.int (-v5), .int (s.1 1211 (nx x4)), .int x4, .ref 1211]) dd256_123 rfl ?_
        exact f256_133_ok hd ih h
    · refine zIT dd256_100 rfl (kGeT hc) ?_
      refine zGo_s (pc' := 142) (st' := [.ref 1132]) dd256_141 rfl ?_
      refine zGo_s (pc' := 143) (st' := [.int x1, .ref 1132]) dd256_142 rfl ?_
      obtain ⟨u1, hq, h⟩ := obn0 h
      refine zCV0 (As := [.int x1]) (rest := []) (b := 1132) (q' := q_237) dd256_143 rfl rfl (rcv_m rfl rfl (by decide)) rfl rfl rfl (f237_ok (d := d) (by omega)  hq) ?_
      obtain rfl := ore0 h
      exact zGo_ret dd256_146 rfl rfl
def f256_88 (n : Nat) (r41 : Int32 → Int32 → Int32 → Int32 → zσ → Option zσ) (x1 : Int32) (x2 : Int32) (x3 : Int32) (x4 : Int32) (s : zσ) : Option zσ :=
    r41 x1 x2 x3 (x4 + (1 : Int32)) s
set_option maxRecDepth 20000 in
theorem f256_88_ok {n d : Nat} {r41 : Int32 → Int32 → Int32 → Int32 → zσ → Option zσ} {x1 : Int32} {x2 : Int32} {x3 : Int32} {x4 : Int32} {s : zσ} {s2 : zσ} (hd : 26 ≤ d) (hr41 : ∀ (x1 : Int32) (x2 : Int32) (x3 : Int32) (x4 : Int32) (s : zσ) (s2 : zσ), r41 x1 x2 x3 x4 s = some s2 → ∀ {w : zσ} {fz : Bool} {L : Nat} {xs : Nat → Int32}, zGo (zX fz L xs) d q_256 (41, [(0, .ref 1132), (1, .int x1), (2, .int x2), (3, .int x3), (4, .int x4)], [], zmk w s, 0, 0) (none, zmk w s2, 0, 0)) (h : f256_88 n r41 x1 x2 x3 x4 s = some s2) {w : zσ} {fz : Bool} {L : Nat} {xs : Nat → Int32} : zGo (zX fz L xs) d q_256 (88, [(0, .ref 1132), (1, .int x1), (2, .int x2), (3, .int x3), (4, .int x4)], [], zmk w s, 0, 0) (none, zmk w s2, 0, 0) := by
  obtain ⟨d, rfl⟩ : ∃ d0, d = d0 + 1 := ⟨d - 1, by omega⟩
  unfold f256_88 at h
  refine zGo_s (pc' := 91) (st' := []) (lv' := [(4, .int (x4 + (1 : Int32))), (0, .ref 1132), (1, .int x1), (2, .int x2), (3, .int x3)]) dd256_88 rfl ?_
  refine zGo_s (pc' := 41) (st' := []) dd256_91 rfl ?_
  exact zGo_lv (lv := [(0, .ref 1132), (1, .int x1), (2, .int x2), (3, .int x3), (4, .int (x4 + (1 : Int32)))]) ⟨by simp, by simp, by simp⟩ (hr41 _ _ _ _ _ _ h)
def f256_41 (n : Nat) : Nat → Int32 → Int32 → Int32 → Int32 → zσ → Option zσ
  | 0, _, _, _, _, _ => none
  | j + 1, x1, x2, x3, x4, s =>
    if x4 < (4 : Int32) then
    if x3 = (0 : Int32) then
    yb1 (f232 n x2 x4 s) fun v2 u1 =>
    if (0 : Int32) < v2 then
    if zin? x4 4 = true then
    yb1 (f232 n x2 x4 u1) fun v4 u3 =>
    if (9 : Int32) < ((u1.1 1211 (nx x4)) + v4) then
    yb0 (f246 n (8 : Int32) u3) fun u5 =>
    some u5
    else f256_88 n (f256_41 n j) x1 x2 x3 x4 u3
    else none
    else f256_88 n (f256_41 n j) x1 x2 x3 x4 u1
    else f256_88 n (f256_41 n j) x1 x2 x3 x4 s
    else f256_97 n n x1 x2 x3 (0 : Int32) s
set_option maxRecDepth 20000 in
theorem f256_41_ok {n d : Nat} (hd : 26 ≤ d) : ∀ (j : Nat) (x1 : Int32) (x2 : Int32) (x3 : Int32) (x4 : Int32) (s : zσ) (s2 : zσ), f256_41 n j x1 x2 x3 x4 s = some s2 → ∀ {w : zσ} {fz : Bool} {L : Nat} {xs : Nat → Int32}, zGo (zX fz L xs) d q_256 (41, [(0, .ref 1132), (1, .int x1), (2, .int x2), (3, .int x3), (4, .int x4)], [], zmk w s, 0, 0) (none, zmk w s2, 0, 0) := by
  obtain ⟨d, rfl⟩ : ∃ d0, d = d0 + 1 := ⟨d - 1, by omega⟩
  intro j
  induction j with
  | zero => intro x1 x2 x3 x4 s s2 h; cases h
  | succ j ih =>
    intro x1 x2 x3 x4 s s2 h w fz L xs
    rw [f256_41] at h
    refine zGo_s (pc' := 43) (st' := [.int x4]) dd256_41 rfl ?_
    refine zGo_s (pc' := 44) (st' := [.int (4 : Int32), .int x4]) dd256_43 rfl ?_
    rcases oite h with ⟨hc, h⟩ | ⟨hc, h⟩
    · refine zIF dd256_44 (kGeF hc) ?_
      refine zGo_s (pc' := 48) (st' := [.int x3]) dd256_47 rfl ?_
      rcases oite h with ⟨hc, h⟩ | ⟨hc, h⟩
      · refine zUF dd256_48 (kNeF hc) ?_
        refine zGo_s (pc' := 52) (st' := [.ref 1132]) dd256_51 rfl ?_
        refine zGo_s (pc' := 53) (st' := [.int x2, .ref 1132]) dd256_52 rfl ?_
        refine zGo_s (pc' := 55) (st' := [.int x4, .int x2, .ref 1132]) dd256_53 rfl ?_
        obtain ⟨v2, u1, hq, h⟩ := obnd h
        refine zCV1 (As := [.int x2, .int x4]) (rest := []) (b := 1132) (q' := q_232) dd256_55 rfl rfl (rcv_m rfl rfl (by decide)) rfl rfl rfl (f232_ok (d := d) (by omega)  hq) ?_
        rcases oite h with ⟨hc, h⟩ | ⟨hc, h⟩
        · refine zUF dd256_58 (kLeF hc) ?_
          refine zGo_s (pc' := 62) (st' := [.ref 1132]) dd256_61 rfl ?_
          refine mGF (e := 1211) dd256_62 rfl rfl rfl rfl rfl ?_
          refine zGo_s (pc' := 67) (st' := [.int x4, .ref 1211]) dd256_65 rfl ?_
          obtain ⟨hi, h⟩ := ochk h
          refine mIA dd256_67 rfl rfl hi ?_
          refine zGo_s (pc' := 69) (st' := [.ref 1132, .int (u1.1 1211 (nx x4))]) dd256_68 rfl ?_
          refine zGo_s (pc' := 70) (st' := [.int x2, .ref 1132, .int (u1.1 1211 (nx x4))]) dd256_69 rfl ?_
          refine zGo_s (pc' := 72) (st' := [.int x4, .int x2, .ref 1132, .int (u1.1 1211 (nx x4))]) dd256_70 rfl ?_
          obtain ⟨v4, u3, hq, h⟩ := obnd h
          refine zCV1 (As := [.int x2, .int x4]) (rest := [.int (u1.1 1211 (nx x4))]) (b := 1132) (q' := q_232) dd256_72 rfl rfl (rcv_m rfl rfl (by decide)) rfl rfl rfl (f232_ok (d := d) (by omega)  hq) ?_
          refine zGo_s (pc' := 76) (st' := [.int ((u1.1 1211 (nx x4)) + v4)]) dd256_75 rfl ?_
          refine zGo_s (pc' := 78) (st' := [.int (9 : Int32), .int ((u1.1 1211 (nx x4)) + v4)]) dd256_76 rfl ?_
          rcases oite h with ⟨hc, h⟩ | ⟨hc, h⟩
          · refine zIF dd256_78 (kLeF hc) ?_
            refine zGo_s (pc' := 82) (st' := [.ref 1132]) dd256_81 rfl ?_
            refine zGo_s (pc' := 84) (st' := [.int (8 : Int32), .ref 1132]) dd256_82 rfl ?_
            obtain ⟨u5, hq, h⟩ := obn0 h
            refine zCV0 (As := [.int (8 : Int32)]) (rest := []) (b := 1132) (q' := q_246) dd256_84 rfl rfl (rcv_m rfl rfl (by decide)) rfl rfl rfl (f246_ok (d := d) (by omega)  hq) ?_
            obtain rfl := ore0 h
            exact zGo_ret dd256_87 rfl rfl
          · refine zIT dd256_78 rfl (kLeT hc) ?_
            exact f256_88_ok hd ih h
        · refine zUT dd256_58 rfl (kLeT hc) ?_
          exact f256_88_ok hd ih h
      · refine zUT dd256_48 rfl (kNeT hc) ?_
        exact f256_88_ok hd ih h
    · refine zIT dd256_44 rfl (kGeT hc) ?_
      refine zGo_s (pc' := 95) (st' := [.int (0 : Int32)]) dd256_94 rfl ?_
      refine zGo_s (pc' := 97) (st' := []) (lv' := [(4, .int (0 : Int32)), (0, .ref 1132), (1, .int x1), (2, .int x2), (3, .int x3)]) dd256_95 rfl ?_
      exact zGo_lv (lv := [(0, .ref 1132), (1, .int x1), (2, .int x2), (3, .int x3), (4, .int (0 : Int32))]) ⟨by simp, by simp, by simp⟩ (f256_97_ok hd _ _ _ _ _ _ _ h)
def f256_38 (n : Nat) (x1 : Int32) (x2 : Int32) (x3 : Int32) (s : zσ) : Option zσ :=
    f256_41 n n x1 x2 x3 (0 : Int32) s
set_option maxRecDepth 20000 in
theorem f256_38_ok {n d : Nat} {x1 : Int32} {x2 : Int32} {x3 : Int32} {s : zσ} {s2 : zσ} (hd : 26 ≤ d) (h : f256_38 n x1 x2 x3 s = some s2) {w : zσ} {fz : Bool} {L : Nat} {xs : Nat → Int32} : zGo (zX fz L xs) d q_256 (38, [(0, .ref 1132), (1, .int x1), (2, .int x2), (3, .int x3)], [], zmk w s, 0, 0) (none, zmk w s2, 0, 0) := by
  obtain ⟨d, rfl⟩ : ∃ d0, d = d0 + 1 := ⟨d - 1, by omega⟩
  unfold f256_38 at h
  refine zGo_s (pc' := 39) (st' := [.int (0 : Int32)]) dd256_38 rfl ?_
  refine zGo_s (pc' := 41) (st' := []) (lv' := [(4, .int (0 : Int32)), (0, .ref 1132), (1, .int x1), (2, .int x2), (3, .int x3)]) dd256_39 rfl ?_
  exact zGo_lv (lv := [(0, .ref 1132), (1, .int x1), (2, .int x2), (3, .int x3), (4, .int (0 : Int32))]) ⟨by simp, by simp, by simp⟩ (f256_41_ok hd _ _ _ _ _ _ _ h)
def f256_19 (n : Nat) (x1 : Int32) (x2 : Int32) (y0 : Int32) (s : zσ) : Option zσ :=
    if y0 = (0 : Int32) then
    f256_38 n x1 x2 y0 s
    else yb1 (f231 n x2 s) fun v2 u1 =>
    if v2 = (0 : Int32) then
    yb0 (f257 n x1 u1) fun u3 =>
    some u3
    else f256_38 n x1 x2 y0 u1
set_option maxRecDepth 20000 in
theorem f256_19_ok {n d : Nat} {x1 : Int32} {x2 : Int32} {y0 : Int32} {s : zσ} {s2 : zσ} (hd : 26 ≤ d) (h : f256_19 n x1 x2 y0 s = some s2) {w : zσ} {fz : Bool} {L : Nat} {xs : Nat → Int32} : zGo (zX fz L xs) d q_256 (19, [(0, .ref 1132), (1, .int x1), (2, .int x2)], [.int y0], zmk w s, 0, 0) (none, zmk w s2, 0, 0) := by
  obtain ⟨d, rfl⟩ : ∃ d0, d = d0 + 1 := ⟨d - 1, by omega⟩
  unfold f256_19 at h
  refine zGo_s (pc' := 20) (st' := []) (lv' := [(3, .int y0), (0, .ref 1132), (1, .int x1), (2, .int x2)]) dd256_19 rfl ?_
  refine zGo_s (pc' := 21) (st' := [.int y0]) dd256_20 rfl ?_
  rcases oite h with ⟨hc, h⟩ | ⟨hc, h⟩
  · refine zUT dd256_21 rfl (kEqT hc) ?_
    exact zGo_lv (lv := [(0, .ref 1132), (1, .int x1), (2, .int x2), (3, .int y0)]) ⟨by simp, by simp, by simp⟩ (f256_38_ok hd h)
  · refine zUF dd256_21 (kEqF hc) ?_
    refine zGo_s (pc' := 25) (st' := [.ref 1132]) dd256_24 rfl ?_
    refine zGo_s (pc' := 26) (st' := [.int x2, .ref 1132]) dd256_25 rfl ?_
    obtain ⟨v2, u1, hq, h⟩ := obnd h
    refine zCV1 (As := [.int x2]) (rest := []) (b := 1132) (q' := q_231) dd256_26 rfl rfl (rcv_m rfl rfl (by decide)) rfl rfl rfl (f231_ok (d := d) (by omega)  hq) ?_
    rcases oite h with ⟨hc, h⟩ | ⟨hc, h⟩
    · refine zUF dd256_29 (kNeF hc) ?_
      refine zGo_s (pc' := 33) (st' := [.ref 1132]) dd256_32 rfl ?_
      refine zGo_s (pc' := 34) (st' := [.int x1, .ref 1132]) dd256_33 rfl ?_
      obtain ⟨u3, hq, h⟩ := obn0 h
      refine zCV0 (As := [.int x1]) (rest := []) (b := 1132) (q' := q_257) dd256_34 rfl rfl (rcv_m rfl rfl (by decide)) rfl rfl rfl (f257_ok (d := d) (by omega)  hq) ?_
      obtain rfl := ore0 h
      exact zGo_ret dd256_37 rfl rfl
    · refine zUT dd256_29 rfl (kNeT hc) ?_
      exact zGo_lv (lv := [(0, .ref 1132), (1, .int x1), (2, .int x2), (3, .int y0)]) ⟨by simp, by simp, by simp⟩ (f256_38_ok hd h)
def f256 (n : Nat) (x1 : Int32) (x2 : Int32) (s : zσ) : Option zσ :=
    zrd 12 (s.2.2 1132 11) fun a1 =>
    if zin? x2 200 = true then
    if (s.1 (a1 + 15) (nx x2)) = (10 : Int32) then
    f256_19 n x1 x2 (1 : Int32) s
    else f256_19 n x1 x2 (0 : Int32) s
    else none
set_option maxRecDepth 20000 in
theorem f256_ok {n d : Nat} {x1 : Int32} {x2 : Int32} {s : zσ} {s2 : zσ} (hd : 26 ≤ d) (h : f256 n x1 x2 s = some s2) {w : zσ} {fz : Bool} {L : Nat} {xs : Nat → Int32} : zGo (zX fz L xs) d q_256 (0, [(0, .ref 1132), (1, .int x1), (2, .int x2)], [], zmk w s, 0, 0) (none, zmk w s2, 0, 0) := by
  obtain ⟨d, rfl⟩ : ∃ d0, d = d0 + 1 := ⟨d - 1, by omega⟩
  unfold f256 at h
  refine zGo_s (pc' := 1) (st' := [.ref 1132]) dd256_0 rfl ?_
  obtain ⟨a1, e_a1, c_a1, h⟩ := ordd h
  refine mGR dd256_1 rfl rfl rfl rfl e_a1 ?_
  refine mGF (e := (a1 + 15)) dd256_4 rfl (ck12_s c_a1).1 (ck12_s c_a1).2 rfl (cf12_17 c_a1).1 ?_
  refine zGo_s (pc' := 8) (st' := [.int x2, .ref (a1 + 15)]) dd256_7 rfl ?_
  obtain ⟨hi, h⟩ := ochk h
  refine mIA dd256_8 (cf12_17 c_a1).2.1 (cf12_17 c_a1).2.2 hi ?_
  refine zGo_s (pc' := 11) (st' := [.int (10 : Int32), .int (s.1 (a1 + 15) (nx x2))]) dd256_9 rfl ?_
  rcases oite h with ⟨hc, h⟩ | ⟨hc, h⟩
  · refine zIF dd256_11 (kNeF hc) ?_
    refine zGo_s (pc' := 15) (st' := [.int (1 : Int32)]) dd256_14 rfl ?_
    refine zGo_s (pc' := 19) (st' := [.int (1 : Int32)]) dd256_15 rfl ?_
    exact f256_19_ok hd h
  · refine zIT dd256_11 rfl (kNeT hc) ?_
    refine zGo_s (pc' := 19) (st' := [.int (0 : Int32)]) dd256_18 rfl ?_
    exact f256_19_ok hd h
/-! PHModel.bolts(II)V -/
theorem dd258_0 : decode cX13_bolts 0 = .ok (.aload_n 0, 1) := by decide +kernel
theorem dd258_1 : decode cX13_bolts 1 = .ok (.getfield 20, 3) := by decide +kernel
theorem dd258_4 : decode cX13_bolts 4 = .ok (.getfield 544, 3) := by decide +kernel
theorem dd258_7 : decode cX13_bolts 7 = .ok (.aload_n 0, 1) := by decide +kernel
theorem dd258_8 : decode cX13_bolts 8 = .ok (.getfield 20, 3) := by decide +kernel
theorem dd258_11 : decode cX13_bolts 11 = .ok (.getfield 441, 3) := by decide +kernel
theorem dd258_14 : decode cX13_bolts 14 = .ok (.iload_n 2, 1) := by decide +kernel
theorem dd258_15 : decode cX13_bolts 15 = .ok (.iaload, 1) := by decide +kernel
theorem dd258_16 : decode cX13_bolts 16 = .ok (.iaload, 1) := by decide +kernel
theorem dd258_17 : decode cX13_bolts 17 = .ok (.istore_n 3, 1) := by decide +kernel
theorem dd258_18 : decode cX13_bolts 18 = .ok (.aload_n 0, 1) := by decide +kernel
theorem dd258_19 : decode cX13_bolts 19 = .ok (.getfield 20, 3) := by decide +kernel
theorem dd258_22 : decode cX13_bolts 22 = .ok (.getfield 459, 3) := by decide +kernel
theorem dd258_25 : decode cX13_bolts 25 = .ok (.iload_n 2, 1) := by decide +kernel
theorem dd258_26 : decode cX13_bolts 26 = .ok (.iaload, 1) := by decide +kernel
theorem dd258_27 : decode cX13_bolts 27 = .ok (.istore 4, 2) := by decide +kernel
theorem dd258_29 : decode cX13_bolts 29 = .ok (.iload 4, 2) := by decide +kernel
theorem dd258_31 : decode cX13_bolts 31 = .ok (.bipush 12, 2) := by decide +kernel
theorem dd258_33 : decode cX13_bolts 33 = .ok (.if_icmp .ne 37, 3) := by decide +kernel
theorem dd258_36 : decode cX13_bolts 36 = .ok (.aload_n 0, 1) := by decide +kernel
theorem dd258_37 : decode cX13_bolts 37 = .ok (.getfield 51, 3) := by decide +kernel
theorem dd258_40 : decode cX13_bolts 40 = .ok (.iload_n 3, 1) := by decide +kernel
theorem dd258_41 : decode cX13_bolts 41 = .ok (.iaload, 1) := by decide +kernel
theorem dd258_42 : decode cX13_bolts 42 = .ok (.iconst (-1), 1) := by decide +kernel
theorem dd258_43 : decode cX13_bolts 43 = .ok (.if_icmp .ne 21, 3) := by decide +kernel
theorem dd258_46 : decode cX13_bolts 46 = .ok (.aload_n 0, 1) := by decide +kernel
theorem dd258_47 : decode cX13_bolts 47 = .ok (.iload_n 3, 1) := by decide +kernel
theorem dd258_48 : decode cX13_bolts 48 = .ok (.invokevirtual 712, 3) := by decide +kernel
theorem dd258_51 : decode cX13_bolts 51 = .ok (.ifCond .ne 13, 3) := by decide +kernel
theorem dd258_54 : decode cX13_bolts 54 = .ok (.aload_n 0, 1) := by decide +kernel
theorem dd258_55 : decode cX13_bolts 55 = .ok (.getfield 51, 3) := by decide +kernel
theorem dd258_58 : decode cX13_bolts 58 = .ok (.iload_n 3, 1) := by decide +kernel
theorem dd258_59 : decode cX13_bolts 59 = .ok (.iload_n 1, 1) := by decide +kernel
theorem dd258_60 : decode cX13_bolts 60 = .ok (.iastore, 1) := by decide +kernel
theorem dd258_61 : decode cX13_bolts 61 = .ok (.goto 190, 3) := by decide +kernel
theorem dd258_64 : decode cX13_bolts 64 = .ok (.aload_n 0, 1) := by decide +kernel
theorem dd258_65 : decode cX13_bolts 65 = .ok (.iload_n 1, 1) := by decide +kernel
theorem dd258_66 : decode cX13_bolts 66 = .ok (.invokevirtual 706, 3) := by decide +kernel
theorem dd258_69 : decode cX13_bolts 69 = .ok (.return_, 1) := by decide +kernel
theorem dd258_70 : decode cX13_bolts 70 = .ok (.iload 4, 2) := by decide +kernel
theorem dd258_72 : decode cX13_bolts 72 = .ok (.bipush 13, 2) := by decide +kernel
theorem dd258_74 : decode cX13_bolts 74 = .ok (.if_icmp .ne 30, 3) := by decide +kernel
theorem dd258_77 : decode cX13_bolts 77 = .ok (.aload_n 0, 1) := by decide +kernel
theorem dd258_78 : decode cX13_bolts 78 = .ok (.getfield 51, 3) := by decide +kernel
theorem dd258_81 : decode cX13_bolts 81 = .ok (.iload_n 3, 1) := by decide +kernel
theorem dd258_82 : decode cX13_bolts 82 = .ok (.iaload, 1) := by decide +kernel
theorem dd258_83 : decode cX13_bolts 83 = .ok (.iload_n 1, 1) := by decide +kernel
theorem dd258_84 : decode cX13_bolts 84 = .ok (.if_icmp .eq 10, 3) := by decide +kernel
theorem dd258_87 : decode cX13_bolts 87 = .ok (.aload_n 0, 1) := by decide +kernel
theorem dd258_88 : decode cX13_bolts 88 = .ok (.bipush 8, 2) := by decide +kernel
theorem dd258_90 : decode cX13_bolts 90 = .ok (.invokevirtual 644, 3) := by decide +kernel
theorem dd258_93 : decode cX13_bolts 93 = .ok (.return_, 1) := by decide +kernel
theorem dd258_94 : decode cX13_bolts 94 = .ok (.aload_n 0, 1) := by decide +kernel
theorem dd258_95 : decode cX13_bolts 95 = .ok (.getfield 51, 3) := by decide +kernel
theorem dd258_98 : decode cX13_bolts 98 = .ok (.iload_n 3, 1) := by decide +kernel
theorem dd258_99 : decode cX13_bolts 99 = .ok (.iconst (-1), 1) := by decide +kernel
theorem dd258_100 : decode cX13_bolts 100 = .ok (.iastore, 1) := by decide +kernel
theorem dd258_101 : decode cX13_bolts 101 = .ok (.goto 150, 3) := by decide +kernel
theorem dd258_104 : decode cX13_bolts 104 = .ok (.iload 4, 2) := by decide +kernel
theorem dd258_106 : decode cX13_bolts 106 = .ok (.bipush 14, 2) := by decide +kernel
theorem dd258_108 : decode cX13_bolts 108 = .ok (.if_icmp .ne 107, 3) := by decide +kernel
theorem dd258_111 : decode cX13_bolts 111 = .ok (.aload_n 0, 1) := by decide +kernel
theorem dd258_112 : decode cX13_bolts 112 = .ok (.getfield 51, 3) := by decide +kernel
theorem dd258_115 : decode cX13_bolts 115 = .ok (.iload_n 3, 1) := by decide +kernel
theorem dd258_116 : decode cX13_bolts 116 = .ok (.iaload, 1) := by decide +kernel
theorem dd258_117 : decode cX13_bolts 117 = .ok (.iconst (-1), 1) := by decide +kernel
theorem dd258_118 : decode cX13_bolts 118 = .ok (.if_icmp .ne 7, 3) := by decide +kernel
theorem dd258_121 : decode cX13_bolts 121 = .ok (.iconst 1, 1) := by decide +kernel
theorem dd258_122 : decode cX13_bolts 122 = .ok (.goto 4, 3) := by decide +kernel
theorem dd258_125 : decode cX13_bolts 125 = .ok (.iconst 0, 1) := by decide +kernel
theorem dd258_126 : decode cX13_bolts 126 = .ok (.istore 5, 2) := by decide +kernel
theorem dd258_128 : decode cX13_bolts 128 = .ok (.iconst 0, 1) := by decide +kernel
theorem dd258_129 : decode cX13_bolts 129 = .ok (.istore 6, 2) := by decide +kernel
theorem dd258_131 : decode cX13_bolts 131 = .ok (.iload 6, 2) := by decide +kernel
theorem dd258_133 : decode cX13_bolts 133 = .ok (.aload_n 0, 1) := by decide +kernel
theorem dd258_134 : decode cX13_bolts 134 = .ok (.invokevirtual 583, 3) := by decide +kernel
theorem dd258_137 : decode cX13_bolts 137 = .ok (.if_icmp .ge 49, 3) := by decide +kernel
theorem dd258_140 : decode cX13_bolts 140 = .ok (.iload 5, 2) := by decide +kernel
theorem dd258_142 : decode cX13_bolts 142 = .ok (.ifCond .eq 35, 3) := by decide +kernel
theorem dd258_145 : decode cX13_bolts 145 = .ok (.aload_n 0, 1) := by decide +kernel
theorem dd258_146 : decode cX13_bolts 146 = .ok (.iload 6, 2) := by decide +kernel
theorem dd258_148 : decode cX13_bolts 148 = .ok (.bipush 12, 2) := by decide +kernel
theorem dd258_150 : decode cX13_bolts 150 = .ok (.iload_n 3, 1) := by decide +kernel
theorem dd258_151 : decode cX13_bolts 151 = .ok (.invokevirtual 715, 3) := by decide +kernel
theorem dd258_154 : decode cX13_bolts 154 = .ok (.ifCond .eq 19, 3) := by decide +kernel
theorem dd258_157 : decode cX13_bolts 157 = .ok (.aload_n 0, 1) := by decide +kernel
theorem dd258_158 : decode cX13_bolts 158 = .ok (.getfield 94, 3) := by decide +kernel
theorem dd258_161 : decode cX13_bolts 161 = .ok (.iload 6, 2) := by decide +kernel
theorem dd258_163 : decode cX13_bolts 163 = .ok (.iaload, 1) := by decide +kernel
theorem dd258_164 : decode cX13_bolts 164 = .ok (.aload_n 0, 1) := by decide +kernel
theorem dd258_165 : decode cX13_bolts 165 = .ok (.getfield 94, 3) := by decide +kernel
theorem dd258_168 : decode cX13_bolts 168 = .ok (.iload_n 1, 1) := by decide +kernel
theorem dd258_169 : decode cX13_bolts 169 = .ok (.iaload, 1) := by decide +kernel
theorem dd258_170 : decode cX13_bolts 170 = .ok (.if_icmp .le 7, 3) := by decide +kernel
theorem dd258_173 : decode cX13_bolts 173 = .ok (.iconst 1, 1) := by decide +kernel
theorem dd258_174 : decode cX13_bolts 174 = .ok (.goto 4, 3) := by decide +kernel
theorem dd258_177 : decode cX13_bolts 177 = .ok (.iconst 0, 1) := by decide +kernel
theorem dd258_178 : decode cX13_bolts 178 = .ok (.istore 5, 2) := by decide +kernel
theorem dd258_180 : decode cX13_bolts 180 = .ok (.iinc 6 1, 3) := by decide +kernel
theorem dd258_183 : decode cX13_bolts 183 = .ok (.goto (-52), 3) := by decide +kernel
theorem dd258_186 : decode cX13_bolts 186 = .ok (.iload 5, 2) := by decide +kernel
theorem dd258_188 : decode cX13_bolts 188 = .ok (.ifCond .ne 9, 3) := by decide +kernel
theorem dd258_191 : decode cX13_bolts 191 = .ok (.aload_n 0, 1) := by decide +kernel
theorem dd258_192 : decode cX13_bolts 192 = .ok (.iload_n 1, 1) := by decide +kernel
theorem dd258_193 : decode cX13_bolts 193 = .ok (.invokevirtual 706, 3) := by decide +kernel
theorem dd258_196 : decode cX13_bolts 196 = .ok (.return_, 1) := by decide +kernel
theorem dd258_197 : decode cX13_bolts 197 = .ok (.aload_n 0, 1) := by decide +kernel
theorem dd258_198 : decode cX13_bolts 198 = .ok (.getfield 54, 3) := by decide +kernel
theorem dd258_201 : decode cX13_bolts 201 = .ok (.bipush 8, 2) := by decide +kernel
theorem dd258_203 : decode cX13_bolts 203 = .ok (.iload_n 3, 1) := by decide +kernel
theorem dd258_204 : decode cX13_bolts 204 = .ok (.imul, 1) := by decide +kernel
theorem dd258_205 : decode cX13_bolts 205 = .ok (.iload_n 1, 1) := by decide +kernel
theorem dd258_206 : decode cX13_bolts 206 = .ok (.iadd, 1) := by decide +kernel
theorem dd258_207 : decode cX13_bolts 207 = .ok (.dup2, 1) := by decide +kernel
theorem dd258_208 : decode cX13_bolts 208 = .ok (.iaload, 1) := by decide +kernel
theorem dd258_209 : decode cX13_bolts 209 = .ok (.iconst 1, 1) := by decide +kernel
theorem dd258_210 : decode cX13_bolts 210 = .ok (.iadd, 1) := by decide +kernel
theorem dd258_211 : decode cX13_bolts 211 = .ok (.iastore, 1) := by decide +kernel
theorem dd258_212 : decode cX13_bolts 212 = .ok (.goto 39, 3) := by decide +kernel
theorem dd258_215 : decode cX13_bolts 215 = .ok (.aload_n 0, 1) := by decide +kernel
theorem dd258_216 : decode cX13_bolts 216 = .ok (.getfield 54, 3) := by decide +kernel
theorem dd258_219 : decode cX13_bolts 219 = .ok (.bipush 8, 2) := by decide +kernel
theorem dd258_221 : decode cX13_bolts 221 = .ok (.iload_n 3, 1) := by decide +kernel
theorem dd258_222 : decode cX13_bolts 222 = .ok (.imul, 1) := by decide +kernel
theorem dd258_223 : decode cX13_bolts 223 = .ok (.iload_n 1, 1) := by decide +kernel
theorem dd258_224 : decode cX13_bolts 224 = .ok (.iadd, 1) := by decide +kernel
theorem dd258_225 : decode cX13_bolts 225 = .ok (.iaload, 1) := by decide +kernel
theorem dd258_226 : decode cX13_bolts 226 = .ok (.ifCond .ne 10, 3) := by decide +kernel
theorem dd258_229 : decode cX13_bolts 229 = .ok (.aload_n 0, 1) := by decide +kernel
theorem dd258_230 : decode cX13_bolts 230 = .ok (.bipush 8, 2) := by decide +kernel
theorem dd258_232 : decode cX13_bolts 232 = .ok (.invokevirtual 644, 3) := by decide +kernel
theorem dd258_235 : decode cX13_bolts 235 = .ok (.return_, 1) := by decide +kernel
theorem dd258_236 : decode cX13_bolts 236 = .ok (.aload_n 0, 1) := by decide +kernel
theorem dd258_237 : decode cX13_bolts 237 = .ok (.getfield 54, 3) := by decide +kernel
theorem dd258_240 : decode cX13_bolts 240 = .ok (.bipush 8, 2) := by decide +kernel
theorem dd258_242 : decode cX13_bolts 242 = .ok (.iload_n 3, 1) := by decide +kernel
theorem dd258_243 : decode cX13_bolts 243 = .ok (.imul, 1) := by decide +kernel
theorem dd258_244 : decode cX13_bolts 244 = .ok (.iload_n 1, 1) := by decide +kernel
theorem dd258_245 : decode cX13_bolts 245 = .ok (.iadd, 1) := by decide +kernel
theorem dd258_246 : decode cX13_bolts 246 = .ok (.dup2, 1) := by decide +kernel
theorem dd258_247 : decode cX13_bolts 247 = .ok (.iaload, 1) := by decide +kernel
theorem dd258_248 : decode cX13_bolts 248 = .ok (.iconst 1, 1) := by decide +kernel
theorem dd258_249 : decode cX13_bolts 249 = .ok (.isub, 1) := by decide +kernel
theorem dd258_250 : decode cX13_bolts 250 = .ok (.iastore, 1) := by decide +kernel
theorem dd258_251 : decode cX13_bolts 251 = .ok (.aload_n 0, 1) := by decide +kernel
theorem dd258_252 : decode cX13_bolts 252 = .ok (.iload_n 1, 1) := by decide +kernel
theorem dd258_253 : decode cX13_bolts 253 = .ok (.invokevirtual 665, 3) := by decide +kernel
theorem dd258_256 : decode cX13_bolts 256 = .ok (.return_, 1) := by decide +kernel
def f258_251 (n : Nat) (x1 : Int32) (s : zσ) : Option zσ :=
    yb0 (f237 n x1 s) fun u1 =>
    some u1
set_option maxRecDepth 20000 in
theorem f258_251_ok {n d : Nat} {x1 : Int32} {s : zσ} {s2 : zσ} (hd : 26 ≤ d) (h : f258_251 n x1 s = some s2) {w : zσ} {fz : Bool} {L : Nat} {xs : Nat → Int32} : zGo (zX fz L xs) d q_258 (251, [(0, .ref 1132), (1, .int x1)], [], zmk w s, 0, 0) (none, zmk w s2, 0, 0) := by
  obtain ⟨d, rfl⟩ : ∃ d0, d = d0 + 1 := ⟨d - 1, by omega⟩
  unfold f258_251 at h
  refine zGo_s (pc' := 252) (st' := [.ref 1132]) dd258_251 rfl ?_
  refine zGo_s (pc' := 253) (st' := [.int x1, .ref 1132]) dd258_252 rfl ?_
  obtain ⟨u1, hq, h⟩ := obn0 h
  refine zCV0 (As := [.int x1]) (rest := []) (b := 1132) (q' := q_237) dd258_253 rfl rfl (rcv_m rfl rfl (by decide)) rfl rfl rfl (f237_ok (d := d) (by omega)  hq) ?_
  obtain rfl := ore0 h
  exact zGo_ret dd258_256 rfl rfl
def f258_178 (n : Nat) (r131 : Int32 → Int32 → Int32 → Int32 → zσ → Option zσ) (x1 : Int32) (x3 : Int32) (x6 : Int32) (y0 : Int32) (s : zσ) : Option zσ :=
    r131 x1 x3 y0 (x6 + (1 : Int32)) s
set_option maxRecDepth 20000 in
theorem f258_178_ok {n d : Nat} {r131 : Int32 → Int32 → Int32 → Int32 → zσ → Option zσ} {x1 : Int32} {x3 : Int32} {x6 : Int32} {y0 : Int32} {s : zσ} {s2 : zσ} (hd : 26 ≤ d) (hr131 : ∀ (x1 : Int32) (x3 : Int32) (x5 : Int32) (x6 : Int32) (s : zσ) (s2 : zσ), r131 x1 x3 x5 x6 s = some s2 → ∀ {w : zσ} {fz : Bool} {L : Nat} {xs : Nat → Int32}, zGo (zX fz L xs) d q_258 (131, [(0, .ref 1132), (1, .int x1), (3, .int x3), (5, .int x5), (6, .int x6)], [], zmk w s, 0, 0) (none, zmk w s2, 0, 0)) (h : f258_178 n r131 x1 x3 x6 y0 s = some s2) {w : zσ} {fz : Bool} {L : Nat} {xs : Nat → Int32} : zGo (zX fz L xs) d q_258 (178, [(0, .ref 1132), (1, .int x1), (3, .int x3), (6, .int x6)], [.int y0], zmk w s, 0, 0) (none, zmk w s2, 0, 0) := by
  obtain ⟨d, rfl⟩ : ∃ d0, d = d0 + 1 := ⟨d - 1, by omega⟩
  unfold f258_178 at h
  refine zGo_s (pc' := 180) (st' := []) (lv' := [(5, .int y0), (0, .ref 1132), (1, .int x1), (3, .int x3), (6, .int x6)]) dd258_178 rfl ?_
  refine zGo_s (pc' := 183) (st' := []) (lv' := [(6, .int (x6 + (1 : Int32))), (5, .int y0), (0, .ref 1132), (1, .int x1), (3, .int x3)]) dd258_180 rfl ?_
  refine zGo_s (pc' := 131) (st' := []) dd258_183 rfl ?_
  exact zGo_lv (lv := [(0, .ref 1132), (1, .int x1), (3, .int x3), (5, .int y0), (6, .int (x6 + (1 : Int32)))]) ⟨by simp, by simp, by simp⟩ (hr131 _ _ _ _ _ _ h)
def f258_177 (n : Nat) (r131 : Int32 → Int32 → Int32 → Int32 → zσ → Option zσ) (x1 : Int32) (x3 : Int32) (x6 : Int32) (s : zσ) : Option zσ :=
    f258_178 n r131 x1 x3 x6 (0 : Int32) s
set_option maxRecDepth 20000 in
theorem f258_177_ok {n d : Nat} {r131 : Int32 → Int32 → Int32 → Int32 → zσ → Option zσ} {x1 : Int32} {x3 : Int32} {x6 : Int32} {s : zσ} {s2 : zσ} (hd : 26 ≤ d) (hr131 : ∀ (x1 : Int32) (x3 : Int32) (x5 : Int32) (x6 : Int32) (s : zσ) (s2 : zσ), r131 x1 x3 x5 x6 s = some s2 → ∀ {w : zσ} {fz : Bool} {L : Nat} {xs : Nat → Int32}, zGo (zX fz L xs) d q_258 (131, [(0, .ref 1132), (1, .int x1), (3, .int x3), (5, .int x5), (6, .int x6)], [], zmk w s, 0, 0) (none, zmk w s2, 0, 0)) (h : f258_177 n r131 x1 x3 x6 s = some s2) {w : zσ} {fz : Bool} {L : Nat} {xs : Nat → Int32} : zGo (zX fz L xs) d q_258 (177, [(0, .ref 1132), (1, .int x1), (3, .int x3), (6, .int x6)], [], zmk w s, 0, 0) (none, zmk w s2, 0, 0) := by
  obtain ⟨d, rfl⟩ : ∃ d0, d = d0 + 1 := ⟨d - 1, by omega⟩
  unfold f258_177 at h
  refine zGo_s (pc' := 178) (st' := [.int (0 : Int32)]) dd258_177 rfl ?_
  exact f258_178_ok hd hr131 h
def f258_173 (n : Nat) (r131 : Int32 → Int32 → Int32 → Int32 → zσ → Option zσ) (x1 : Int32) (x3 : Int32) (x6 : Int32) (s : zσ) : Option zσ :=
    f258_178 n r131 x1 x3 x6 (1 : Int32) s
set_option maxRecDepth 20000 in
theorem f258_173_ok {n d : Nat} {r131 : Int32 → Int32 → Int32 → Int32 → zσ → Option zσ} {x1 : Int32} {x3 : Int32} {x6 : Int32} {s : zσ} {s2 : zσ} (hd : 26 ≤ d) (hr131 : ∀ (x1 : Int32) (x3 : Int32) (x5 : Int32) (x6 : Int32) (s : zσ) (s2 : zσ), r131 x1 x3 x5 x6 s = some s2 → ∀ {w : zσ} {fz : Bool} {L : Nat} {xs : Nat → Int32}, zGo (zX fz L xs) d q_258 (131, [(0, .ref 1132), (1, .int x1), (3, .int x3), (5, .int x5), (6, .int x6)], [], zmk w s, 0, 0) (none, zmk w s2, 0, 0)) (h : f258_173 n r131 x1 x3 x6 s = some s2) {w : zσ} {fz : Bool} {L : Nat} {xs : Nat → Int32} : zGo (zX fz L xs) d q_258 (173, [(0, .ref 1132), (1, .int x1), (3, .int x3), (6, .int x6)], [], zmk w s, 0, 0) (none, zmk w s2, 0, 0) := by
  obtain ⟨d, rfl⟩ : ∃ d0, d = d0 + 1 := ⟨d - 1, by omega⟩
  unfold f258_173 at h
  refine zGo_s (pc' := 174) (st' := [.int (1 : Int32)]) dd258_173 rfl ?_
  refine zGo_s (pc' := 178) (st' := [.int (1 : Int32)]) dd258_174 rfl ?_
  exact f258_178_ok hd hr131 h
def f258_131 (n : Nat) : Nat → Int32 → Int32 → Int32 → Int32 → zσ → Option zσ
  | 0, _, _, _, _, _ => none
  | j + 1, x1, x3, x5, x6, s =>
    yb1 (f209 n s) fun v2 u1 =>
    if x6 < v2 then
    if x5 = (0 : Int32) then
    f258_177 n (f258_131 n j) x1 x3 x6 u1
    else yb1 (f234 n x6 (12 : Int32) x3 u1) fun v6 u5 =>
    if v6 = (0 : Int32) then
    f258_173 n (f258_131 n j) x1 x3 x6 u5
    else if zin? x6 8 = true then
    if zin? x1 8 = true then
    if (u5.1 1226 (nx x1)) < (u5.1 1226 (nx x6)) then
    f258_173 n (f258_131 n j) x1 x3 x6 u5
    else f258_177 n (f258_131 n j) x1 x3 x6 u5
    else none
    else none
    else if x5 = (0 : Int32) then
    yb0 (f257 n x1 u1) fun u4 =>
    some u4
    else if zin? (((8 : Int32) * x3) + x1) 32 = true then
    if zin? (((8 : Int32) * x3) + x1) 32 = true then
    zlet (sI u1 1213 (nx (((8 : Int32) * x3) + x1)) ((u1.1 1213 (nx (((8 : Int32) * x3) + x1))) + (1 : Int32))) fun u3 =>
    f258_251 n x1 u3
    else none
    else none
set_option maxRecDepth 20000 in
theorem f258_131_ok {n d : Nat} (hd : 26 ≤ d) : ∀ (j : Nat) (x1 : Int32) (x3 : Int32) (x5 : Int32) (x6 : Int32) (s : zσ) (s2 : zσ), f258_131 n j x1 x3 x5 x6 s = some s2 → ∀ {w : zσ} {fz : Bool} {L : Nat} {xs : Nat → Int32}, zGo (zX fz L xs) d q_258 (131, [(0, .ref 1132), (1, .int x1), (3, .int x3), (5, .int x5), (6, .int x6)], [], zmk w s, 0, 0) (none, zmk w s2, 0, 0) := by
  obtain ⟨d, rfl⟩ : ∃ d0, d = d0 + 1 := ⟨d - 1, by omega⟩
  intro j
  induction j with
  | zero => intro x1 x3 x5 x6 s s2 h; cases h
  | succ j ih =>
    intro x1 x3 x5 x6 s s2 h w fz L xs
    rw [f258_131] at h
    refine zGo_s (pc' := 133) (st' := [.int x6]) dd258_131 rfl ?_
    refine zGo_s (pc' := 134) (st' := [.ref 1132, .int x6]) dd258_133 rfl ?_
    obtain ⟨v2, u1, hq, h⟩ := obnd h
    refine zCV1 (As := []) (rest := [.int x6]) (b := 1132) (q' := q_209) dd258_134 rfl rfl (rcv_m rfl rfl (by decide)) rfl rfl rfl (f209_ok (d := d) (by omega)  hq) ?_
    rcases oite h with ⟨hc, h⟩ | ⟨hc, h⟩
    · refine zIF dd258_137 (kGeF hc) ?_
      refine zGo_s (pc' := 142) (st' := [.int x5]) dd258_140 rfl ?_
      rcases oite h with ⟨hc, h⟩ | ⟨hc, h⟩
      · refine zUT dd258_142 rfl (kEqT hc) ?_
        exact zGo_lv (lv := [(0, .ref 1132), (1, .int x1), (3, .int x3), (6, .int x6)]) ⟨by simp, by simp, by simp⟩ (f258_177_ok hd ih h)
      · refine zUF dd258_142 (kEqF hc) ?_
        refine zGo_s (pc' := 146) (st' := [.ref 1132]) dd258_145 rfl ?_
        refine zGo_s (pc' := 148) (st' := [.int x6, .ref 1132]) dd258_146 rfl ?_
        refine zGo_s (pc' := 150) (st' := [.int (12 : Int32), .int x6, .ref 1132]) dd258_148 rfl ?_
        refine zGo_s (pc' := 151) (st' := [.int x3, .int (12 : Int32), .int x6, .ref 1132]) dd258_150 rfl ?_
        obtain ⟨v6, u5, hq, h⟩ := obnd h
        refine zCV1 (As := [.int x6, .int (12 : Int32), .int x3]) (rest := []) (b := 1132) (q' := q_234) dd258_151 rfl rfl (rcv_m rfl rfl (by decide)) rfl rfl rfl (f234_ok (d := d) (by omega)  hq) ?_
        rcases oite h with ⟨hc, h⟩ | ⟨hc, h⟩
        · refine zUT dd258_154 rfl (kEqT hc) ?_
          exact zGo_lv (lv := [(0, .ref 1132), (1, .int x1), (3, .int x3), (6, .int x6)]) ⟨by simp, by simp, by simp⟩ (f258_173_ok hd ih h)
        · refine zUF dd258_154 (kEqF hc) ?_
          refine zGo_s (pc' := 158) (st' := [.ref 1132]) dd258_157 rfl ?_
          refine mGF (e := 1226) dd258_158 rfl rfl rfl rfl rfl ?_
          refine zGo_s (pc' := 163) (st' := [.int x6, .ref 1226]) dd258_161 rfl ?_
          obtain ⟨hi, h⟩ := ochk h
          refine mIA dd258_163 rfl rfl hi ?_
          refine zGo_s (pc' := 165) (st' := [.ref 1132, .int (u5.1 1226 (nx x6))]) dd258_164 rfl ?_
          refine mGF (e := 1226) dd258_165 rfl rfl rfl rfl rfl ?_
          refine zGo_s (pc' := 169) (st' := [.int x1, .ref 1226, .int (u5.1 1226 (nx x6))]) dd258_168 rfl ?_
          obtain ⟨hi, h⟩ := ochk h
          refine mIA dd258_169 rfl rfl hi ?_
          rcases oite h with ⟨hc, h⟩ | ⟨hc, h⟩
          · refine zIF dd258_170 (kLeF hc) ?_
            exact zGo_lv (lv := [(0, .ref 1132), (1, .int x1), (3, .int x3), (6, .int x6)]) ⟨by simp, by simp, by simp⟩ (f258_173_ok hd ih h)
          · refine zIT dd258_170 rfl (kLeT hc) ?_
            exact zGo_lv (lv := [(0, .ref 1132), (1, .int x1), (3, .int x3), (6, .int x6)]) ⟨by simp, by simp, by simp⟩ (f258_177_ok hd ih h)
    · refine zIT dd258_137 rfl (kGeT hc) ?_
      refine zGo_s (pc' := 188) (st' := [.int x5]) dd258_186 rfl ?_
      rcases oite h with ⟨hc, h⟩ | ⟨hc, h⟩
      · refine zUF dd258_188 (kNeF hc) ?_
        refine zGo_s (pc' := 192) (st' := [.ref 1132]) dd258_191 rfl ?_
        refine zGo_s (pc' := 193) (st' := [.int x1, .ref 1132]) dd258_192 rfl ?_
        obtain ⟨u4, hq, h⟩ := obn0 h
        refine zCV0 (As := [.int x1]) (rest := []) (b := 1132) (q' := q_257) dd258_193 rfl rfl (rcv_m rfl rfl (by decide)) rfl rfl rfl (f257_ok (d := d) (by omega)  hq) ?_
        obtain rfl := ore0 h
        exact zGo_ret dd258_196 rfl rfl
      · refine zUT dd258_188 rfl (kNeT hc) ?_
        refine zGo_s (pc' := 198) (st' := [.ref 1132]) dd258_197 rfl ?_
        refine mGF (e := 1213) dd258_198 rfl rfl rfl rfl rfl ?_
        refine zGo_s (pc' := 203) (st' := [.int (8 : Int32), .ref 1213]) dd258_201 rfl ?_
        refine zGo_s (pc' := 204) (st' := [.int x3, .int (8 : Int32), .ref 1213]) dd258_203 rfl ?_
        refine zGo_s (pc' := 205) (st' := [.int ((8 : Int32) * x3), .ref 1213]) dd258_204 rfl ?_
        refine zGo_s (pc' := 206) (st' := [.int x1, .int ((8 : Int32) * x3), .ref 1213]) dd258_205 rfl ?_
        refine zGo_s (pc' := 207) (st' := [.int (((8 : Int32) * x3) + x1), .ref 1213]) dd258_206 rfl ?_
        refine zGo_s (pc' := 208) (st' := [.int (((8 : Int32) * x3) + x1), .ref 1213, .int (((8 : Int32) * x3) + x1), .ref 1213]) dd258_207 rfl ?_
        obtain ⟨hi, h⟩ := ochk h
        refine mIA dd258_208 rfl rfl hi ?_
        refine zGo_s (pc' := 210) (st' := [.int (1 : Int32), .int (u1.1 1213 (nx (((8 : Int32) * x3) + x1))), .int (((8 : Int32) * x3) + x1), .ref 1213]) dd258_209 rfl ?_
        refine zGo_s (pc' := 211) (st' := [.int ((u1.1 1213 (nx (((8 : Int32) * x3) + x1))) + (1 : Int32)), .int (((8 : Int32) * x3) + x1), .ref 1213]) dd258_210 rfl ?_
        obtain ⟨hi, h⟩ := ochk h
        obtain ⟨u3, e_u3, h⟩ := olet h
        refine mIS dd258_211 rfl rfl hi e_u3 ?_
        refine zGo_s (pc' := 251) (st' := []) dd258_212 rfl ?_
        exact zGo_lv (lv := [(0, .ref 1132), (1, .int x1)]) ⟨by simp, by simp, by simp⟩ (f258_251_ok hd h)
def f258_126 (n : Nat) (x1 : Int32) (x3 : Int32) (y0 : Int32) (s : zσ) : Option zσ :=
    f258_131 n n x1 x3 y0 (0 : Int32) s
set_option maxRecDepth 20000 in
theorem f258_126_ok {n d : Nat} {x1 : Int32} {x3 : Int32} {y0 : Int32} {s : zσ} {s2 : zσ} (hd : 26 ≤ d) (h : f258_126 n x1 x3 y0 s = some s2) {w : zσ} {fz : Bool} {L : Nat} {xs : Nat → Int32} : zGo (zX fz L xs) d q_258 (126, [(0, .ref 1132), (1, .int x1), (3, .int x3)], [.int y0], zmk w s, 0, 0) (none, zmk w s2, 0, 0) := by
  obtain ⟨d, rfl⟩ : ∃ d0, d = d0 + 1 := ⟨d - 1, by omega⟩
  unfold f258_126 at h
  refine zGo_s (pc' := 128) (st' := []) (lv' := [(5, .int y0), (0, .ref 1132), (1, .int x1), (3, .int x3)]) dd258_126 rfl ?_
  refine zGo_s (pc' := 129) (st' := [.int (0 : Int32)]) dd258_128 rfl ?_
  refine zGo_s (pc' := 131) (st' := []) (lv' := [(6, .int (0 : Int32)), (5, .int y0), (0, .ref 1132), (1, .int x1), (3, .int x3)]) dd258_129 rfl ?_
  exact zGo_lv (lv := [(0, .ref 1132), (1, .int x1), (3, .int x3), (5, .int y0), (6, .int (0 : Int32))]) ⟨by simp, by simp, by simp⟩ (f258_131_ok hd _ _ _ _ _ _ _ h)
def f258_64 (n : Nat) (x1 : Int32) (s : zσ) : Option zσ :=
    yb0 (f257 n x1 s) fun u1 =>
    some u1
set_option maxRecDepth 20000 in
theorem f258_64_ok {n d : Nat} {x1 : Int32} {s : zσ} {s2 : zσ} (hd : 26 ≤ d) (h : f258_64 n x1 s = some s2) {w : zσ} {fz : Bool} {L : Nat} {xs : Nat → Int32} : zGo (zX fz L xs) d q_258 (64, [(0, .ref 1132), (1, .int x1)], [], zmk w s, 0, 0) (none, zmk w s2, 0, 0) := by
  obtain ⟨d, rfl⟩ : ∃ d0, d = d0 + 1 := ⟨d - 1, by omega⟩
  unfold f258_64 at h
  refine zGo_s (pc' := 65) (st' := [.ref 1132]) dd258_64 rfl ?_
  refine zGo_s (pc' := 66) (st' := [.int x1, .ref 1132]) dd258_65 rfl ?_
  obtain ⟨u1, hq, h⟩ := obn0 h
  refine zCV0 (As := [.int x1]) (rest := []) (b := 1132) (q' := q_257) dd258_66 rfl rfl (rcv_m rfl rfl (by decide)) rfl rfl rfl (f257_ok (d := d) (by omega)  hq) ?_
  obtain rfl := ore0 h
  exact zGo_ret dd258_69 rfl rfl
def f258 (n : Nat) (x1 : Int32) (x2 : Int32) (s : zσ) : Option zσ :=
    zrd 12 (s.2.2 1132 11) fun a1 =>
    zrd 12 (s.2.2 1132 11) fun a2 =>
    if zin? x2 200 = true then
    if zin? (s.1 (a2 + 17) (nx x2)) 1400 = true then
    zlet ((s.1 (a1 + 33) (nx (s.1 (a2 + 17) (nx x2))))) fun v3 =>
    zrd 12 (s.2.2 1132 11) fun a4 =>
    if zin? x2 200 = true then
    zlet ((s.1 (a4 + 15) (nx x2))) fun v5 =>
    if v5 = (12 : Int32) then
    if zin? v3 4 = true then
    if (s.1 1212 (nx v3)) = (-1 : Int32) then
    yb1 (f233 n v3 s) fun v11 u10 =>
    if v11 = (0 : Int32) then
    if zin? v3 4 = true then
    zlet (sI u10 1212 (nx v3) x1) fun u12 =>
    f258_251 n x1 u12
    else none
    else f258_64 n x1 u10
    else f258_64 n x1 s
    else none
    else if v5 = (13 : Int32) then
    if zin? v3 4 = true then
    if (s.1 1212 (nx v3)) = x1 then
    if zin? v3 4 = true then
    zlet (sI s 1212 (nx v3) (-1 : Int32)) fun u8 =>
    f258_251 n x1 u8
    else none
    else yb0 (f246 n (8 : Int32) s) fun u9 =>
    some u9
    else none
    else if v5 = (14 : Int32) then
    if zin? v3 4 = true then
    if (s.1 1212 (nx v3)) = (-1 : Int32) then
    f258_126 n x1 v3 (1 : Int32) s
    else f258_126 n x1 v3 (0 : Int32) s
    else none
    else if zin? (((8 : Int32) * v3) + x1) 32 = true then
    if (s.1 1213 (nx (((8 : Int32) * v3) + x1))) = (0 : Int32) then
    yb0 (f246 n (8 : Int32) s) fun u7 =>
    some u7
    else if zin? (((8 : Int32) * v3) + x1) 32 = true then
    if zin? (((8 : Int32) * v3) + x1) 32 = true then
    zlet (sI s 1213 (nx (((8 : Int32) * v3) + x1)) ((s.1 1213 (nx (((8 : Int32) * v3) + x1))) - (1 : Int32))) fun u6 =>
    f258_251 n x1 u6
    else none
    else none
    else none
    else none
    else none
    else none
set_option maxRecDepth 20000 in
theorem f258_ok {n d : Nat} {x1 : Int32} {x2 : Int32} {s : zσ} {s2 : zσ} (hd : 26 ≤ d) (h : f258 n x1 x2 s = some s2) {w : zσ} {fz : Bool} {L : Nat} {xs : Nat → Int32} : zGo (zX fz L xs) d q_258 (0, [(0, .ref 1132), (1, .int x1), (2, .int x2)], [], zmk w s, 0, 0) (none, zmk w s2, 0, 0) := by
  obtain ⟨d, rfl⟩ : ∃ d0, d = d0 + 1 := ⟨d - 1, by omega⟩
  unfold f258 at h
  refine zGo_s (pc' := 1) (st' := [.ref 1132]) dd258_0 rfl ?_
  obtain ⟨a1, e_a1, c_a1, h⟩ := ordd h
  refine mGR dd258_1 rfl rfl rfl rfl e_a1 ?_
  refine mGF (e := (a1 + 33)) dd258_4 rfl (ck12_s c_a1).1 (ck12_s c_a1).2 rfl (cf12_39 c_a1).1 ?_
  refine zGo_s (pc' := 8) (st' := [.ref 1132, .ref (a1 + 33)]) dd258_7 rfl ?_
  obtain ⟨a2, e_a2, c_a2, h⟩ := ordd h
  refine mGR dd258_8 rfl rfl rfl rfl e_a2 ?_
  refine mGF (e := (a2 + 17)) dd258_11 rfl (ck12_s c_a2).1 (ck12_s c_a2).2 rfl (cf12_19 c_a2).1 ?_
  refine zGo_s (pc' := 15) (st' := [.int x2, .ref (a2 + 17), .ref (a1 + 33)]) dd258_14 rfl ?_
  obtain ⟨hi, h⟩ := ochk h
  refine mIA dd258_15 (cf12_19 c_a2).2.1 (cf12_19 c_a2).2.2 hi ?_
  obtain ⟨hi, h⟩ := ochk h
  refine mIA dd258_16 (cf12_39 c_a1).2.1 (cf12_39 c_a1).2.2 hi ?_
  obtain ⟨v3, e_v3, h⟩ := olet h
  refine zGo_is1 e_v3 dd258_17 (x' := (18, [(3, .int v3), (0, .ref 1132), (1, .int x1), (2, .int x2)], [], _, _, _)) rfl ?_
  refine zGo_s (pc' := 19) (st' := [.ref 1132]) dd258_18 rfl ?_
  obtain ⟨a4, e_a4, c_a4, h⟩ := ordd h
  refine mGR dd258_19 rfl rfl rfl rfl e_a4 ?_
  refine mGF (e := (a4 + 15)) dd258_22 rfl (ck12_s c_a4).1 (ck12_s c_a4).2 rfl (cf12_17 c_a4).1 ?_
  refine zGo_s (pc' := 26) (st' := [.int x2, .ref (a4 + 15)]) dd258_25 rfl ?_
  obtain ⟨hi, h⟩ := ochk h
  refine mIA dd258_26 (cf12_17 c_a4).2.1 (cf12_17 c_a4).2.2 hi ?_
  obtain ⟨v5, e_v5, h⟩ := olet h
  refine zGo_is1 e_v5 dd258_27 (x' := (29, [(4, .int v5), (3, .int v3), (0, .ref 1132), (1, .int x1), (2, .int x2)], [], _, _, _)) rfl ?_
  refine zGo_s (pc' := 31) (st' := [.int v5]) dd258_29 rfl ?_
  refine zGo_s (pc' := 33) (st' := [.int (12 : Int32), .int v5]) dd258_31 rfl ?_
  rcases oite h with ⟨hc, h⟩ | ⟨hc, h⟩
  · refine zIF dd258_33 (kNeF hc) ?_
    refine zGo_s (pc' := 37) (st' := [.ref 1132]) dd258_36 rfl ?_
    refine mGF (e := 1212) dd258_37 rfl rfl rfl rfl rfl ?_
    refine zGo_s (pc' := 41) (st' := [.int v3, .ref 1212]) dd258_40 rfl ?_
    obtain ⟨hi, h⟩ := ochk h
    refine mIA dd258_41 rfl rfl hi ?_
    refine zGo_s (pc' := 43) (st' := [.int (-1 : Int32), .int (s.1 1212 (nx v3))]) dd258_42 rfl ?_
    rcases oite h with ⟨hc, h⟩ | ⟨hc, h⟩
    · refine zIF dd258_43 (kNeF hc) ?_
      refine zGo_s (pc' := 47) (st' := [.ref 1132]) dd258_46 rfl ?_
      refine zGo_s (pc' := 48) (st' := [.int v3, .ref 1132]) dd258_47 rfl ?_
      obtain ⟨v11, u10, hq, h⟩ := obnd h
      refine zCV1 (As := [.int v3]) (rest := []) (b := 1132) (q' := q_233) dd258_48 rfl rfl (rcv_m rfl rfl (by decide)) rfl rfl rfl (f233_ok (d := d) (by omega)  hq) ?_
      rcases oite h with ⟨hc, h⟩ | ⟨hc, h⟩
      · refine zUF dd258_51 (kNeF hc) ?_
        refine zGo_s (pc' := 55) (st' := [.ref 1132]) dd258_54 rfl ?_
        refine mGF (e := 1212) dd258_55 rfl rfl rfl rfl rfl ?_
        refine zGo_s (pc' := 59) (st' := [.int v3, .ref 1212]) dd258_58 rfl ?_
        refine zGo_s (pc' := 60) (st' := [.int x1, .int v3, .ref 1212]) dd258_59 rfl ?_
        obtain ⟨hi, h⟩ := ochk h
        obtain ⟨u12, e_u12, h⟩ := olet h
        refine mIS dd258_60 rfl rfl hi e_u12 ?_
        refine zGo_s (pc' := 251) (st' := []) dd258_61 rfl ?_
        exact zGo_lv (lv := [(0, .ref 1132), (1, .int x1)]) ⟨by simp, by simp, by simp⟩ (f258_251_ok hd h)
      · refine zUT dd258_51 rfl (kNeT hc) ?_
        exact zGo_lv (lv := [(0, .ref 1132), (1, .int x1)]) ⟨by simp, by simp, by simp⟩ (f258_64_ok hd h)
    · refine zIT dd258_43 rfl (kNeT hc) ?_
      exact zGo_lv (lv := [(0, .ref 1132), (1, .int x1)]) ⟨by simp, by simp, by simp⟩ (f258_64_ok hd h)
  · refine zIT dd258_33 rfl (kNeT hc) ?_
    refine zGo_s (pc' := 72) (st' := [.int v5]) dd258_70 rfl ?_
    refine zGo_s (pc' := 74) (st' := [.int (13 : Int32), .int v5]) dd258_72 rfl ?_
    rcases oite h with ⟨hc, h⟩ | ⟨hc, h⟩
    · refine zIF dd258_74 (kNeF hc) ?_
      refine zGo_s (pc' := 78) (st' := [.ref 1132]) dd258_77 rfl ?_
      refine mGF (e := 1212) dd258_78 rfl rfl rfl rfl rfl ?_
      refine zGo_s (pc' := 82) (st' := [.int v3, .ref 1212]) dd258_81 rfl ?_
      obtain ⟨hi, h⟩ := ochk h
      refine mIA dd258_82 rfl rfl hi ?_
      refine zGo_s (pc' := 84) (st' := [.int x1, .int (s.1 1212 (nx v3))]) dd258_83 rfl ?_
      rcases oite h with ⟨hc, h⟩ | ⟨hc, h⟩
      · refine zIT dd258_84 rfl (kEqT hc) ?_
        refine zGo_s (pc' := 95) (st' := [.ref 1132]) dd258_94 rfl ?_
        refine mGF (e := 1212) dd258_95 rfl rfl rfl rfl rfl ?_
        refine zGo_s (pc' := 99) (st' := [.int v3, .ref 1212]) dd258_98 rfl ?_
        refine zGo_s (pc' := 100) (st' := [.int (-1 : Int32), .int v3, .ref 1212]) dd258_99 rfl ?_
        obtain ⟨hi, h⟩ := ochk h
        obtain ⟨u8, e_u8, h⟩ := olet h
        refine mIS dd258_100 rfl rfl hi e_u8 ?_
        refine zGo_s (pc' := 251) (st' := []) dd258_101 rfl ?_
        exact zGo_lv (lv := [(0, .ref 1132), (1, .int x1)]) ⟨by simp, by simp, by simp⟩ (f258_251_ok hd h)
      · refine zIF dd258_84 (kEqF hc) ?_
        refine zGo_s (pc' := 88) (st' := [.ref 1132]) dd258_87 rfl ?_
        refine zGo_s (pc' := 90) (st' := [.int (8 : Int32), .ref 1132]) dd258_88 rfl ?_
        obtain ⟨u9, hq, h⟩ := obn0 h
        refine zCV0 (As := [.int (8 : Int32)]) (rest := []) (b := 1132) (q' := q_246) dd258_90 rfl rfl (rcv_m rfl rfl (by decide)) rfl rfl rfl (f246_ok (d := d) (by omega)  hq) ?_
        obtain rfl := ore0 h
        exact zGo_ret dd258_93 rfl rfl
    · refine zIT dd258_74 rfl (kNeT hc) ?_
      refine zGo_s (pc' := 106) (st' := [.int v5]) dd258_104 rfl ?_
      refine zGo_s (pc' := 108) (st' := [.int (14 : Int32), .int v5]) dd258_106 rfl ?_
      rcases oite h with ⟨hc, h⟩ | ⟨hc, h⟩
      · refine zIF dd258_108 (kNeF hc) ?_
        refine zGo_s (pc' := 112) (st' := [.ref 1132]) dd258_111 rfl ?_
        refine mGF (e := 1212) dd258_112 rfl rfl rfl rfl rfl ?_
        refine zGo_s (pc' := 116) (st' := [.int v3, .ref 1212]) dd258_115 rfl ?_
        obtain ⟨hi, h⟩ := ochk h
        refine mIA dd258_116 rfl rfl hi ?_
        refine zGo_s (pc' := 118) (st' := [.int (-1 : Int32), .int (s.1 1212 (nx v3))]) dd258_117 rfl ?_
        rcases oite h with ⟨hc, h⟩ | ⟨hc, h⟩
        · refine zIF dd258_118 (kNeF hc) ?_
          refine zGo_s (pc' := 122) (st' := [.int (1 : Int32)]) dd258_121 rfl ?_
          refine zGo_s (pc' := 126) (st' := [.int (1 : Int32)]) dd258_122 rfl ?_
          exact zGo_lv (lv := [(0, .ref 1132), (1, .int x1), (3, .int v3)]) ⟨by simp, by simp, by simp⟩ (f258_126_ok hd h)
        · refine zIT dd258_118 rfl (kNeT hc) ?_
          refine zGo_s (pc' := 126) (st' := [.int (0 : Int32)]) dd258_125 rfl ?_
          exact zGo_lv (lv := [(0, .ref 1132), (1, .int x1), (3, .int v3)]) ⟨by simp, by simp, by simp⟩ (f258_126_ok hd h)
      · refine zIT dd258_108 rfl (kNeT hc) ?_
        refine zGo_s (pc' := 216) (st' := [.ref 1132]) dd258_215 rfl ?_
        refine mGF (e := 1213) dd258_216 rfl rfl rfl rfl rfl ?_
        refine zGo_s (pc' := 221) (st' := [.int (8 : Int32), .ref 1213]) dd258_219 rfl ?_
        refine zGo_s (pc' := 222) (st' := [.int v3, .int (8 : Int32), .ref 1213]) dd258_221 rfl ?_
        refine zGo_s (pc' := 223) (st' := [.int ((8 : Int32) * v3), .ref 1213]) dd258_222 rfl ?_
        refine zGo_s (pc' := 224) (st' := [.int x1, .int ((8 : Int32) * v3), .ref 1213]) dd258_223 rfl ?_
        refine zGo_s (pc' := 225) (st' := [.int (((8 : Int32) * v3) + x1), .ref 1213]) dd258_224 rfl ?_
        obtain ⟨hi, h⟩ := ochk h
        refine mIA dd258_225 rfl rfl hi ?_
        rcases oite h with ⟨hc, h⟩ | ⟨hc, h⟩
        · refine zUF dd258_226 (kNeF hc) ?_
          refine zGo_s (pc' := 230) (st' := [.ref 1132]) dd258_229 rfl ?_
          refine zGo_s (pc' := 232) (st' := [.int (8 : Int32), .ref 1132]) dd258_230 rfl ?_
          obtain ⟨u7, hq, h⟩ := obn0 h
          refine zCV0 (As := [.int (8 : Int32)]) (rest := []) (b := 1132) (q' := q_246) dd258_232 rfl rfl (rcv_m rfl rfl (by decide)) rfl rfl rfl (f246_ok (d := d) (by omega)  hq) ?_
          obtain rfl := ore0 h
          exact zGo_ret dd258_235 rfl rfl
        · refine zUT dd258_226 rfl (kNeT hc) ?_
          refine zGo_s (pc' := 237) (st' := [.ref 1132]) dd258_236 rfl ?_
          refine mGF (e := 1213) dd258_237 rfl rfl rfl rfl rfl ?_
          refine zGo_s (pc' := 242) (st' := [.int (8 : Int32), .ref 1213]) dd258_240 rfl ?_
          refine zGo_s (pc' := 243) (st' := [.int v3, .int (8 : Int32), .ref 1213]) dd258_242 rfl ?_
          refine zGo_s (pc' := 244) (st' := [.int ((8 : Int32) * v3), .ref 1213]) dd258_243 rfl ?_
          refine zGo_s (pc' := 245) (st' := [.int x1, .int ((8 : Int32) * v3), .ref 1213]) dd258_244 rfl ?_
          refine zGo_s (pc' := 246) (st' := [.int (((8 : Int32) * v3) + x1), .ref 1213]) dd258_245 rfl ?_
          refine zGo_s (pc' := 247) (st' := [.int (((8 : Int32) * v3) + x1), .ref 1213, .int (((8 : Int32) * v3) + x1), .ref 1213]) dd258_246 rfl ?_
          obtain ⟨hi, h⟩ := ochk h
          refine mIA dd258_247 rfl rfl hi ?_
          refine zGo_s (pc' := 249) (st' := [.int (1 : Int32), .int (s.1 1213 (nx (((8 : Int32) * v3) + x1))), .int (((8 : Int32) * v3) + x1), .ref 1213]) dd258_248 rfl ?_
          refine zGo_s (pc' := 250) (st' := [.int ((s.1 1213 (nx (((8 : Int32) * v3) + x1))) - (1 : Int32)), .int (((8 : Int32) * v3) + x1), .ref 1213]) dd258_249 rfl ?_
          obtain ⟨hi, h⟩ := ochk h
          obtain ⟨u6, e_u6, h⟩ := olet h
          refine mIS dd258_250 rfl rfl hi e_u6 ?_
          exact zGo_lv (lv := [(0, .ref 1132), (1, .int x1)]) ⟨by simp, by simp, by simp⟩ (f258_251_ok hd h)
