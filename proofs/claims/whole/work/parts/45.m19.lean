/-! PHModel.act()I -/
theorem dd184_0 : decode cX13_act 0 = .ok (.aload_n 0, 1) := by decide +kernel
theorem dd184_1 : decode cX13_act 1 = .ok (.getfield 24, 3) := by decide +kernel
theorem dd184_4 : decode cX13_act 4 = .ok (.astore_n 1, 1) := by decide +kernel
theorem dd184_5 : decode cX13_act 5 = .ok (.aload_n 0, 1) := by decide +kernel
theorem dd184_6 : decode cX13_act 6 = .ok (.invokevirtual 432, 3) := by decide +kernel
theorem dd184_9 : decode cX13_act 9 = .ok (.istore_n 2, 1) := by decide +kernel
theorem dd184_10 : decode cX13_act 10 = .ok (.aload_n 0, 1) := by decide +kernel
theorem dd184_11 : decode cX13_act 11 = .ok (.getfield 179, 3) := by decide +kernel
theorem dd184_14 : decode cX13_act 14 = .ok (.iconst 1, 1) := by decide +kernel
theorem dd184_15 : decode cX13_act 15 = .ok (.if_icmp .ne 13, 3) := by decide +kernel
theorem dd184_18 : decode cX13_act 18 = .ok (.aload_n 0, 1) := by decide +kernel
theorem dd184_19 : decode cX13_act 19 = .ok (.getfield 186, 3) := by decide +kernel
theorem dd184_22 : decode cX13_act 22 = .ok (.invokestatic 435, 3) := by decide +kernel
theorem dd184_25 : decode cX13_act 25 = .ok (.goto 4, 3) := by decide +kernel
theorem dd184_28 : decode cX13_act 28 = .ok (.iconst 0, 1) := by decide +kernel
theorem dd184_29 : decode cX13_act 29 = .ok (.istore_n 3, 1) := by decide +kernel
theorem dd184_30 : decode cX13_act 30 = .ok (.iload_n 2, 1) := by decide +kernel
theorem dd184_31 : decode cX13_act 31 = .ok (.ifCond .ne 27, 3) := by decide +kernel
theorem dd184_34 : decode cX13_act 34 = .ok (.aload_n 0, 1) := by decide +kernel
theorem dd184_35 : decode cX13_act 35 = .ok (.invokevirtual 246, 3) := by decide +kernel
theorem dd184_38 : decode cX13_act 38 = .ok (.ifCond .ne 20, 3) := by decide +kernel
theorem dd184_41 : decode cX13_act 41 = .ok (.iload_n 3, 1) := by decide +kernel
theorem dd184_42 : decode cX13_act 42 = .ok (.ifCond .eq 20, 3) := by decide +kernel
theorem dd184_45 : decode cX13_act 45 = .ok (.iload_n 3, 1) := by decide +kernel
theorem dd184_46 : decode cX13_act 46 = .ok (.iconst 4, 1) := by decide +kernel
theorem dd184_47 : decode cX13_act 47 = .ok (.if_icmp .ne 11, 3) := by decide +kernel
theorem dd184_50 : decode cX13_act 50 = .ok (.aload_n 0, 1) := by decide +kernel
theorem dd184_51 : decode cX13_act 51 = .ok (.getfield 264, 3) := by decide +kernel
theorem dd184_54 : decode cX13_act 54 = .ok (.iconst (-1), 1) := by decide +kernel
theorem dd184_55 : decode cX13_act 55 = .ok (.if_icmp .eq 7, 3) := by decide +kernel
theorem dd184_58 : decode cX13_act 58 = .ok (.iconst 1, 1) := by decide +kernel
theorem dd184_59 : decode cX13_act 59 = .ok (.goto 4, 3) := by decide +kernel
theorem dd184_62 : decode cX13_act 62 = .ok (.iconst 0, 1) := by decide +kernel
theorem dd184_63 : decode cX13_act 63 = .ok (.istore 4, 2) := by decide +kernel
theorem dd184_65 : decode cX13_act 65 = .ok (.iload 4, 2) := by decide +kernel
theorem dd184_67 : decode cX13_act 67 = .ok (.ifCond .ne 9, 3) := by decide +kernel
theorem dd184_70 : decode cX13_act 70 = .ok (.aload_n 0, 1) := by decide +kernel
theorem dd184_71 : decode cX13_act 71 = .ok (.invokevirtual 234, 3) := by decide +kernel
theorem dd184_74 : decode cX13_act 74 = .ok (.iconst 0, 1) := by decide +kernel
theorem dd184_75 : decode cX13_act 75 = .ok (.ireturn, 1) := by decide +kernel
theorem dd184_76 : decode cX13_act 76 = .ok (.aload_n 1, 1) := by decide +kernel
theorem dd184_77 : decode cX13_act 77 = .ok (.getfield 438, 3) := by decide +kernel
theorem dd184_80 : decode cX13_act 80 = .ok (.sipush 200, 3) := by decide +kernel
theorem dd184_83 : decode cX13_act 83 = .ok (.if_icmp .ne 14, 3) := by decide +kernel
theorem dd184_86 : decode cX13_act 86 = .ok (.aload_n 0, 1) := by decide +kernel
theorem dd184_87 : decode cX13_act 87 = .ok (.iconst 3, 1) := by decide +kernel
theorem dd184_88 : decode cX13_act 88 = .ok (.aload_n 0, 1) := by decide +kernel
theorem dd184_89 : decode cX13_act 89 = .ok (.getfield 176, 3) := by decide +kernel
theorem dd184_92 : decode cX13_act 92 = .ok (.invokevirtual 215, 3) := by decide +kernel
theorem dd184_95 : decode cX13_act 95 = .ok (.iconst 0, 1) := by decide +kernel
theorem dd184_96 : decode cX13_act 96 = .ok (.ireturn, 1) := by decide +kernel
theorem dd184_97 : decode cX13_act 97 = .ok (.aload_n 1, 1) := by decide +kernel
theorem dd184_98 : decode cX13_act 98 = .ok (.getfield 438, 3) := by decide +kernel
theorem dd184_101 : decode cX13_act 101 = .ok (.istore 5, 2) := by decide +kernel
theorem dd184_103 : decode cX13_act 103 = .ok (.aload_n 1, 1) := by decide +kernel
theorem dd184_104 : decode cX13_act 104 = .ok (.dup, 1) := by decide +kernel
theorem dd184_105 : decode cX13_act 105 = .ok (.getfield 438, 3) := by decide +kernel
theorem dd184_108 : decode cX13_act 108 = .ok (.iconst 1, 1) := by decide +kernel
theorem dd184_109 : decode cX13_act 109 = .ok (.iadd, 1) := by decide +kernel
theorem dd184_110 : decode cX13_act 110 = .ok (.putfield 438, 3) := by decide +kernel
theorem dd184_113 : decode cX13_act 113 = .ok (.aload_n 1, 1) := by decide +kernel
theorem dd184_114 : decode cX13_act 114 = .ok (.getfield 362, 3) := by decide +kernel
theorem dd184_117 : decode cX13_act 117 = .ok (.iload 5, 2) := by decide +kernel
theorem dd184_119 : decode cX13_act 119 = .ok (.iconst (-1), 1) := by decide +kernel
theorem dd184_120 : decode cX13_act 120 = .ok (.iastore, 1) := by decide +kernel
theorem dd184_121 : decode cX13_act 121 = .ok (.aload_n 1, 1) := by decide +kernel
theorem dd184_122 : decode cX13_act 122 = .ok (.getfield 441, 3) := by decide +kernel
theorem dd184_125 : decode cX13_act 125 = .ok (.iload 5, 2) := by decide +kernel
theorem dd184_127 : decode cX13_act 127 = .ok (.iconst (-1), 1) := by decide +kernel
theorem dd184_128 : decode cX13_act 128 = .ok (.iastore, 1) := by decide +kernel
theorem dd184_129 : decode cX13_act 129 = .ok (.aload_n 1, 1) := by decide +kernel
theorem dd184_130 : decode cX13_act 130 = .ok (.getfield 444, 3) := by decide +kernel
theorem dd184_133 : decode cX13_act 133 = .ok (.iload 5, 2) := by decide +kernel
theorem dd184_135 : decode cX13_act 135 = .ok (.iconst (-1), 1) := by decide +kernel
theorem dd184_136 : decode cX13_act 136 = .ok (.iastore, 1) := by decide +kernel
theorem dd184_137 : decode cX13_act 137 = .ok (.aload_n 1, 1) := by decide +kernel
theorem dd184_138 : decode cX13_act 138 = .ok (.getfield 447, 3) := by decide +kernel
theorem dd184_141 : decode cX13_act 141 = .ok (.iload 5, 2) := by decide +kernel
theorem dd184_143 : decode cX13_act 143 = .ok (.iconst 0, 1) := by decide +kernel
theorem dd184_144 : decode cX13_act 144 = .ok (.iastore, 1) := by decide +kernel
theorem dd184_145 : decode cX13_act 145 = .ok (.aload_n 1, 1) := by decide +kernel
theorem dd184_146 : decode cX13_act 146 = .ok (.getfield 450, 3) := by decide +kernel
theorem dd184_149 : decode cX13_act 149 = .ok (.iload 5, 2) := by decide +kernel
theorem dd184_151 : decode cX13_act 151 = .ok (.iconst 0, 1) := by decide +kernel
theorem dd184_152 : decode cX13_act 152 = .ok (.iastore, 1) := by decide +kernel
theorem dd184_153 : decode cX13_act 153 = .ok (.aload_n 1, 1) := by decide +kernel
theorem dd184_154 : decode cX13_act 154 = .ok (.getfield 453, 3) := by decide +kernel
theorem dd184_157 : decode cX13_act 157 = .ok (.iload 5, 2) := by decide +kernel
theorem dd184_159 : decode cX13_act 159 = .ok (.iconst (-1), 1) := by decide +kernel
theorem dd184_160 : decode cX13_act 160 = .ok (.iastore, 1) := by decide +kernel
theorem dd184_161 : decode cX13_act 161 = .ok (.aload_n 1, 1) := by decide +kernel
theorem dd184_162 : decode cX13_act 162 = .ok (.getfield 456, 3) := by decide +kernel
theorem dd184_165 : decode cX13_act 165 = .ok (.iload 5, 2) := by decide +kernel
theorem dd184_167 : decode cX13_act 167 = .ok (.iconst (-1), 1) := by decide +kernel
theorem dd184_168 : decode cX13_act 168 = .ok (.iastore, 1) := by decide +kernel
theorem dd184_169 : decode cX13_act 169 = .ok (.aload_n 1, 1) := by decide +kernel
theorem dd184_170 : decode cX13_act 170 = .ok (.getfield 459, 3) := by decide +kernel
theorem dd184_173 : decode cX13_act 173 = .ok (.iload 5, 2) := by decide +kernel
theorem dd184_175 : decode cX13_act 175 = .ok (.iload_n 3, 1) := by decide +kernel
theorem dd184_176 : decode cX13_act 176 = .ok (.iastore, 1) := by decide +kernel
theorem dd184_177 : decode cX13_act 177 = .ok (.iload_n 2, 1) := by decide +kernel
theorem dd184_178 : decode cX13_act 178 = .ok (.ifCond .eq 13, 3) := by decide +kernel
theorem dd184_181 : decode cX13_act 181 = .ok (.aload_n 0, 1) := by decide +kernel
theorem dd184_182 : decode cX13_act 182 = .ok (.iload 5, 2) := by decide +kernel
theorem dd184_184 : decode cX13_act 184 = .ok (.iload_n 2, 1) := by decide +kernel
theorem dd184_185 : decode cX13_act 185 = .ok (.invokevirtual 461, 3) := by decide +kernel
theorem dd184_188 : decode cX13_act 188 = .ok (.goto 27, 3) := by decide +kernel
theorem dd184_191 : decode cX13_act 191 = .ok (.iload_n 3, 1) := by decide +kernel
theorem dd184_192 : decode cX13_act 192 = .ok (.ifCond .ne 12, 3) := by decide +kernel
theorem dd184_195 : decode cX13_act 195 = .ok (.aload_n 0, 1) := by decide +kernel
theorem dd184_196 : decode cX13_act 196 = .ok (.iload 5, 2) := by decide +kernel
theorem dd184_198 : decode cX13_act 198 = .ok (.invokevirtual 464, 3) := by decide +kernel
theorem dd184_201 : decode cX13_act 201 = .ok (.goto 14, 3) := by decide +kernel
theorem dd184_204 : decode cX13_act 204 = .ok (.aload_n 0, 1) := by decide +kernel
theorem dd184_205 : decode cX13_act 205 = .ok (.invokevirtual 231, 3) := by decide +kernel
theorem dd184_208 : decode cX13_act 208 = .ok (.aload_n 0, 1) := by decide +kernel
theorem dd184_209 : decode cX13_act 209 = .ok (.iload 5, 2) := by decide +kernel
theorem dd184_211 : decode cX13_act 211 = .ok (.iload_n 3, 1) := by decide +kernel
theorem dd184_212 : decode cX13_act 212 = .ok (.invokevirtual 466, 3) := by decide +kernel
theorem dd184_215 : decode cX13_act 215 = .ok (.iload_n 3, 1) := by decide +kernel
theorem dd184_216 : decode cX13_act 216 = .ok (.iconst 5, 1) := by decide +kernel
theorem dd184_217 : decode cX13_act 217 = .ok (.if_icmp .eq 15, 3) := by decide +kernel
theorem dd184_220 : decode cX13_act 220 = .ok (.iload_n 3, 1) := by decide +kernel
theorem dd184_221 : decode cX13_act 221 = .ok (.bipush 6, 2) := by decide +kernel
theorem dd184_223 : decode cX13_act 223 = .ok (.if_icmp .eq 9, 3) := by decide +kernel
theorem dd184_226 : decode cX13_act 226 = .ok (.aload_n 0, 1) := by decide +kernel
theorem dd184_227 : decode cX13_act 227 = .ok (.bipush 59, 2) := by decide +kernel
theorem dd184_229 : decode cX13_act 229 = .ok (.invokevirtual 341, 3) := by decide +kernel
theorem dd184_232 : decode cX13_act 232 = .ok (.iload 5, 2) := by decide +kernel
theorem dd184_234 : decode cX13_act 234 = .ok (.ireturn, 1) := by decide +kernel
def f184_215 (n : Nat) (g : zσ → Option (Int32 × zσ)) (x3 : Int32) (x5 : Int32) (s : zσ) : Option (Int32 × zσ) :=
    if x3 = (5 : Int32) then
    some (x5, s)
    else if x3 = (6 : Int32) then
    some (x5, s)
    else yb0 (f179 n (59 : Int32) s) fun u1 =>
    some (x5, u1)
set_option maxRecDepth 20000 in
theorem f184_215_ok {n d : Nat} {Df : Nat} {g : zσ → Option (Int32 × zσ)} {x3 : Int32} {x5 : Int32} {s : zσ} {v : Int32} {s2 : zσ} (hd : Df + 2 ≤ d ∧ 140 ≤ Df) (hg : ∀ (s : zσ) (v : Int32) (s2 : zσ), g s = some (v, s2) → ∀ {d : Nat}, Df ≤ d → ∀ {w : zσ} {fz : Bool} {L : Nat} {xs : Nat → Int32}, zGo (zX fz L xs) d q_181 (0, [(0, .ref 1132)], [], zmk w s, 0, 0) (some (.int v), zmk w s2, 0, 0)) (h : f184_215 n g x3 x5 s = some (v, s2)) {w : zσ} {fz : Bool} {L : Nat} {xs : Nat → Int32} : zGo (zX fz L xs) d q_184 (215, [(0, .ref 1132), (3, .int x3), (5, .int x5)], [], zmk w s, 0, 0) (some (.int v), zmk w s2, 0, 0) := by
  obtain ⟨d, rfl⟩ : ∃ d0, d = d0 + 1 := ⟨d - 1, by omega⟩
  unfold f184_215 at h
  refine zGo_s (pc' := 216) (st' := [.int x3]) dd184_215 rfl ?_
  refine zGo_s (pc' := 217) (st' := [.int (5 : Int32), .int x3]) dd184_216 rfl ?_
  rcases oite h with ⟨hc, h⟩ | ⟨hc, h⟩
  · refine zIT dd184_217 rfl (kEqT hc) ?_
    refine zGo_s (pc' := 234) (st' := [.int x5]) dd184_232 rfl ?_
    obtain ⟨rfl, rfl⟩ := oret h
    exact zGo_ret dd184_234 rfl rfl
  · refine zIF dd184_217 (kEqF hc) ?_
    refine zGo_s (pc' := 221) (st' := [.int x3]) dd184_220 rfl ?_
    refine zGo_s (pc' := 223) (st' := [.int (6 : Int32), .int x3]) dd184_221 rfl ?_
    rcases oite h with ⟨hc, h⟩ | ⟨hc, h⟩
    · refine zIT dd184_223 rfl (kEqT hc) ?_
      refine zGo_s (pc' := 234) (st' := [.int x5]) dd184_232 rfl ?_
      obtain ⟨rfl, rfl⟩ := oret h
      exact zGo_ret dd184_234 rfl rfl
    · refine zIF dd184_223 (kEqF hc) ?_
      refine zGo_s (pc' := 227) (st' := [.ref 1132]) dd184_226 rfl ?_
      refine zGo_s (pc' := 229) (st' := [.int (59 : Int32), .ref 1132]) dd184_227 rfl ?_
      obtain ⟨u1, hq, h⟩ := obn0 h
      refine zCV0 (As := [.int (59 : Int32)]) (rest := []) (b := 1132) (q' := q_179) dd184_229 rfl rfl (rcv_m rfl rfl (by decide)) rfl rfl rfl (f179_ok (d := d) (by omega)  hq) ?_
      refine zGo_s (pc' := 234) (st' := [.int x5]) dd184_232 rfl ?_
      obtain ⟨rfl, rfl⟩ := oret h
      exact zGo_ret dd184_234 rfl rfl
def f184_63 (n : Nat) (g : zσ → Option (Int32 × zσ)) (x1 : Nat) (x2 : Int32) (x3 : Int32) (y0 : Int32) (s : zσ) : Option (Int32 × zσ) :=
    if y0 = (0 : Int32) then
    yb0 (f172 n s) fun u16 =>
    some ((0 : Int32), u16)
    else if (s.1 x1 16) = (200 : Int32) then
    yb0 (f173 n (3 : Int32) (s.1 1132 4) s) fun u15 =>
    some ((0 : Int32), u15)
    else zlet ((s.1 x1 16)) fun v1 =>
    zlet (sI s x1 16 ((s.1 x1 16) + (1 : Int32))) fun u2 =>
    if zin? v1 200 = true then
    zlet (sI u2 (x1 + 16) (nx v1) (-1 : Int32)) fun u3 =>
    if zin? v1 200 = true then
    zlet (sI u3 (x1 + 17) (nx v1) (-1 : Int32)) fun u4 =>
    if zin? v1 200 = true then
    zlet (sI u4 (x1 + 18) (nx v1) (-1 : Int32)) fun u5 =>
    if zin? v1 200 = true then
    zlet (sI u5 (x1 + 19) (nx v1) (0 : Int32)) fun u6 =>
    if zin? v1 200 = true then
    zlet (sI u6 (x1 + 20) (nx v1) (0 : Int32)) fun u7 =>
    if zin? v1 200 = true then
    zlet (sI u7 (x1 + 23) (nx v1) (-1 : Int32)) fun u8 =>
    if zin? v1 200 = true then
    zlet (sI u8 (x1 + 24) (nx v1) (-1 : Int32)) fun u9 =>
    if zin? v1 200 = true then
    zlet (sI u9 (x1 + 15) (nx v1) x3) fun u10 =>
    if x2 = (0 : Int32) then
    if x3 = (0 : Int32) then
    yb0 (f198 n v1 u10) fun u13 =>
    f184_215 n g x3 v1 u13
    else yb0 (f164 n u10) fun u11 =>
    yb0 (f201 n g v1 x3 u11) fun u12 =>
    f184_215 n g x3 v1 u12
    else yb0 (f188 n v1 x2 u10) fun u14 =>
    f184_215 n g x3 v1 u14
    else none
    else none
    else none
    else none
    else none
    else none
    else none
    else none
set_option maxRecDepth 20000 in
theorem f184_63_ok {n d : Nat} {Df : Nat} {g : zσ → Option (Int32 × zσ)} {x1 : Nat} {x2 : Int32} {x3 : Int32} {y0 : Int32} {s : zσ} {v : Int32} {s2 : zσ} (hd : Df + 2 ≤ d ∧ 140 ≤ Df) (hg : ∀ (s : zσ) (v : Int32) (s2 : zσ), g s = some (v, s2) → ∀ {d : Nat}, Df ≤ d → ∀ {w : zσ} {fz : Bool} {L : Nat} {xs : Nat → Int32}, zGo (zX fz L xs) d q_181 (0, [(0, .ref 1132)], [], zmk w s, 0, 0) (some (.int v), zmk w s2, 0, 0)) (hx1 : zck 12 x1 = true) (h : f184_63 n g x1 x2 x3 y0 s = some (v, s2)) {w : zσ} {fz : Bool} {L : Nat} {xs : Nat → Int32} : zGo (zX fz L xs) d q_184 (63, [(0, .ref 1132), (1, .ref x1), (2, .int x2), (3, .int x3)], [.int y0], zmk w s, 0, 0) (some (.int v), zmk w s2, 0, 0) := by
  obtain ⟨d, rfl⟩ : ∃ d0, d = d0 + 1 := ⟨d - 1, by omega⟩
  unfold f184_63 at h
  refine zGo_s (pc' := 65) (st' := []) (lv' := [(4, .int y0), (0, .ref 1132), (1, .ref x1), (2, .int x2), (3, .int x3)]) dd184_63 rfl ?_
  refine zGo_s (pc' := 67) (st' := [.int y0]) dd184_65 rfl ?_
  rcases oite h with ⟨hc, h⟩ | ⟨hc, h⟩
  · refine zUF dd184_67 (kNeF hc) ?_
    refine zGo_s (pc' := 71) (st' := [.ref 1132]) dd184_70 rfl ?_
    obtain ⟨u16, hq, h⟩ := obn0 h
    refine zCV0 (As := []) (rest := []) (b := 1132) (q' := q_172) dd184_71 rfl rfl (rcv_m rfl rfl (by decide)) rfl rfl rfl (f172_ok (d := d) (by omega)  hq) ?_
    refine zGo_s (pc' := 75) (st' := [.int (0 : Int32)]) dd184_74 rfl ?_
    obtain ⟨rfl, rfl⟩ := oret h
    exact zGo_ret dd184_75 rfl rfl
  · refine zUT dd184_67 rfl (kNeT hc) ?_
    refine zGo_s (pc' := 77) (st' := [.ref x1]) dd184_76 rfl ?_
    refine mGI dd184_77 rfl (ck12_s hx1).1 (ck12_s hx1).2 rfl ?_
    refine zGo_s (pc' := 83) (st' := [.int (200 : Int32), .int (s.1 x1 16)]) dd184_80 rfl ?_
    rcases oite h with ⟨hc, h⟩ | ⟨hc, h⟩
    · refine zIF dd184_83 (kNeF hc) ?_
      refine zGo_s (pc' := 87) (st' := [.ref 1132]) dd184_86 rfl ?_
      refine zGo_s (pc' := 88) (st' := [.int (3 : Int32), .ref 1132]) dd184_87 rfl ?_
      refine zGo_s (pc' := 89) (st' := [.ref 1132, .int (3 : Int32), .ref 1132]) dd184_88 rfl ?_
      refine mGI dd184_89 rfl rfl rfl rfl ?_
      obtain ⟨u15, hq, h⟩ := obn0 h
      refine zCV0 (As := [.int (3 : Int32), .int (s.1 1132 4)]) (rest := []) (b := 1132) (q' := q_173) dd184_92 rfl rfl (rcv_m rfl rfl (by decide)) rfl rfl rfl (f173_ok (d := d) (by omega)  hq) ?_
      refine zGo_s (pc' := 96) (st' := [.int (0 : Int32)]) dd184_95 rfl ?_
      obtain ⟨rfl, rfl⟩ := oret h
      exact zGo_ret dd184_96 rfl rfl
    · refine zIT dd184_83 rfl (kNeT hc) ?_
      refine zGo_s (pc' := 98) (st' := [.ref x1]) dd184_97 rfl ?_
      refine mGI dd184_98 rfl (ck12_s hx1).1 (ck12_s hx1).2 rfl ?_
      obtain ⟨v1, e_v1, h⟩ := olet h
      refine zGo_is1 e_v1 dd184_101 (x' := (103, [(5, .int v1), (4, .int y0), (0, .ref 1132), (1, .ref x1), (2, .int x2), (3, .int x3)], [], _, _, _)) rfl ?_
      refine zGo_s (pc' := 104) (st' := [.ref x1]) dd184_103 rfl ?_
      refine zGo_s (pc' := 105) (st' := [.ref x1, .ref x1]) dd184_104 rfl ?_
      refine mGI dd184_105 rfl (ck12_s hx1).1 (ck12_s hx1).2 rfl ?_
      refine zGo_s (pc' := 109) (st' := [.int (1 : Int32), .int (s.1 x1 16), .ref x1]) dd184_108 rfl ?_
      refine zGo_s (pc' := 110) (st' := [.int ((s.1 x1 16) + (1 : Int32)), .ref x1]) dd184_109 rfl ?_
      obtain ⟨u2, e_u2, h⟩ := olet h
      refine mPI dd184_110 rfl (ck12_s hx1).1 (ck12_s hx1).2 rfl rfl rfl e_u2 ?_
      refine zGo_s (pc' := 114) (st' := [.ref x1]) dd184_113 rfl ?_
      refine mGF (e := (x1 + 16)) dd184_114 rfl (ck12_s hx1).1 (ck12_s hx1).2 rfl (cf12_18 hx1).1 ?_
      refine zGo_s (pc' := 119) (st' := [.int v1, .ref (x1 + 16)]) dd184_117 rfl ?_
      refine zGo_s (pc' := 120) (st' := [.int (-1 : Int32), .int v1, .ref (x1 + 16)]) dd184_119 rfl ?_
      obtain ⟨hi, h⟩ := ochk h
      obtain ⟨u3, e_u3, h⟩ := olet h
      refine mIS dd184_120 (cf12_18 hx1).2.1 (cf12_18 hx1).2.2 hi e_u3 ?_
      refine zGo_s (pc' := 122) (st' := [.ref x1]) dd184_121 rfl ?_
      refine mGF (e := (x1 + 17)) dd184_122 rfl (ck12_s hx1).1 (ck12_s hx1).2 rfl (cf12_19 hx1).1 ?_
      refine zGo_s (pc' := 127) (st' := [.int v1, .ref (x1 + 17)]) dd184_125 rfl ?_
      refine zGo_s (pc' := 128) (st' := [.int (-1 : Int32), .int v1, .ref (x1 + 17)]) dd184_127 rfl ?_
      obtain ⟨hi, h⟩ := ochk h
      obtain ⟨u4, e_u4, h⟩ := olet h
      refine mIS dd184_128 (cf12_19 hx1).2.1 (cf12_19 hx1).2.2 hi e_u4 ?_
      refine zGo_s (pc' := 130) (st' := [.ref x1]) dd184_129 rfl ?_
      refine mGF (e := (x1 + 18)) dd184_130 rfl (ck12_s hx1).1 (ck12_s hx1).2 rfl (cf12_20 hx1).1 ?_
      refine zGo_s (pc' := 135) (st' := [.int v1, .ref (x1 + 18)]) dd184_133 rfl ?_
      refine zGo_s (pc' := 136) (st' := [.int (-1 : Int32), .int v1, .ref (x1 + 18)]) dd184_135 rfl ?_
      obtain ⟨hi, h⟩ := ochk h
      obtain ⟨u5, e_u5, h⟩ := olet h
      refine mIS dd184_136 (cf12_20 hx1).2.1 (cf12_20 hx1).2.2 hi e_u5 ?_
      refine zGo_s (pc' := 138) (st' := [.ref x1]) dd184_137 rfl ?_
      refine mGF (e := (x1 + 19)) dd184_138 rfl (ck12_s hx1).1 (ck12_s hx1).2 rfl (cf12_21 hx1).1 ?_
      refine zGo_s (pc' := 143) (st' := [.int v1, .ref (x1 + 19)]) dd184_141 rfl ?_
      refine zGo_s (pc' := 144) (st' := [.int (0 : Int32), .int v1, .ref (x1 + 19)]) dd184_143 rfl ?_
      obtain ⟨hi, h⟩ := ochk h
      obtain ⟨u6, e_u6, h⟩ := olet h
      refine mIS dd184_144 (cf12_21 hx1).2.1 (cf12_21 hx1).2.2 hi e_u6 ?_
      refine zGo_s (pc' := 146) (st' := [.ref x1]) dd184_145 rfl ?_
      refine mGF (e := (x1 + 20)) dd184_146 rfl (ck12_s hx1).1 (ck12_s hx1).2 rfl (cf12_22 hx1).1 ?_
      refine zGo_s (pc' := 151) (st' := [.int v1, .ref (x1 + 20)]) dd184_149 rfl ?_
      refine zGo_s (pc' := 152) (st' := [.int (0 : Int32), .int v1, .ref (x1 + 20)]) dd184_151 rfl ?_
      obtain ⟨hi, h⟩ := ochk h
      obtain ⟨u7, e_u7, h⟩ := olet h
      refine mIS dd184_152 (cf12_22 hx1).2.1 (cf12_22 hx1).2.2 hi e_u7 ?_
      refine zGo_s (pc' := 154) (st' := [.ref x1]) dd184_153 rfl ?_
      refine mGF (e := (x1 + 23)) dd184_154 rfl (ck12_s hx1).1 (ck12_s hx1).2 rfl (cf12_25 hx1).1 ?_
      refine zGo_s (pc' := 159) (st' := [.int v1, .ref (x1 + 23)]) dd184_157 rfl ?_
      refine zGo_s (pc' := 160) (st' := [.int (-1 : Int32), .int v1, .ref (x1 + 23)]) dd184_159 rfl ?_
      obtain ⟨hi, h⟩ := ochk h
      obtain ⟨u8, e_u8, h⟩ := olet h
      refine mIS dd184_160 (cf12_25 hx1).2.1 (cf12_25 hx1).2.2 hi e_u8 ?_
      refine zGo_s (pc' := 162) (st' := [.ref x1]) dd184_161 rfl ?_
      refine mGF (e := (x1 + 24)) dd184_162 rfl (ck12_s hx1).1 (ck12_s hx1).2 rfl (cf12_26 hx1).1 ?_
      refine zGo_s (pc' := 167) (st' := [.int v1, .ref (x1 + 24)]) dd184_165 rfl ?_
      refine zGo_s (pc' := 168) (st' := [.int (-1 : Int32), .int v1, .ref (x1 + 24)]) dd184_167 rfl ?_
      obtain ⟨hi, h⟩ := ochk h
      obtain ⟨u9, e_u9, h⟩ := olet h
      refine mIS dd184_168 (cf12_26 hx1).2.1 (cf12_26 hx1).2.2 hi e_u9 ?_
      refine zGo_s (pc' := 170) (st' := [.ref x1]) dd184_169 rfl ?_
      refine mGF (e := (x1 + 15)) dd184_170 rfl (ck12_s hx1).1 (ck12_s hx1).2 rfl (cf12_17 hx1).1 ?_
      refine zGo_s (pc' := 175) (st' := [.int v1, .ref (x1 + 15)]) dd184_173 rfl ?_
      refine zGo_s (pc' := 176) (st' := [.int x3, .int v1, .ref (x1 + 15)]) dd184_175 rfl ?_
      obtain ⟨hi, h⟩ := ochk h
      obtain ⟨u10, e_u10, h⟩ := olet h
      refine mIS dd184_176 (cf12_17 hx1).2.1 (cf12_17 hx1).2.2 hi e_u10 ?_
      refine zGo_s (pc' := 178) (st' := [.int x2]) dd184_177 rfl ?_
      rcases oite h with ⟨hc, h⟩ | ⟨hc, h⟩
      · refine zUT dd184_178 rfl (kEqT hc) ?_
        refine zGo_s (pc' := 192) (st' := [.int x3]) dd184_191 rfl ?_
        rcases oite h with ⟨hc, h⟩ | ⟨hc, h⟩
        · refine zUF dd184_192 (kNeF hc) ?_
          refine zGo_s (pc' := 196) (st' := [.ref 1132]) dd184_195 rfl ?_
          refine zGo_s (pc' := 198) (st' := [.int v1, .ref 1132]) dd184_196 rfl ?_
          obtain ⟨u13, hq, h⟩ := obn0 h
          refine zCV0 (As := [.int v1]) (rest := []) (b := 1132) (q' := q_198) dd184_198 rfl rfl (rcv_m rfl rfl (by decide)) rfl rfl rfl (f198_ok (d := d) (by omega)  hq) ?_
          refine zGo_s (pc' := 215) (st' := []) dd184_201 rfl ?_
          exact zGo_lv (lv := [(0, .ref 1132), (3, .int x3), (5, .int v1)]) ⟨by simp, by simp, by simp⟩ (f184_215_ok hd hg h)
        · refine zUT dd184_192 rfl (kNeT hc) ?_
          refine zGo_s (pc' := 205) (st' := [.ref 1132]) dd184_204 rfl ?_
          obtain ⟨u11, hq, h⟩ := obn0 h
          refine zCV0 (As := []) (rest := []) (b := 1132) (q' := q_164) dd184_205 rfl rfl (rcv_m rfl rfl (by decide)) rfl rfl rfl (f164_ok (d := d) (by omega)  hq) ?_
          refine zGo_s (pc' := 209) (st' := [.ref 1132]) dd184_208 rfl ?_
          refine zGo_s (pc' := 211) (st' := [.int v1, .ref 1132]) dd184_209 rfl ?_
          refine zGo_s (pc' := 212) (st' := [.int x3, .int v1, .ref 1132]) dd184_211 rfl ?_
          obtain ⟨u12, hq, h⟩ := obn0 h
          refine zCV0 (As := [.int v1, .int x3]) (rest := []) (b := 1132) (q' := q_201) dd184_212 rfl rfl (rcv_m rfl rfl (by decide)) rfl rfl rfl (f201_ok (d := d) (by omega) hg  hq) ?_
          exact zGo_lv (lv := [(0, .ref 1132), (3, .int x3), (5, .int v1)]) ⟨by simp, by simp, by simp⟩ (f184_215_ok hd hg h)
      · refine zUF dd184_178 (kEqF hc) ?_
        refine zGo_s (pc' := 182) (st' := [.ref 1132]) dd184_181 rfl ?_
        refine zGo_s (pc' := 184) (st' := [.int v1, .ref 1132]) dd184_182 rfl ?_
        refine zGo_s (pc' := 185) (st' := [.int x2, .int v1, .ref 1132]) dd184_184 rfl ?_
        obtain ⟨u14, hq, h⟩ := obn0 h
        refine zCV0 (As := [.int v1, .int x2]) (rest := []) (b := 1132) (q' := q_188) dd184_185 rfl rfl (rcv_m rfl rfl (by decide)) rfl rfl rfl (f188_ok (d := d) (by omega)  hq) ?_
        refine zGo_s (pc' := 215) (st' := []) dd184_188 rfl ?_
        exact zGo_lv (lv := [(0, .ref 1132), (3, .int x3), (5, .int v1)]) ⟨by simp, by simp, by simp⟩ (f184_215_ok hd hg h)
def f184_62 (n : Nat) (g : zσ → Option (Int32 × zσ)) (x1 : Nat) (x2 : Int32) (x3 : Int32) (s : zσ) : Option (Int32 × zσ) :=
    f184_63 n g x1 x2 x3 (0 : Int32) s
set_option maxRecDepth 20000 in
theorem f184_62_ok {n d : Nat} {Df : Nat} {g : zσ → Option (Int32 × zσ)} {x1 : Nat} {x2 : Int32} {x3 : Int32} {s : zσ} {v : Int32} {s2 : zσ} (hd : Df + 2 ≤ d ∧ 140 ≤ Df) (hg : ∀ (s : zσ) (v : Int32) (s2 : zσ), g s = some (v, s2) → ∀ {d : Nat}, Df ≤ d → ∀ {w : zσ} {fz : Bool} {L : Nat} {xs : Nat → Int32}, zGo (zX fz L xs) d q_181 (0, [(0, .ref 1132)], [], zmk w s, 0, 0) (some (.int v), zmk w s2, 0, 0)) (hx1 : zck 12 x1 = true) (h : f184_62 n g x1 x2 x3 s = some (v, s2)) {w : zσ} {fz : Bool} {L : Nat} {xs : Nat → Int32} : zGo (zX fz L xs) d q_184 (62, [(0, .ref 1132), (1, .ref x1), (2, .int x2), (3, .int x3)], [], zmk w s, 0, 0) (some (.int v), zmk w s2, 0, 0) := by
  obtain ⟨d, rfl⟩ : ∃ d0, d = d0 + 1 := ⟨d - 1, by omega⟩
  unfold f184_62 at h
  refine zGo_s (pc' := 63) (st' := [.int (0 : Int32)]) dd184_62 rfl ?_
  exact f184_63_ok hd hg hx1 h
def f184_58 (n : Nat) (g : zσ → Option (Int32 × zσ)) (x1 : Nat) (x2 : Int32) (x3 : Int32) (s : zσ) : Option (Int32 × zσ) :=
    f184_63 n g x1 x2 x3 (1 : Int32) s
set_option maxRecDepth 20000 in
theorem f184_58_ok {n d : Nat} {Df : Nat} {g : zσ → Option (Int32 × zσ)} {x1 : Nat} {x2 : Int32} {x3 : Int32} {s : zσ} {v : Int32} {s2 : zσ} (hd : Df + 2 ≤ d ∧ 140 ≤ Df) (hg : ∀ (s : zσ) (v : Int32) (s2 : zσ), g s = some (v, s2) → ∀ {d : Nat}, Df ≤ d → ∀ {w : zσ} {fz : Bool} {L : Nat} {xs : Nat → Int32}, zGo (zX fz L xs) d q_181 (0, [(0, .ref 1132)], [], zmk w s, 0, 0) (some (.int v), zmk w s2, 0, 0)) (hx1 : zck 12 x1 = true) (h : f184_58 n g x1 x2 x3 s = some (v, s2)) {w : zσ} {fz : Bool} {L : Nat} {xs : Nat → Int32} : zGo (zX fz L xs) d q_184 (58, [(0, .ref 1132), (1, .ref x1), (2, .int x2), (3, .int x3)], [], zmk w s, 0, 0) (some (.int v), zmk w s2, 0, 0) := by
  obtain ⟨d, rfl⟩ : ∃ d0, d = d0 + 1 := ⟨d - 1, by omega⟩
  unfold f184_58 at h
  refine zGo_s (pc' := 59) (st' := [.int (1 : Int32)]) dd184_58 rfl ?_
  refine zGo_s (pc' := 63) (st' := [.int (1 : Int32)]) dd184_59 rfl ?_
  exact f184_63_ok hd hg hx1 h
def f184_29 (n : Nat) (g : zσ → Option (Int32 × zσ)) (x1 : Nat) (x2 : Int32) (y0 : Int32) (s : zσ) : Option (Int32 × zσ) :=
    if x2 = (0 : Int32) then
    yb1 (f175 n s) fun v2 u1 =>
    if v2 = (0 : Int32) then
    if y0 = (0 : Int32) then
    f184_62 n g x1 x2 y0 u1
    else if y0 = (4 : Int32) then
    if (u1.1 1132 15) = (-1 : Int32) then
    f184_62 n g x1 x2 y0 u1
    else f184_58 n g x1 x2 y0 u1
    else f184_58 n g x1 x2 y0 u1
    else f184_58 n g x1 x2 y0 u1
    else f184_58 n g x1 x2 y0 s
set_option maxRecDepth 20000 in
theorem f184_29_ok {n d : Nat} {Df : Nat} {g : zσ → Option (Int32 × zσ)} {x1 : Nat} {x2 : Int32} {y0 : Int32} {s : zσ} {v : Int32} {s2 : zσ} (hd : Df + 2 ≤ d ∧ 140 ≤ Df) (hg : ∀ (s : zσ) (v : Int32) (s2 : zσ), g s = some (v, s2) → ∀ {d : Nat}, Df ≤ d → ∀ {w : zσ} {fz : Bool} {L : Nat} {xs : Nat → Int32}, zGo (zX fz L xs) d q_181 (0, [(0, .ref 1132)], [], zmk w s, 0, 0) (some (.int v), zmk w s2, 0, 0)) (hx1 : zck 12 x1 = true) (h : f184_29 n g x1 x2 y0 s = some (v, s2)) {w : zσ} {fz : Bool} {L : Nat} {xs : Nat → Int32} : zGo (zX fz L xs) d q_184 (29, [(0, .ref 1132), (1, .ref x1), (2, .int x2)], [.int y0], zmk w s, 0, 0) (some (.int v), zmk w s2, 0, 0) := by
  obtain ⟨d, rfl⟩ : ∃ d0, d = d0 + 1 := ⟨d - 1, by omega⟩
  unfold f184_29 at h
  refine zGo_s (pc' := 30) (st' := []) (lv' := [(3, .int y0), (0, .ref 1132), (1, .ref x1), (2, .int x2)]) dd184_29 rfl ?_
  refine zGo_s (pc' := 31) (st' := [.int x2]) dd184_30 rfl ?_
  rcases oite h with ⟨hc, h⟩ | ⟨hc, h⟩
  · refine zUF dd184_31 (kNeF hc) ?_
    refine zGo_s (pc' := 35) (st' := [.ref 1132]) dd184_34 rfl ?_
    obtain ⟨v2, u1, hq, h⟩ := obnd h
    refine zCV1 (As := []) (rest := []) (b := 1132) (q' := q_175) dd184_35 rfl rfl (rcv_m rfl rfl (by decide)) rfl rfl rfl (f175_ok (d := d) (by omega)  hq) ?_
    rcases oite h with ⟨hc, h⟩ | ⟨hc, h⟩
    · refine zUF dd184_38 (kNeF hc) ?_
      refine zGo_s (pc' := 42) (st' := [.int y0]) dd184_41 rfl ?_
      rcases oite h with ⟨hc, h⟩ | ⟨hc, h⟩
      · refine zUT dd184_42 rfl (kEqT hc) ?_
        exact zGo_lv (lv := [(0, .ref 1132), (1, .ref x1), (2, .int x2), (3, .int y0)]) ⟨by simp, by simp, by simp⟩ (f184_62_ok hd hg hx1 h)
      · refine zUF dd184_42 (kEqF hc) ?_
        refine zGo_s (pc' := 46) (st' := [.int y0]) dd184_45 rfl ?_
        refine zGo_s (pc' := 47) (st' := [.int (4 : Int32), .int y0]) dd184_46 rfl ?_
        rcases oite h with ⟨hc, h⟩ | ⟨hc, h⟩
        · refine zIF dd184_47 (kNeF hc) ?_
          refine zGo_s (pc' := 51) (st' := [.ref 1132]) dd184_50 rfl ?_
          refine mGI dd184_51 rfl rfl rfl rfl ?_
          refine zGo_s (pc' := 55) (st' := [.int (-1 : Int32), .int (u1.1 1132 15)]) dd184_54 rfl ?_
          rcases oite h with ⟨hc, h⟩ | ⟨hc, h⟩
          · refine zIT dd184_55 rfl (kEqT hc) ?_
            exact zGo_lv (lv := [(0, .ref 1132), (1, .ref x1), (2, .int x2), (3, .int y0)]) ⟨by simp, by simp, by simp⟩ (f184_62_ok hd hg hx1 h)
          · refine zIF dd184_55 (kEqF hc) ?_
            exact zGo_lv (lv := [(0, .ref 1132), (1, .ref x1), (2, .int x2), (3, .int y0)]) ⟨by simp, by simp, by simp⟩ (f184_58_ok hd hg hx1 h)
        · refine zIT dd184_47 rfl (kNeT hc) ?_
          exact zGo_lv (lv := [(0, .ref 1132), (1, .ref x1), (2, .int x2), (3, .int y0)]) ⟨by simp, by simp, by simp⟩ (f184_58_ok hd hg hx1 h)
    · refine zUT dd184_38 rfl (kNeT hc) ?_
      exact zGo_lv (lv := [(0, .ref 1132), (1, .ref x1), (2, .int x2), (3, .int y0)]) ⟨by simp, by simp, by simp⟩ (f184_58_ok hd hg hx1 h)
  · refine zUT dd184_31 rfl (kNeT hc) ?_
    exact zGo_lv (lv := [(0, .ref 1132), (1, .ref x1), (2, .int x2), (3, .int y0)]) ⟨by simp, by simp, by simp⟩ (f184_58_ok hd hg hx1 h)
def f184 (n : Nat) (g : zσ → Option (Int32 × zσ)) (s : zσ) : Option (Int32 × zσ) :=
    zrd 12 (s.2.2 1132 12) fun a1 =>
    yb1 (f185 n s) fun v3 u2 =>
    if (u2.1 1132 3) = (1 : Int32) then
    yb1 (f186 n (u2.2.1 1132 6) u2) fun v5 u4 =>
    f184_29 n g a1 v3 v5 u4
    else f184_29 n g a1 v3 (0 : Int32) u2
set_option maxRecDepth 20000 in
theorem f184_ok {n d : Nat} {Df : Nat} {g : zσ → Option (Int32 × zσ)} {s : zσ} {v : Int32} {s2 : zσ} (hd : Df + 2 ≤ d ∧ 140 ≤ Df) (hg : ∀ (s : zσ) (v : Int32) (s2 : zσ), g s = some (v, s2) → ∀ {d : Nat}, Df ≤ d → ∀ {w : zσ} {fz : Bool} {L : Nat} {xs : Nat → Int32}, zGo (zX fz L xs) d q_181 (0, [(0, .ref 1132)], [], zmk w s, 0, 0) (some (.int v), zmk w s2, 0, 0)) (h : f184 n g s = some (v, s2)) {w : zσ} {fz : Bool} {L : Nat} {xs : Nat → Int32} : zGo (zX fz L xs) d q_184 (0, [(0, .ref 1132)], [], zmk w s, 0, 0) (some (.int v), zmk w s2, 0, 0) := by
  obtain ⟨d, rfl⟩ : ∃ d0, d = d0 + 1 := ⟨d - 1, by omega⟩
  unfold f184 at h
  refine zGo_s (pc' := 1) (st' := [.ref 1132]) dd184_0 rfl ?_
  obtain ⟨a1, e_a1, c_a1, h⟩ := ordd h
  refine mGR dd184_1 rfl rfl rfl rfl e_a1 ?_
  refine zGo_s (pc' := 5) (st' := []) (lv' := [(1, .ref a1), (0, .ref 1132)]) dd184_4 rfl ?_
  refine zGo_s (pc' := 6) (st' := [.ref 1132]) dd184_5 rfl ?_
  obtain ⟨v3, u2, hq, h⟩ := obnd h
  refine zCV1 (As := []) (rest := []) (b := 1132) (q' := q_185) dd184_6 rfl rfl (rcv_m rfl rfl (by decide)) rfl rfl rfl (f185_ok (d := d) (by omega)  hq) ?_
  refine zGo_s (pc' := 10) (st' := []) (lv' := [(2, .int v3), (1, .ref a1), (0, .ref 1132)]) dd184_9 rfl ?_
  refine zGo_s (pc' := 11) (st' := [.ref 1132]) dd184_10 rfl ?_
  refine mGI dd184_11 rfl rfl rfl rfl ?_
  refine zGo_s (pc' := 15) (st' := [.int (1 : Int32), .int (u2.1 1132 3)]) dd184_14 rfl ?_
  rcases oite h with ⟨hc, h⟩ | ⟨hc, h⟩
  · refine zIF dd184_15 (kNeF hc) ?_
    refine zGo_s (pc' := 19) (st' := [.ref 1132]) dd184_18 rfl ?_
    refine mGJ dd184_19 rfl rfl rfl rfl ?_
    obtain ⟨v5, u4, hq, h⟩ := obnd h
    refine zCS1 (As := [.long (u2.2.1 1132 6)]) (rest := []) (q' := q_186) dd184_22 rfl rfl rfl rfl rfl (f186_ok (d := d) (by omega)  hq) ?_
    refine zGo_s (pc' := 29) (st' := [.int v5]) dd184_25 rfl ?_
    exact zGo_lv (lv := [(0, .ref 1132), (1, .ref a1), (2, .int v3)]) ⟨by simp, by simp, by simp⟩ (f184_29_ok hd hg c_a1 h)
  · refine zIT dd184_15 rfl (kNeT hc) ?_
    refine zGo_s (pc' := 29) (st' := [.int (0 : Int32)]) dd184_28 rfl ?_
    exact zGo_lv (lv := [(0, .ref 1132), (1, .ref a1), (2, .int v3)]) ⟨by simp, by simp, by simp⟩ (f184_29_ok hd hg c_a1 h)
/-! PHModel.block()I -/
theorem dd181_0 : decode cX13_block 0 = .ok (.aload_n 0, 1) := by decide +kernel
theorem dd181_1 : decode cX13_block 1 = .ok (.invokevirtual 223, 3) := by decide +kernel
theorem dd181_4 : decode cX13_block 4 = .ok (.ifCond .ne 5, 3) := by decide +kernel
theorem dd181_7 : decode cX13_block 7 = .ok (.iconst 0, 1) := by decide +kernel
theorem dd181_8 : decode cX13_block 8 = .ok (.ireturn, 1) := by decide +kernel
theorem dd181_9 : decode cX13_block 9 = .ok (.aload_n 0, 1) := by decide +kernel
theorem dd181_10 : decode cX13_block 10 = .ok (.bipush 123, 2) := by decide +kernel
theorem dd181_12 : decode cX13_block 12 = .ok (.invokevirtual 227, 3) := by decide +kernel
theorem dd181_15 : decode cX13_block 15 = .ok (.ifCond .ne 9, 3) := by decide +kernel
theorem dd181_18 : decode cX13_block 18 = .ok (.aload_n 0, 1) := by decide +kernel
theorem dd181_19 : decode cX13_block 19 = .ok (.invokevirtual 234, 3) := by decide +kernel
theorem dd181_22 : decode cX13_block 22 = .ok (.iconst 0, 1) := by decide +kernel
theorem dd181_23 : decode cX13_block 23 = .ok (.ireturn, 1) := by decide +kernel
theorem dd181_24 : decode cX13_block 24 = .ok (.aload_n 0, 1) := by decide +kernel
theorem dd181_25 : decode cX13_block 25 = .ok (.invokevirtual 338, 3) := by decide +kernel
theorem dd181_28 : decode cX13_block 28 = .ok (.aload_n 0, 1) := by decide +kernel
theorem dd181_29 : decode cX13_block 29 = .ok (.getfield 24, 3) := by decide +kernel
theorem dd181_32 : decode cX13_block 32 = .ok (.astore_n 1, 1) := by decide +kernel
theorem dd181_33 : decode cX13_block 33 = .ok (.aload_n 1, 1) := by decide +kernel
theorem dd181_34 : decode cX13_block 34 = .ok (.getfield 345, 3) := by decide +kernel
theorem dd181_37 : decode cX13_block 37 = .ok (.istore_n 2, 1) := by decide +kernel
theorem dd181_38 : decode cX13_block 38 = .ok (.aload_n 1, 1) := by decide +kernel
theorem dd181_39 : decode cX13_block 39 = .ok (.dup, 1) := by decide +kernel
theorem dd181_40 : decode cX13_block 40 = .ok (.getfield 345, 3) := by decide +kernel
theorem dd181_43 : decode cX13_block 43 = .ok (.iconst 1, 1) := by decide +kernel
theorem dd181_44 : decode cX13_block 44 = .ok (.iadd, 1) := by decide +kernel
theorem dd181_45 : decode cX13_block 45 = .ok (.putfield 345, 3) := by decide +kernel
theorem dd181_48 : decode cX13_block 48 = .ok (.aload_n 1, 1) := by decide +kernel
theorem dd181_49 : decode cX13_block 49 = .ok (.getfield 348, 3) := by decide +kernel
theorem dd181_52 : decode cX13_block 52 = .ok (.iload_n 2, 1) := by decide +kernel
theorem dd181_53 : decode cX13_block 53 = .ok (.iconst (-1), 1) := by decide +kernel
theorem dd181_54 : decode cX13_block 54 = .ok (.iastore, 1) := by decide +kernel
theorem dd181_55 : decode cX13_block 55 = .ok (.iconst 0, 1) := by decide +kernel
theorem dd181_56 : decode cX13_block 56 = .ok (.istore_n 3, 1) := by decide +kernel
theorem dd181_57 : decode cX13_block 57 = .ok (.iload_n 3, 1) := by decide +kernel
theorem dd181_58 : decode cX13_block 58 = .ok (.bipush 20, 2) := by decide +kernel
theorem dd181_60 : decode cX13_block 60 = .ok (.if_icmp .ge 21, 3) := by decide +kernel
theorem dd181_63 : decode cX13_block 63 = .ok (.aload_n 1, 1) := by decide +kernel
theorem dd181_64 : decode cX13_block 64 = .ok (.getfield 351, 3) := by decide +kernel
theorem dd181_67 : decode cX13_block 67 = .ok (.bipush 20, 2) := by decide +kernel
theorem dd181_69 : decode cX13_block 69 = .ok (.iload_n 2, 1) := by decide +kernel
theorem dd181_70 : decode cX13_block 70 = .ok (.imul, 1) := by decide +kernel
theorem dd181_71 : decode cX13_block 71 = .ok (.iload_n 3, 1) := by decide +kernel
theorem dd181_72 : decode cX13_block 72 = .ok (.iadd, 1) := by decide +kernel
theorem dd181_73 : decode cX13_block 73 = .ok (.iconst (-1), 1) := by decide +kernel
theorem dd181_74 : decode cX13_block 74 = .ok (.iastore, 1) := by decide +kernel
theorem dd181_75 : decode cX13_block 75 = .ok (.iinc 3 1, 3) := by decide +kernel
theorem dd181_78 : decode cX13_block 78 = .ok (.goto (-21), 3) := by decide +kernel
theorem dd181_81 : decode cX13_block 81 = .ok (.aload_n 0, 1) := by decide +kernel
theorem dd181_82 : decode cX13_block 82 = .ok (.invokevirtual 223, 3) := by decide +kernel
theorem dd181_85 : decode cX13_block 85 = .ok (.ifCond .eq 7, 3) := by decide +kernel
theorem dd181_88 : decode cX13_block 88 = .ok (.aload_n 0, 1) := by decide +kernel
theorem dd181_89 : decode cX13_block 89 = .ok (.invokevirtual 231, 3) := by decide +kernel
theorem dd181_92 : decode cX13_block 92 = .ok (.aload_n 0, 1) := by decide +kernel
theorem dd181_93 : decode cX13_block 93 = .ok (.invokevirtual 223, 3) := by decide +kernel
theorem dd181_96 : decode cX13_block 96 = .ok (.ifCond .eq 25, 3) := by decide +kernel
theorem dd181_99 : decode cX13_block 99 = .ok (.aload_n 0, 1) := by decide +kernel
theorem dd181_100 : decode cX13_block 100 = .ok (.ldc_w 354, 3) := by decide +kernel
theorem dd181_103 : decode cX13_block 103 = .ok (.invokevirtual 328, 3) := by decide +kernel
theorem dd181_106 : decode cX13_block 106 = .ok (.ifCond .eq 15, 3) := by decide +kernel
theorem dd181_109 : decode cX13_block 109 = .ok (.aload_n 0, 1) := by decide +kernel
theorem dd181_110 : decode cX13_block 110 = .ok (.invokevirtual 231, 3) := by decide +kernel
theorem dd181_113 : decode cX13_block 113 = .ok (.aload_n 0, 1) := by decide +kernel
theorem dd181_114 : decode cX13_block 114 = .ok (.iload_n 2, 1) := by decide +kernel
theorem dd181_115 : decode cX13_block 115 = .ok (.invokevirtual 355, 3) := by decide +kernel
theorem dd181_118 : decode cX13_block 118 = .ok (.goto (-26), 3) := by decide +kernel
theorem dd181_121 : decode cX13_block 121 = .ok (.iconst (-1), 1) := by decide +kernel
theorem dd181_122 : decode cX13_block 122 = .ok (.istore_n 3, 1) := by decide +kernel
theorem dd181_123 : decode cX13_block 123 = .ok (.aload_n 0, 1) := by decide +kernel
theorem dd181_124 : decode cX13_block 124 = .ok (.invokevirtual 223, 3) := by decide +kernel
theorem dd181_127 : decode cX13_block 127 = .ok (.ifCond .eq 55, 3) := by decide +kernel
theorem dd181_130 : decode cX13_block 130 = .ok (.aload_n 0, 1) := by decide +kernel
theorem dd181_131 : decode cX13_block 131 = .ok (.bipush 125, 2) := by decide +kernel
theorem dd181_133 : decode cX13_block 133 = .ok (.invokevirtual 227, 3) := by decide +kernel
theorem dd181_136 : decode cX13_block 136 = .ok (.ifCond .ne 46, 3) := by decide +kernel
theorem dd181_139 : decode cX13_block 139 = .ok (.aload_n 0, 1) := by decide +kernel
theorem dd181_140 : decode cX13_block 140 = .ok (.invokevirtual 359, 3) := by decide +kernel
theorem dd181_143 : decode cX13_block 143 = .ok (.istore 4, 2) := by decide +kernel
theorem dd181_145 : decode cX13_block 145 = .ok (.aload_n 0, 1) := by decide +kernel
theorem dd181_146 : decode cX13_block 146 = .ok (.invokevirtual 223, 3) := by decide +kernel
theorem dd181_149 : decode cX13_block 149 = .ok (.ifCond .eq 30, 3) := by decide +kernel
theorem dd181_152 : decode cX13_block 152 = .ok (.iload_n 3, 1) := by decide +kernel
theorem dd181_153 : decode cX13_block 153 = .ok (.iconst (-1), 1) := by decide +kernel
theorem dd181_154 : decode cX13_block 154 = .ok (.if_icmp .ne 14, 3) := by decide +kernel
theorem dd181_157 : decode cX13_block 157 = .ok (.aload_n 1, 1) := by decide +kernel
theorem dd181_158 : decode cX13_block 158 = .ok (.getfield 348, 3) := by decide +kernel
theorem dd181_161 : decode cX13_block 161 = .ok (.iload_n 2, 1) := by decide +kernel
theorem dd181_162 : decode cX13_block 162 = .ok (.iload 4, 2) := by decide +kernel
theorem dd181_164 : decode cX13_block 164 = .ok (.iastore, 1) := by decide +kernel
theorem dd181_165 : decode cX13_block 165 = .ok (.goto 11, 3) := by decide +kernel
theorem dd181_168 : decode cX13_block 168 = .ok (.aload_n 1, 1) := by decide +kernel
theorem dd181_169 : decode cX13_block 169 = .ok (.getfield 362, 3) := by decide +kernel
theorem dd181_172 : decode cX13_block 172 = .ok (.iload_n 3, 1) := by decide +kernel
theorem dd181_173 : decode cX13_block 173 = .ok (.iload 4, 2) := by decide +kernel
theorem dd181_175 : decode cX13_block 175 = .ok (.iastore, 1) := by decide +kernel
theorem dd181_176 : decode cX13_block 176 = .ok (.iload 4, 2) := by decide +kernel
theorem dd181_178 : decode cX13_block 178 = .ok (.istore_n 3, 1) := by decide +kernel
theorem dd181_179 : decode cX13_block 179 = .ok (.goto (-56), 3) := by decide +kernel
theorem dd181_182 : decode cX13_block 182 = .ok (.aload_n 0, 1) := by decide +kernel
theorem dd181_183 : decode cX13_block 183 = .ok (.bipush 125, 2) := by decide +kernel
theorem dd181_185 : decode cX13_block 185 = .ok (.invokevirtual 341, 3) := by decide +kernel
theorem dd181_188 : decode cX13_block 188 = .ok (.aload_n 0, 1) := by decide +kernel
theorem dd181_189 : decode cX13_block 189 = .ok (.dup, 1) := by decide +kernel
theorem dd181_190 : decode cX13_block 190 = .ok (.getfield 243, 3) := by decide +kernel
theorem dd181_193 : decode cX13_block 193 = .ok (.iconst 1, 1) := by decide +kernel
theorem dd181_194 : decode cX13_block 194 = .ok (.isub, 1) := by decide +kernel
theorem dd181_195 : decode cX13_block 195 = .ok (.putfield 243, 3) := by decide +kernel
theorem dd181_198 : decode cX13_block 198 = .ok (.iload_n 2, 1) := by decide +kernel
theorem dd181_199 : decode cX13_block 199 = .ok (.ireturn, 1) := by decide +kernel
def f181_182 (n : Nat) (g : zσ → Option (Int32 × zσ)) (x2 : Int32) (s : zσ) : Option (Int32 × zσ) :=
    yb0 (f179 n (125 : Int32) s) fun u1 =>
    zlet (sI u1 1132 14 ((u1.1 1132 14) - (1 : Int32))) fun u2 =>
    some (x2, u2)
set_option maxRecDepth 20000 in
theorem f181_182_ok {n d : Nat} {Df : Nat} {g : zσ → Option (Int32 × zσ)} {x2 : Int32} {s : zσ} {v : Int32} {s2 : zσ} (hd : Df + 3 ≤ d ∧ 140 ≤ Df) (hg : ∀ (s : zσ) (v : Int32) (s2 : zσ), g s = some (v, s2) → ∀ {d : Nat}, Df ≤ d → ∀ {w : zσ} {fz : Bool} {L : Nat} {xs : Nat → Int32}, zGo (zX fz L xs) d q_181 (0, [(0, .ref 1132)], [], zmk w s, 0, 0) (some (.int v), zmk w s2, 0, 0)) (h : f181_182 n g x2 s = some (v, s2)) {w : zσ} {fz : Bool} {L : Nat} {xs : Nat → Int32} : zGo (zX fz L xs) d q_181 (182, [(0, .ref 1132), (2, .int x2)], [], zmk w s, 0, 0) (some (.int v), zmk w s2, 0, 0) := by
  obtain ⟨d, rfl⟩ : ∃ d0, d = d0 + 1 := ⟨d - 1, by omega⟩
  unfold f181_182 at h
  refine zGo_s (pc' := 183) (st' := [.ref 1132]) dd181_182 rfl ?_
  refine zGo_s (pc' := 185) (st' := [.int (125 : Int32), .ref 1132]) dd181_183 rfl ?_
  obtain ⟨u1, hq, h⟩ := obn0 h
  refine zCV0 (As := [.int (125 : Int32)]) (rest := []) (b := 1132) (q' := q_179) dd181_185 rfl rfl (rcv_m rfl rfl (by decide)) rfl rfl rfl (f179_ok (d := d) (by omega)  hq) ?_
  refine zGo_s (pc' := 189) (st' := [.ref 1132]) dd181_188 rfl ?_
  refine zGo_s (pc' := 190) (st' := [.ref 1132, .ref 1132]) dd181_189 rfl ?_
  refine mGI dd181_190 rfl rfl rfl rfl ?_
  refine zGo_s (pc' := 194) (st' := [.int (1 : Int32), .int (u1.1 1132 14), .ref 1132]) dd181_193 rfl ?_
  refine zGo_s (pc' := 195) (st' := [.int ((u1.1 1132 14) - (1 : Int32)), .ref 1132]) dd181_194 rfl ?_
  obtain ⟨u2, e_u2, h⟩ := olet h
  refine mPI dd181_195 rfl rfl rfl rfl rfl rfl e_u2 ?_
  refine zGo_s (pc' := 199) (st' := [.int x2]) dd181_198 rfl ?_
  obtain ⟨rfl, rfl⟩ := oret h
  exact zGo_ret dd181_199 rfl rfl
def f181_179 (n : Nat) (g : zσ → Option (Int32 × zσ)) (r123 : Nat → Int32 → Int32 → zσ → Option (Int32 × zσ)) (x1 : Nat) (x2 : Int32) (x3 : Int32) (s : zσ) : Option (Int32 × zσ) :=
    r123 x1 x2 x3 s
set_option maxRecDepth 20000 in
theorem f181_179_ok {n d : Nat} {Df : Nat} {g : zσ → Option (Int32 × zσ)} {r123 : Nat → Int32 → Int32 → zσ → Option (Int32 × zσ)} {x1 : Nat} {x2 : Int32} {x3 : Int32} {s : zσ} {v : Int32} {s2 : zσ} (hd : Df + 3 ≤ d ∧ 140 ≤ Df) (hg : ∀ (s : zσ) (v : Int32) (s2 : zσ), g s = some (v, s2) → ∀ {d : Nat}, Df ≤ d → ∀ {w : zσ} {fz : Bool} {L : Nat} {xs : Nat → Int32}, zGo (zX fz L xs) d q_181 (0, [(0, .ref 1132)], [], zmk w s, 0, 0) (some (.int v), zmk w s2, 0, 0)) (hr123 : ∀ (x1 : Nat) (x2 : Int32) (x3 : Int32) (s : zσ) (v : Int32) (s2 : zσ), zck 12 x1 = true → r123 x1 x2 x3 s = some (v, s2) → ∀ {w : zσ} {fz : Bool} {L : Nat} {xs : Nat → Int32}, zGo (zX fz L xs) d q_181 (123, [(0, .ref 1132), (1, .ref x1), (2, .int x2), (3, .int x3)], [], zmk w s, 0, 0) (some (.int v), zmk w s2, 0, 0)) (hx1 : zck 12 x1 = true) (h : f181_179 n g r123 x1 x2 x3 s = some (v, s2)) {w : zσ} {fz : Bool} {L : Nat} {xs : Nat → Int32} : zGo (zX fz L xs) d q_181 (179, [(0, .ref 1132), (1, .ref x1), (2, .int x2), (3, .int x3)], [], zmk w s, 0, 0) (some (.int v), zmk w s2, 0, 0) := by
  obtain ⟨d, rfl⟩ : ∃ d0, d = d0 + 1 := ⟨d - 1, by omega⟩
  unfold f181_179 at h
  refine zGo_s (pc' := 123) (st' := []) dd181_179 rfl ?_
  exact hr123 _ _ _ _ _ _ hx1 h
def f181_176 (n : Nat) (g : zσ → Option (Int32 × zσ)) (r123 : Nat → Int32 → Int32 → zσ → Option (Int32 × zσ)) (x1 : Nat) (x2 : Int32) (x4 : Int32) (s : zσ) : Option (Int32 × zσ) :=
    f181_179 n g r123 x1 x2 x4 s
set_option maxRecDepth 20000 in
theorem f181_176_ok {n d : Nat} {Df : Nat} {g : zσ → Option (Int32 × zσ)} {r123 : Nat → Int32 → Int32 → zσ → Option (Int32 × zσ)} {x1 : Nat} {x2 : Int32} {x4 : Int32} {s : zσ} {v : Int32} {s2 : zσ} (hd : Df + 3 ≤ d ∧ 140 ≤ Df) (hg : ∀ (s : zσ) (v : Int32) (s2 : zσ), g s = some (v, s2) → ∀ {d : Nat}, Df ≤ d → ∀ {w : zσ} {fz : Bool} {L : Nat} {xs : Nat → Int32}, zGo (zX fz L xs) d q_181 (0, [(0, .ref 1132)], [], zmk w s, 0, 0) (some (.int v), zmk w s2, 0, 0)) (hr123 : ∀ (x1 : Nat) (x2 : Int32) (x3 : Int32) (s : zσ) (v : Int32) (s2 : zσ), zck 12 x1 = true → r123 x1 x2 x3 s = some (v, s2) → ∀ {w : zσ} {fz : Bool} {L : Nat} {xs : Nat → Int32}, zGo (zX fz L xs) d q_181 (123, [(0, .ref 1132), (1, .ref x1), (2, .int x2), (3, .int x3)], [], zmk w s, 0, 0) (some (.int v), zmk w s2, 0, 0)) (hx1 : zck 12 x1 = true) (h : f181_176 n g r123 x1 x2 x4 s = some (v, s2)) {w : zσ} {fz : Bool} {L : Nat} {xs : Nat → Int32} : zGo (zX fz L xs) d q_181 (176, [(0, .ref 1132), (1, .ref x1), (2, .int x2), (4, .int x4)], [], zmk w s, 0, 0) (some (.int v), zmk w s2, 0, 0) := by
  obtain ⟨d, rfl⟩ : ∃ d0, d = d0 + 1 := ⟨d - 1, by omega⟩
  unfold f181_176 at h
  refine zGo_s (pc' := 178) (st' := [.int x4]) dd181_176 rfl ?_
  refine zGo_s (pc' := 179) (st' := []) (lv' := [(3, .int x4), (0, .ref 1132), (1, .ref x1), (2, .int x2), (4, .int x4)]) dd181_178 rfl ?_
  exact zGo_lv (lv := [(0, .ref 1132), (1, .ref x1), (2, .int x2), (3, .int x4)]) ⟨by simp, by simp, by simp⟩ (f181_179_ok hd hg hr123 hx1 h)
def f181_123 (n : Nat) (g : zσ → Option (Int32 × zσ)) : Nat → Nat → Int32 → Int32 → zσ → Option (Int32 × zσ)
  | 0, _, _, _, _ => none
  | j + 1, x1, x2, x3, s =>
    yb1 (f167 n s) fun v2 u1 =>
    if v2 = (0 : Int32) then
    f181_182 n g x2 u1
    else yb1 (f177 n (125 : Int32) u1) fun v4 u3 =>
    if v4 = (0 : Int32) then
    yb1 (f184 n g u3) fun v6 u5 =>
    yb1 (f167 n u5) fun v8 u7 =>
    if v8 = (0 : Int32) then
    f181_179 n g (f181_123 n g j) x1 x2 x3 u7
    else if x3 = (-1 : Int32) then
    if zin? x2 2000 = true then
    zlet (sI u7 (x1 + 13) (nx x2) v6) fun u10 =>
    f181_176 n g (f181_123 n g j) x1 x2 v6 u10
    else none
    else if zin? x3 200 = true then
    zlet (sI u7 (x1 + 16) (nx x3) v6) fun u9 =>
    f181_176 n g (f181_123 n g j) x1 x2 v6 u9
    else none
    else f181_182 n g x2 u3
set_option maxRecDepth 20000 in
theorem f181_123_ok {n d : Nat} {Df : Nat} {g : zσ → Option (Int32 × zσ)} (hd : Df + 3 ≤ d ∧ 140 ≤ Df) (hg : ∀ (s : zσ) (v : Int32) (s2 : zσ), g s = some (v, s2) → ∀ {d : Nat}, Df ≤ d → ∀ {w : zσ} {fz : Bool} {L : Nat} {xs : Nat → Int32}, zGo (zX fz L xs) d q_181 (0, [(0, .ref 1132)], [], zmk w s, 0, 0) (some (.int v), zmk w s2, 0, 0)) : ∀ (j : Nat) (x1 : Nat) (x2 : Int32) (x3 : Int32) (s : zσ) (v : Int32) (s2 : zσ), zck 12 x1 = true → f181_123 n g j x1 x2 x3 s = some (v, s2) → ∀ {w : zσ} {fz : Bool} {L : Nat} {xs : Nat → Int32}, zGo (zX fz L xs) d q_181 (123, [(0, .ref 1132), (1, .ref x1), (2, .int x2), (3, .int x3)], [], zmk w s, 0, 0) (some (.int v), zmk w s2, 0, 0) := by
  obtain ⟨d, rfl⟩ : ∃ d0, d = d0 + 1 := ⟨d - 1, by omega⟩
  intro j
  induction j with
  | zero => intro x1 x2 x3 s v s2 hx1 h; cases h
  | succ j ih =>
    intro x1 x2 x3 s v s2 hx1 h w fz L xs
    rw [f181_123] at h
    refine zGo_s (pc' := 124) (st' := [.ref 1132]) dd181_123 rfl ?_
    obtain ⟨v2, u1, hq, h⟩ := obnd h
    refine zCV1 (As := []) (rest := []) (b := 1132) (q' := q_167) dd181_124 rfl rfl (rcv_m rfl rfl (by decide)) rfl rfl rfl (f167_ok (d := d) (by omega)  hq) ?_
    rcases oite h with ⟨hc, h⟩ | ⟨hc, h⟩
    · refine zUT dd181_127 rfl (kEqT hc) ?_
      exact zGo_lv (lv := [(0, .ref 1132), (2, .int x2)]) ⟨by simp, by simp, by simp⟩ (f181_182_ok hd hg h)
    · refine zUF dd181_127 (kEqF hc) ?_
      refine zGo_s (pc' := 131) (st' := [.ref 1132]) dd181_130 rfl ?_
      refine zGo_s (pc' := 133) (st' := [.int (125 : Int32), .ref 1132]) dd181_131 rfl ?_
      obtain ⟨v4, u3, hq, h⟩ := obnd h
      refine zCV1 (As := [.int (125 : Int32)]) (rest := []) (b := 1132) (q' := q_177) dd181_133 rfl rfl (rcv_m rfl rfl (by decide)) rfl rfl rfl (f177_ok (d := d) (by omega)  hq) ?_
      rcases oite h with ⟨hc, h⟩ | ⟨hc, h⟩
      · refine zUF dd181_136 (kNeF hc) ?_
        refine zGo_s (pc' := 140) (st' := [.ref 1132]) dd181_139 rfl ?_
        obtain ⟨v6, u5, hq, h⟩ := obnd h
        refine zCV1 (As := []) (rest := []) (b := 1132) (q' := q_184) dd181_140 rfl rfl (rcv_m rfl rfl (by decide)) rfl rfl rfl (f184_ok (d := d) (by omega) hg  hq) ?_
        refine zGo_s (pc' := 145) (st' := []) (lv' := [(4, .int v6), (0, .ref 1132), (1, .ref x1), (2, .int x2), (3, .int x3)]) dd181_143 rfl ?_
        refine zGo_s (pc' := 146) (st' := [.ref 1132]) dd181_145 rfl ?_
        obtain ⟨v8, u7, hq, h⟩ := obnd h
        refine zCV1 (As := []) (rest := []) (b := 1132) (q' := q_167) dd181_146 rfl rfl (rcv_m rfl rfl (by decide)) rfl rfl rfl (f167_ok (d := d) (by omega)  hq) ?_
        rcases oite h with ⟨hc, h⟩ | ⟨hc, h⟩
        · refine zUT dd181_149 rfl (kEqT hc) ?_
          exact zGo_lv (lv := [(0, .ref 1132), (1, .ref x1), (2, .int x2), (3, .int x3)]) ⟨by simp, by simp, by simp⟩ (f181_179_ok hd hg ih hx1 h)
        · refine zUF dd181_149 (kEqF hc) ?_
          refine zGo_s (pc' := 153) (st' := [.int x3]) dd181_152 rfl ?_
          refine zGo_s (pc' := 154) (st' := [.int (-1 : Int32), .int x3]) dd181_153 rfl ?_
          rcases oite h with ⟨hc, h⟩ | ⟨hc, h⟩
          · refine zIF dd181_154 (kNeF hc) ?_
            refine zGo_s (pc' := 158) (st' := [.ref x1]) dd181_157 rfl ?_
            refine mGF (e := (x1 + 13)) dd181_158 rfl (ck12_s hx1).1 (ck12_s hx1).2 rfl (cf12_14 hx1).1 ?_
            refine zGo_s (pc' := 162) (st' := [.int x2, .ref (x1 + 13)]) dd181_161 rfl ?_
            refine zGo_s (pc' := 164) (st' := [.int v6, .int x2, .ref (x1 + 13)]) dd181_162 rfl ?_
            obtain ⟨hi, h⟩ := ochk h
            obtain ⟨u10, e_u10, h⟩ := olet h
            refine mIS dd181_164 (cf12_14 hx1).2.1 (cf12_14 hx1).2.2 hi e_u10 ?_
            refine zGo_s (pc' := 176) (st' := []) dd181_165 rfl ?_
            exact zGo_lv (lv := [(0, .ref 1132), (1, .ref x1), (2, .int x2), (4, .int v6)]) ⟨by simp, by simp, by simp⟩ (f181_176_ok hd hg ih hx1 h)
          · refine zIT dd181_154 rfl (kNeT hc) ?_
            refine zGo_s (pc' := 169) (st' := [.ref x1]) dd181_168 rfl ?_
            refine mGF (e := (x1 + 16)) dd181_169 rfl (ck12_s hx1).1 (ck12_s hx1).2 rfl (cf12_18 hx1).1 ?_
            refine zGo_s (pc' := 173) (st' := [.int x3, .ref (x1 + 16)]) dd181_172 rfl ?_
            refine zGo_s (pc' := 175) (st' := [.int v6, .int x3, .ref (x1 + 16)]) dd181_173 rfl ?_
            obtain ⟨hi, h⟩ := ochk h
            obtain ⟨u9, e_u9, h⟩ := olet h
            refine mIS dd181_175 (cf12_18 hx1).2.1 (cf12_18 hx1).2.2 hi e_u9 ?_
            exact zGo_lv (lv := [(0, .ref 1132), (1, .ref x1), (2, .int x2), (4, .int v6)]) ⟨by simp, by simp, by simp⟩ (f181_176_ok hd hg ih hx1 h)
      · refine zUT dd181_136 rfl (kNeT hc) ?_
        exact zGo_lv (lv := [(0, .ref 1132), (2, .int x2)]) ⟨by simp, by simp, by simp⟩ (f181_182_ok hd hg h)
def f181_121 (n : Nat) (g : zσ → Option (Int32 × zσ)) (x1 : Nat) (x2 : Int32) (s : zσ) : Option (Int32 × zσ) :=
    f181_123 n g n x1 x2 (-1 : Int32) s
set_option maxRecDepth 20000 in
theorem f181_121_ok {n d : Nat} {Df : Nat} {g : zσ → Option (Int32 × zσ)} {x1 : Nat} {x2 : Int32} {s : zσ} {v : Int32} {s2 : zσ} (hd : Df + 3 ≤ d ∧ 140 ≤ Df) (hg : ∀ (s : zσ) (v : Int32) (s2 : zσ), g s = some (v, s2) → ∀ {d : Nat}, Df ≤ d → ∀ {w : zσ} {fz : Bool} {L : Nat} {xs : Nat → Int32}, zGo (zX fz L xs) d q_181 (0, [(0, .ref 1132)], [], zmk w s, 0, 0) (some (.int v), zmk w s2, 0, 0)) (hx1 : zck 12 x1 = true) (h : f181_121 n g x1 x2 s = some (v, s2)) {w : zσ} {fz : Bool} {L : Nat} {xs : Nat → Int32} : zGo (zX fz L xs) d q_181 (121, [(0, .ref 1132), (1, .ref x1), (2, .int x2)], [], zmk w s, 0, 0) (some (.int v), zmk w s2, 0, 0) := by
  obtain ⟨d, rfl⟩ : ∃ d0, d = d0 + 1 := ⟨d - 1, by omega⟩
  unfold f181_121 at h
  refine zGo_s (pc' := 122) (st' := [.int (-1 : Int32)]) dd181_121 rfl ?_
  refine zGo_s (pc' := 123) (st' := []) (lv' := [(3, .int (-1 : Int32)), (0, .ref 1132), (1, .ref x1), (2, .int x2)]) dd181_122 rfl ?_
  exact zGo_lv (lv := [(0, .ref 1132), (1, .ref x1), (2, .int x2), (3, .int (-1 : Int32))]) ⟨by simp, by simp, by simp⟩ (f181_123_ok hd hg _ _ _ _ _ _ _ hx1 h)
def f181_92 (n : Nat) (g : zσ → Option (Int32 × zσ)) : Nat → Nat → Int32 → zσ → Option (Int32 × zσ)
  | 0, _, _, _ => none
  | j + 1, x1, x2, s =>
    yb1 (f167 n s) fun v2 u1 =>
    if v2 = (0 : Int32) then
    f181_121 n g x1 x2 u1
    else yb1 (f170 n 13 u1) fun v4 u3 =>
    if v4 = (0 : Int32) then
    f181_121 n g x1 x2 u3
    else yb0 (f164 n u3) fun u5 =>
    yb0 (f183 n g x2 u5) fun u6 =>
    f181_92 n g j x1 x2 u6
set_option maxRecDepth 20000 in
theorem f181_92_ok {n d : Nat} {Df : Nat} {g : zσ → Option (Int32 × zσ)} (hd : Df + 3 ≤ d ∧ 140 ≤ Df) (hg : ∀ (s : zσ) (v : Int32) (s2 : zσ), g s = some (v, s2) → ∀ {d : Nat}, Df ≤ d → ∀ {w : zσ} {fz : Bool} {L : Nat} {xs : Nat → Int32}, zGo (zX fz L xs) d q_181 (0, [(0, .ref 1132)], [], zmk w s, 0, 0) (some (.int v), zmk w s2, 0, 0)) : ∀ (j : Nat) (x1 : Nat) (x2 : Int32) (s : zσ) (v : Int32) (s2 : zσ), zck 12 x1 = true → f181_92 n g j x1 x2 s = some (v, s2) → ∀ {w : zσ} {fz : Bool} {L : Nat} {xs : Nat → Int32}, zGo (zX fz L xs) d q_181 (92, [(0, .ref 1132), (1, .ref x1), (2, .int x2)], [], zmk w s, 0, 0) (some (.int v), zmk w s2, 0, 0) := by
  obtain ⟨d, rfl⟩ : ∃ d0, d = d0 + 1 := ⟨d - 1, by omega⟩
  intro j
  induction j with
  | zero => intro x1 x2 s v s2 hx1 h; cases h
  | succ j ih =>
    intro x1 x2 s v s2 hx1 h w fz L xs
    rw [f181_92] at h
    refine zGo_s (pc' := 93) (st' := [.ref 1132]) dd181_92 rfl ?_
    obtain ⟨v2, u1, hq, h⟩ := obnd h
    refine zCV1 (As := []) (rest := []) (b := 1132) (q' := q_167) dd181_93 rfl rfl (rcv_m rfl rfl (by decide)) rfl rfl rfl (f167_ok (d := d) (by omega)  hq) ?_
    rcases oite h with ⟨hc, h⟩ | ⟨hc, h⟩
    · refine zUT dd181_96 rfl (kEqT hc) ?_
      exact f181_121_ok hd hg hx1 h
    · refine zUF dd181_96 (kEqF hc) ?_
      refine zGo_s (pc' := 100) (st' := [.ref 1132]) dd181_99 rfl ?_
      refine zGo_s (pc' := 103) (st' := [.ref 13, .ref 1132]) dd181_100 rfl ?_
      obtain ⟨v4, u3, hq, h⟩ := obnd h
      refine zCV1 (As := [.ref 13]) (rest := []) (b := 1132) (q' := q_170) dd181_103 rfl rfl (rcv_m rfl rfl (by decide)) rfl rfl rfl (f170_ok (d := d) (by omega) (by decide) hq) ?_
      rcases oite h with ⟨hc, h⟩ | ⟨hc, h⟩
      · refine zUT dd181_106 rfl (kEqT hc) ?_
        exact f181_121_ok hd hg hx1 h
      · refine zUF dd181_106 (kEqF hc) ?_
        refine zGo_s (pc' := 110) (st' := [.ref 1132]) dd181_109 rfl ?_
        obtain ⟨u5, hq, h⟩ := obn0 h
        refine zCV0 (As := []) (rest := []) (b := 1132) (q' := q_164) dd181_110 rfl rfl (rcv_m rfl rfl (by decide)) rfl rfl rfl (f164_ok (d := d) (by omega)  hq) ?_
        refine zGo_s (pc' := 114) (st' := [.ref 1132]) dd181_113 rfl ?_
        refine zGo_s (pc' := 115) (st' := [.int x2, .ref 1132]) dd181_114 rfl ?_
        obtain ⟨u6, hq, h⟩ := obn0 h
        refine zCV0 (As := [.int x2]) (rest := []) (b := 1132) (q' := q_183) dd181_115 rfl rfl (rcv_m rfl rfl (by decide)) rfl rfl rfl (f183_ok (d := d) (by omega) hg  hq) ?_
        refine zGo_s (pc' := 92) (st' := []) dd181_118 rfl ?_
        exact ih _ _ _ _ _ hx1 h
def f181_57 (n : Nat) (g : zσ → Option (Int32 × zσ)) : Nat → Nat → Int32 → Int32 → zσ → Option (Int32 × zσ)
  | 0, _, _, _, _ => none
  | j + 1, x1, x2, x3, s =>
    if x3 < (20 : Int32) then
    if zin? (((20 : Int32) * x2) + x3) 40000 = true then
    zlet (sI s (x1 + 14) (nx (((20 : Int32) * x2) + x3)) (-1 : Int32)) fun u4 =>
    f181_57 n g j x1 x2 (x3 + (1 : Int32)) u4
    else none
    else yb1 (f167 n s) fun v2 u1 =>
    if v2 = (0 : Int32) then
    f181_92 n g n x1 x2 u1
    else yb0 (f164 n u1) fun u3 =>
    f181_92 n g n x1 x2 u3
set_option maxRecDepth 20000 in
theorem f181_57_ok {n d : Nat} {Df : Nat} {g : zσ → Option (Int32 × zσ)} (hd : Df + 3 ≤ d ∧ 140 ≤ Df) (hg : ∀ (s : zσ) (v : Int32) (s2 : zσ), g s = some (v, s2) → ∀ {d : Nat}, Df ≤ d → ∀ {w : zσ} {fz : Bool} {L : Nat} {xs : Nat → Int32}, zGo (zX fz L xs) d q_181 (0, [(0, .ref 1132)], [], zmk w s, 0, 0) (some (.int v), zmk w s2, 0, 0)) : ∀ (j : Nat) (x1 : Nat) (x2 : Int32) (x3 : Int32) (s : zσ) (v : Int32) (s2 : zσ), zck 12 x1 = true → f181_57 n g j x1 x2 x3 s = some (v, s2) → ∀ {w : zσ} {fz : Bool} {L : Nat} {xs : Nat → Int32}, zGo (zX fz L xs) d q_181 (57, [(0, .ref 1132), (1, .ref x1), (2, .int x2), (3, .int x3)], [], zmk w s, 0, 0) (some (.int v), zmk w s2, 0, 0) := by
  obtain ⟨d, rfl⟩ : ∃ d0, d = d0 + 1 := ⟨d - 1, by omega⟩
  intro j
  induction j with
  | zero => intro x1 x2 x3 s v s2 hx1 h; cases h
  | succ j ih =>
    intro x1 x2 x3 s v s2 hx1 h w fz L xs
    rw [f181_57] at h
    refine zGo_s (pc' := 58) (st' := [.int x3]) dd181_57 rfl ?_
    refine zGo_s (pc' := 60) (st' := [.int (20 : Int32), .int x3]) dd181_58 rfl ?_
    rcases oite h with ⟨hc, h⟩ | ⟨hc, h⟩
    · refine zIF dd181_60 (kGeF hc) ?_
      refine zGo_s (pc' := 64) (st' := [.ref x1]) dd181_63 rfl ?_
      refine mGF (e := (x1 + 14)) dd181_64 rfl (ck12_s hx1).1 (ck12_s hx1).2 rfl (cf12_15 hx1).1 ?_
      refine zGo_s (pc' := 69) (st' := [.int (20 : Int32), .ref (x1 + 14)]) dd181_67 rfl ?_
      refine zGo_s (pc' := 70) (st' := [.int x2, .int (20 : Int32), .ref (x1 + 14)]) dd181_69 rfl ?_
      refine zGo_s (pc' := 71) (st' := [.int ((20 : Int32) * x2), .ref (x1 + 14)]) dd181_70 rfl ?_
      refine zGo_s (pc' := 72) (st' := [.int x3, .int ((20 : Int32) * x2), .ref (x1 + 14)]) dd181_71 rfl ?_
      refine zGo_s (pc' := 73) (st' := [.int (((20 : Int32) * x2) + x3), .ref (x1 + 14)]) dd181_72 rfl ?_
      refine zGo_s (pc' := 74) (st' := [.int (-1 : Int32), .int (((20 : Int32) * x2) + x3), .ref (x1 + 14)]) dd181_73 rfl ?_
      obtain ⟨hi, h⟩ := ochk h
      obtain ⟨u4, e_u4, h⟩ := olet h
      refine mIS dd181_74 (cf12_15 hx1).2.1 (cf12_15 hx1).2.2 hi e_u4 ?_
      refine zGo_s (pc' := 78) (st' := []) (lv' := [(3, .int (x3 + (1 : Int32))), (0, .ref 1132), (1, .ref x1), (2, .int x2)]) dd181_75 rfl ?_
      refine zGo_s (pc' := 57) (st' := []) dd181_78 rfl ?_
      exact zGo_lv (lv := [(0, .ref 1132), (1, .ref x1), (2, .int x2), (3, .int (x3 + (1 : Int32)))]) ⟨by simp, by simp, by simp⟩ (ih _ _ _ _ _ _ hx1 h)
    · refine zIT dd181_60 rfl (kGeT hc) ?_
      refine zGo_s (pc' := 82) (st' := [.ref 1132]) dd181_81 rfl ?_
      obtain ⟨v2, u1, hq, h⟩ := obnd h
      refine zCV1 (As := []) (rest := []) (b := 1132) (q' := q_167) dd181_82 rfl rfl (rcv_m rfl rfl (by decide)) rfl rfl rfl (f167_ok (d := d) (by omega)  hq) ?_
      rcases oite h with ⟨hc, h⟩ | ⟨hc, h⟩
      · refine zUT dd181_85 rfl (kEqT hc) ?_
        exact zGo_lv (lv := [(0, .ref 1132), (1, .ref x1), (2, .int x2)]) ⟨by simp, by simp, by simp⟩ (f181_92_ok hd hg _ _ _ _ _ _ hx1 h)
      · refine zUF dd181_85 (kEqF hc) ?_
        refine zGo_s (pc' := 89) (st' := [.ref 1132]) dd181_88 rfl ?_
        obtain ⟨u3, hq, h⟩ := obn0 h
        refine zCV0 (As := []) (rest := []) (b := 1132) (q' := q_164) dd181_89 rfl rfl (rcv_m rfl rfl (by decide)) rfl rfl rfl (f164_ok (d := d) (by omega)  hq) ?_
        exact zGo_lv (lv := [(0, .ref 1132), (1, .ref x1), (2, .int x2)]) ⟨by simp, by simp, by simp⟩ (f181_92_ok hd hg _ _ _ _ _ _ hx1 h)
def f181b (n : Nat) (g : zσ → Option (Int32 × zσ)) (s : zσ) : Option (Int32 × zσ) :=
    yb1 (f167 n s) fun v2 u1 =>
    if v2 = (0 : Int32) then
    some ((0 : Int32), u1)
    else yb1 (f177 n (123 : Int32) u1) fun v4 u3 =>
    if v4 = (0 : Int32) then
    yb0 (f172 n u3) fun u10 =>
    some ((0 : Int32), u10)
    else yb0 (f182 n u3) fun u5 =>
    zrd 12 (u5.2.2 1132 12) fun a6 =>
    zlet ((u5.1 a6 13)) fun v7 =>
    zlet (sI u5 a6 13 ((u5.1 a6 13) + (1 : Int32))) fun u8 =>
    if zin? v7 2000 = true then
    zlet (sI u8 (a6 + 13) (nx v7) (-1 : Int32)) fun u9 =>
    f181_57 n g n a6 v7 (0 : Int32) u9
    else none
set_option maxRecDepth 20000 in
theorem f181b_ok {n d : Nat} {Df : Nat} {g : zσ → Option (Int32 × zσ)} {s : zσ} {v : Int32} {s2 : zσ} (hd : Df + 3 ≤ d ∧ 140 ≤ Df) (hg : ∀ (s : zσ) (v : Int32) (s2 : zσ), g s = some (v, s2) → ∀ {d : Nat}, Df ≤ d → ∀ {w : zσ} {fz : Bool} {L : Nat} {xs : Nat → Int32}, zGo (zX fz L xs) d q_181 (0, [(0, .ref 1132)], [], zmk w s, 0, 0) (some (.int v), zmk w s2, 0, 0)) (h : f181b n g s = some (v, s2)) {w : zσ} {fz : Bool} {L : Nat} {xs : Nat → Int32} : zGo (zX fz L xs) d q_181 (0, [(0, .ref 1132)], [], zmk w s, 0, 0) (some (.int v), zmk w s2, 0, 0) := by
  obtain ⟨d, rfl⟩ : ∃ d0, d = d0 + 1 := ⟨d - 1, by omega⟩
  unfold f181b at h
  refine zGo_s (pc' := 1) (st' := [.ref 1132]) dd181_0 rfl ?_
  obtain ⟨v2, u1, hq, h⟩ := obnd h
  refine zCV1 (As := []) (rest := []) (b := 1132) (q' := q_167) dd181_1 rfl rfl (rcv_m rfl rfl (by decide)) rfl rfl rfl (f167_ok (d := d) (by omega)  hq) ?_
  rcases oite h with ⟨hc, h⟩ | ⟨hc, h⟩
  · refine zUF dd181_4 (kNeF hc) ?_
    refine zGo_s (pc' := 8) (st' := [.int (0 : Int32)]) dd181_7 rfl ?_
    obtain ⟨rfl, rfl⟩ := oret h
    exact zGo_ret dd181_8 rfl rfl
  · refine zUT dd181_4 rfl (kNeT hc) ?_
    refine zGo_s (pc' := 10) (st' := [.ref 1132]) dd181_9 rfl ?_
    refine zGo_s (pc' := 12) (st' := [.int (123 : Int32), .ref 1132]) dd181_10 rfl ?_
    obtain ⟨v4, u3, hq, h⟩ := obnd h
    refine zCV1 (As := [.int (123 : Int32)]) (rest := []) (b := 1132) (q' := q_177) dd181_12 rfl rfl (rcv_m rfl rfl (by decide)) rfl rfl rfl (f177_ok (d := d) (by omega)  hq) ?_
    rcases oite h with ⟨hc, h⟩ | ⟨hc, h⟩
    · refine zUF dd181_15 (kNeF hc) ?_
      refine zGo_s (pc' := 19) (st' := [.ref 1132]) dd181_18 rfl ?_
      obtain ⟨u10, hq, h⟩ := obn0 h
      refine zCV0 (As := []) (rest := []) (b := 1132) (q' := q_172) dd181_19 rfl rfl (rcv_m rfl rfl (by decide)) rfl rfl rfl (f172_ok (d := d) (by omega)  hq) ?_
      refine zGo_s (pc' := 23) (st' := [.int (0 : Int32)]) dd181_22 rfl ?_
      obtain ⟨rfl, rfl⟩ := oret h
      exact zGo_ret dd181_23 rfl rfl
    · refine zUT dd181_15 rfl (kNeT hc) ?_
      refine zGo_s (pc' := 25) (st' := [.ref 1132]) dd181_24 rfl ?_
      obtain ⟨u5, hq, h⟩ := obn0 h
      refine zCV0 (As := []) (rest := []) (b := 1132) (q' := q_182) dd181_25 rfl rfl (rcv_m rfl rfl (by decide)) rfl rfl rfl (f182_ok (d := d) (by omega)  hq) ?_
      refine zGo_s (pc' := 29) (st' := [.ref 1132]) dd181_28 rfl ?_
      obtain ⟨a6, e_a6, c_a6, h⟩ := ordd h
      refine mGR dd181_29 rfl rfl rfl rfl e_a6 ?_
      refine zGo_s (pc' := 33) (st' := []) (lv' := [(1, .ref a6), (0, .ref 1132)]) dd181_32 rfl ?_
      refine zGo_s (pc' := 34) (st' := [.ref a6]) dd181_33 rfl ?_
      refine mGI dd181_34 rfl (ck12_s c_a6).1 (ck12_s c_a6).2 rfl ?_
      obtain ⟨v7, e_v7, h⟩ := olet h
      refine zGo_is1 e_v7 dd181_37 (x' := (38, [(2, .int v7), (1, .ref a6), (0, .ref 1132)], [], _, _, _)) rfl ?_
      refine zGo_s (pc' := 39) (st' := [.ref a6]) dd181_38 rfl ?_
      refine zGo_s (pc' := 40) (st' := [.ref a6, .ref a6]) dd181_39 rfl ?_
      refine mGI dd181_40 rfl (ck12_s c_a6).1 (ck12_s c_a6).2 rfl ?_
      refine zGo_s (pc' := 44) (st' := [.int (1 : Int32), .int (u5.1 a6 13), .ref a6]) dd181_43 rfl ?_
      refine zGo_s (pc' := 45) (st' := [.int ((u5.1 a6 13) + (1 : Int32)), .ref a6]) dd181_44 rfl ?_
      obtain ⟨u8, e_u8, h⟩ := olet h
      refine mPI dd181_45 rfl (ck12_s c_a6).1 (ck12_s c_a6).2 rfl rfl rfl e_u8 ?_
      refine zGo_s (pc' := 49) (st' := [.ref a6]) dd181_48 rfl ?_
      refine mGF (e := (a6 + 13)) dd181_49 rfl (ck12_s c_a6).1 (ck12_s c_a6).2 rfl (cf12_14 c_a6).1 ?_
      refine zGo_s (pc' := 53) (st' := [.int v7, .ref (a6 + 13)]) dd181_52 rfl ?_
      refine zGo_s (pc' := 54) (st' := [.int (-1 : Int32), .int v7, .ref (a6 + 13)]) dd181_53 rfl ?_
      obtain ⟨hi, h⟩ := ochk h
      obtain ⟨u9, e_u9, h⟩ := olet h
      refine mIS dd181_54 (cf12_14 c_a6).2.1 (cf12_14 c_a6).2.2 hi e_u9 ?_
      refine zGo_s (pc' := 56) (st' := [.int (0 : Int32)]) dd181_55 rfl ?_
      refine zGo_s (pc' := 57) (st' := []) (lv' := [(3, .int (0 : Int32)), (2, .int v7), (1, .ref a6), (0, .ref 1132)]) dd181_56 rfl ?_
      exact zGo_lv (lv := [(0, .ref 1132), (1, .ref a6), (2, .int v7), (3, .int (0 : Int32))]) ⟨by simp, by simp, by simp⟩ (f181_57_ok hd hg _ _ _ _ _ _ _ c_a6 h)
def f181 (n : Nat) : Nat → zσ → Option (Int32 × zσ)
  | 0, _ => none
  | k + 1, s => f181b n (f181 n k) s
theorem f181_all {n : Nat} : ∀ (k : Nat) (s : zσ) (v : Int32) (s2 : zσ), f181 n k s = some (v, s2) → ∀ {d : Nat}, 140 + 4 * (k + 1) ≤ d → ∀ {w : zσ} {fz : Bool} {L : Nat} {xs : Nat → Int32}, zGo (zX fz L xs) d q_181 (0, [(0, .ref 1132)], [], zmk w s, 0, 0) (some (.int v), zmk w s2, 0, 0) := by
  intro k
  induction k with
  | zero => intro s v s2 h; cases h
  | succ k ih =>
    intro s v s2 h d hd w fz L xs
    exact f181b_ok (Df := 140 + 4 * (k + 1)) (by omega) ih h
theorem f181_okk20 {n : Nat} : ∀ (s : zσ) (v : Int32) (s2 : zσ), f181 n 20 s = some (v, s2) → ∀ {d : Nat}, 224 ≤ d → ∀ {w : zσ} {fz : Bool} {L : Nat} {xs : Nat → Int32}, zGo (zX fz L xs) d q_181 (0, [(0, .ref 1132)], [], zmk w s, 0, 0) (some (.int v), zmk w s2, 0, 0) :=
  fun _ _ _ h _ hd _ _ _ _ => f181_all 20 _ _ _ h (by omega)
/-! PHModel.declaration()V -/
theorem dd168_0 : decode cX13_declaration 0 = .ok (.aload_n 0, 1) := by decide +kernel
theorem dd168_1 : decode cX13_declaration 1 = .ok (.getfield 24, 3) := by decide +kernel
theorem dd168_4 : decode cX13_declaration 4 = .ok (.astore_n 1, 1) := by decide +kernel
theorem dd168_5 : decode cX13_declaration 5 = .ok (.aload_n 0, 1) := by decide +kernel
theorem dd168_6 : decode cX13_declaration 6 = .ok (.invokevirtual 512, 3) := by decide +kernel
theorem dd168_9 : decode cX13_declaration 9 = .ok (.istore_n 2, 1) := by decide +kernel
theorem dd168_10 : decode cX13_declaration 10 = .ok (.iload_n 2, 1) := by decide +kernel
theorem dd168_11 : decode cX13_declaration 11 = .ok (.iconst (-1), 1) := by decide +kernel
theorem dd168_12 : decode cX13_declaration 12 = .ok (.if_icmp .ne 8, 3) := by decide +kernel
theorem dd168_15 : decode cX13_declaration 15 = .ok (.aload_n 0, 1) := by decide +kernel
theorem dd168_16 : decode cX13_declaration 16 = .ok (.invokevirtual 234, 3) := by decide +kernel
theorem dd168_19 : decode cX13_declaration 19 = .ok (.return_, 1) := by decide +kernel
theorem dd168_20 : decode cX13_declaration 20 = .ok (.aload_n 0, 1) := by decide +kernel
theorem dd168_21 : decode cX13_declaration 21 = .ok (.invokevirtual 231, 3) := by decide +kernel
theorem dd168_24 : decode cX13_declaration 24 = .ok (.aload_n 0, 1) := by decide +kernel
theorem dd168_25 : decode cX13_declaration 25 = .ok (.iload_n 2, 1) := by decide +kernel
theorem dd168_26 : decode cX13_declaration 26 = .ok (.invokevirtual 515, 3) := by decide +kernel
theorem dd168_29 : decode cX13_declaration 29 = .ok (.istore_n 3, 1) := by decide +kernel
theorem dd168_30 : decode cX13_declaration 30 = .ok (.aload_n 0, 1) := by decide +kernel
theorem dd168_31 : decode cX13_declaration 31 = .ok (.invokevirtual 223, 3) := by decide +kernel
theorem dd168_34 : decode cX13_declaration 34 = .ok (.ifCond .ne 4, 3) := by decide +kernel
theorem dd168_37 : decode cX13_declaration 37 = .ok (.return_, 1) := by decide +kernel
theorem dd168_38 : decode cX13_declaration 38 = .ok (.iload_n 2, 1) := by decide +kernel
theorem dd168_39 : decode cX13_declaration 39 = .ok (.ifCond .ne 78, 3) := by decide +kernel
theorem dd168_42 : decode cX13_declaration 42 = .ok (.aload_n 1, 1) := by decide +kernel
theorem dd168_43 : decode cX13_declaration 43 = .ok (.getfield 518, 3) := by decide +kernel
theorem dd168_46 : decode cX13_declaration 46 = .ok (.iload_n 3, 1) := by decide +kernel
theorem dd168_47 : decode cX13_declaration 47 = .ok (.iconst 0, 1) := by decide +kernel
theorem dd168_48 : decode cX13_declaration 48 = .ok (.iastore, 1) := by decide +kernel
theorem dd168_49 : decode cX13_declaration 49 = .ok (.aload_n 0, 1) := by decide +kernel
theorem dd168_50 : decode cX13_declaration 50 = .ok (.bipush 61, 2) := by decide +kernel
theorem dd168_52 : decode cX13_declaration 52 = .ok (.invokevirtual 227, 3) := by decide +kernel
theorem dd168_55 : decode cX13_declaration 55 = .ok (.ifCond .eq 53, 3) := by decide +kernel
theorem dd168_58 : decode cX13_declaration 58 = .ok (.aload_n 0, 1) := by decide +kernel
theorem dd168_59 : decode cX13_declaration 59 = .ok (.invokevirtual 231, 3) := by decide +kernel
theorem dd168_62 : decode cX13_declaration 62 = .ok (.aload_n 0, 1) := by decide +kernel
theorem dd168_63 : decode cX13_declaration 63 = .ok (.bipush 45, 2) := by decide +kernel
theorem dd168_65 : decode cX13_declaration 65 = .ok (.invokevirtual 227, 3) := by decide +kernel
theorem dd168_68 : decode cX13_declaration 68 = .ok (.istore 4, 2) := by decide +kernel
theorem dd168_70 : decode cX13_declaration 70 = .ok (.iload 4, 2) := by decide +kernel
theorem dd168_72 : decode cX13_declaration 72 = .ok (.ifCond .eq 7, 3) := by decide +kernel
theorem dd168_75 : decode cX13_declaration 75 = .ok (.aload_n 0, 1) := by decide +kernel
theorem dd168_76 : decode cX13_declaration 76 = .ok (.invokevirtual 231, 3) := by decide +kernel
theorem dd168_79 : decode cX13_declaration 79 = .ok (.aload_n 0, 1) := by decide +kernel
theorem dd168_80 : decode cX13_declaration 80 = .ok (.iconst 0, 1) := by decide +kernel
theorem dd168_81 : decode cX13_declaration 81 = .ok (.ldc_w 521, 3) := by decide +kernel
theorem dd168_84 : decode cX13_declaration 84 = .ok (.invokevirtual 522, 3) := by decide +kernel
theorem dd168_87 : decode cX13_declaration 87 = .ok (.istore 5, 2) := by decide +kernel
theorem dd168_89 : decode cX13_declaration 89 = .ok (.aload_n 1, 1) := by decide +kernel
theorem dd168_90 : decode cX13_declaration 90 = .ok (.getfield 518, 3) := by decide +kernel
theorem dd168_93 : decode cX13_declaration 93 = .ok (.iload_n 3, 1) := by decide +kernel
theorem dd168_94 : decode cX13_declaration 94 = .ok (.iload 4, 2) := by decide +kernel
theorem dd168_96 : decode cX13_declaration 96 = .ok (.ifCond .eq 9, 3) := by decide +kernel
theorem dd168_99 : decode cX13_declaration 99 = .ok (.iload 5, 2) := by decide +kernel
theorem dd168_101 : decode cX13_declaration 101 = .ok (.ineg, 1) := by decide +kernel
theorem dd168_102 : decode cX13_declaration 102 = .ok (.goto 5, 3) := by decide +kernel
theorem dd168_105 : decode cX13_declaration 105 = .ok (.iload 5, 2) := by decide +kernel
theorem dd168_107 : decode cX13_declaration 107 = .ok (.iastore, 1) := by decide +kernel
theorem dd168_108 : decode cX13_declaration 108 = .ok (.aload_n 0, 1) := by decide +kernel
theorem dd168_109 : decode cX13_declaration 109 = .ok (.bipush 59, 2) := by decide +kernel
theorem dd168_111 : decode cX13_declaration 111 = .ok (.invokevirtual 341, 3) := by decide +kernel
theorem dd168_114 : decode cX13_declaration 114 = .ok (.goto 155, 3) := by decide +kernel
theorem dd168_117 : decode cX13_declaration 117 = .ok (.iload_n 2, 1) := by decide +kernel
theorem dd168_118 : decode cX13_declaration 118 = .ok (.iconst 2, 1) := by decide +kernel
theorem dd168_119 : decode cX13_declaration 119 = .ok (.if_icmp .ne 25, 3) := by decide +kernel
theorem dd168_122 : decode cX13_declaration 122 = .ok (.aload_n 1, 1) := by decide +kernel
theorem dd168_123 : decode cX13_declaration 123 = .ok (.getfield 526, 3) := by decide +kernel
theorem dd168_126 : decode cX13_declaration 126 = .ok (.iload_n 3, 1) := by decide +kernel
theorem dd168_127 : decode cX13_declaration 127 = .ok (.aload_n 0, 1) := by decide +kernel
theorem dd168_128 : decode cX13_declaration 128 = .ok (.iconst 0, 1) := by decide +kernel
theorem dd168_129 : decode cX13_declaration 129 = .ok (.bipush 9, 2) := by decide +kernel
theorem dd168_131 : decode cX13_declaration 131 = .ok (.invokevirtual 522, 3) := by decide +kernel
theorem dd168_134 : decode cX13_declaration 134 = .ok (.iastore, 1) := by decide +kernel
theorem dd168_135 : decode cX13_declaration 135 = .ok (.aload_n 0, 1) := by decide +kernel
theorem dd168_136 : decode cX13_declaration 136 = .ok (.bipush 59, 2) := by decide +kernel
theorem dd168_138 : decode cX13_declaration 138 = .ok (.invokevirtual 341, 3) := by decide +kernel
theorem dd168_141 : decode cX13_declaration 141 = .ok (.goto 128, 3) := by decide +kernel
theorem dd168_144 : decode cX13_declaration 144 = .ok (.iload_n 2, 1) := by decide +kernel
theorem dd168_145 : decode cX13_declaration 145 = .ok (.bipush 7, 2) := by decide +kernel
theorem dd168_147 : decode cX13_declaration 147 = .ok (.if_icmp .ne 43, 3) := by decide +kernel
theorem dd168_150 : decode cX13_declaration 150 = .ok (.aload_n 0, 1) := by decide +kernel
theorem dd168_151 : decode cX13_declaration 151 = .ok (.bipush 40, 2) := by decide +kernel
theorem dd168_153 : decode cX13_declaration 153 = .ok (.invokevirtual 341, 3) := by decide +kernel
theorem dd168_156 : decode cX13_declaration 156 = .ok (.aload_n 0, 1) := by decide +kernel
theorem dd168_157 : decode cX13_declaration 157 = .ok (.iload_n 3, 1) := by decide +kernel
theorem dd168_158 : decode cX13_declaration 158 = .ok (.invokevirtual 528, 3) := by decide +kernel
theorem dd168_161 : decode cX13_declaration 161 = .ok (.aload_n 0, 1) := by decide +kernel
theorem dd168_162 : decode cX13_declaration 162 = .ok (.bipush 41, 2) := by decide +kernel
theorem dd168_164 : decode cX13_declaration 164 = .ok (.invokevirtual 341, 3) := by decide +kernel
theorem dd168_167 : decode cX13_declaration 167 = .ok (.aload_n 0, 1) := by decide +kernel
theorem dd168_168 : decode cX13_declaration 168 = .ok (.iload_n 3, 1) := by decide +kernel
theorem dd168_169 : decode cX13_declaration 169 = .ok (.putfield 264, 3) := by decide +kernel
theorem dd168_172 : decode cX13_declaration 172 = .ok (.aload_n 1, 1) := by decide +kernel
theorem dd168_173 : decode cX13_declaration 173 = .ok (.getfield 530, 3) := by decide +kernel
theorem dd168_176 : decode cX13_declaration 176 = .ok (.iload_n 3, 1) := by decide +kernel
theorem dd168_177 : decode cX13_declaration 177 = .ok (.aload_n 0, 1) := by decide +kernel
theorem dd168_178 : decode cX13_declaration 178 = .ok (.invokevirtual 367, 3) := by decide +kernel
theorem dd168_181 : decode cX13_declaration 181 = .ok (.iastore, 1) := by decide +kernel
theorem dd168_182 : decode cX13_declaration 182 = .ok (.aload_n 0, 1) := by decide +kernel
theorem dd168_183 : decode cX13_declaration 183 = .ok (.iconst (-1), 1) := by decide +kernel
theorem dd168_184 : decode cX13_declaration 184 = .ok (.putfield 264, 3) := by decide +kernel
theorem dd168_187 : decode cX13_declaration 187 = .ok (.goto 82, 3) := by decide +kernel
theorem dd168_190 : decode cX13_declaration 190 = .ok (.iload_n 2, 1) := by decide +kernel
theorem dd168_191 : decode cX13_declaration 191 = .ok (.bipush 8, 2) := by decide +kernel
theorem dd168_193 : decode cX13_declaration 193 = .ok (.if_icmp .ne 70, 3) := by decide +kernel
theorem dd168_196 : decode cX13_declaration 196 = .ok (.aload_n 1, 1) := by decide +kernel
theorem dd168_197 : decode cX13_declaration 197 = .ok (.getfield 533, 3) := by decide +kernel
theorem dd168_200 : decode cX13_declaration 200 = .ok (.iload_n 3, 1) := by decide +kernel
theorem dd168_201 : decode cX13_declaration 201 = .ok (.aload_n 0, 1) := by decide +kernel
theorem dd168_202 : decode cX13_declaration 202 = .ok (.iconst 1, 1) := by decide +kernel
theorem dd168_203 : decode cX13_declaration 203 = .ok (.bipush 9, 2) := by decide +kernel
theorem dd168_205 : decode cX13_declaration 205 = .ok (.invokevirtual 522, 3) := by decide +kernel
theorem dd168_208 : decode cX13_declaration 208 = .ok (.iastore, 1) := by decide +kernel
theorem dd168_209 : decode cX13_declaration 209 = .ok (.aload_n 1, 1) := by decide +kernel
theorem dd168_210 : decode cX13_declaration 210 = .ok (.getfield 534, 3) := by decide +kernel
theorem dd168_213 : decode cX13_declaration 213 = .ok (.iload_n 3, 1) := by decide +kernel
theorem dd168_214 : decode cX13_declaration 214 = .ok (.aload_n 0, 1) := by decide +kernel
theorem dd168_215 : decode cX13_declaration 215 = .ok (.invokevirtual 223, 3) := by decide +kernel
theorem dd168_218 : decode cX13_declaration 218 = .ok (.ifCond .eq 17, 3) := by decide +kernel
theorem dd168_221 : decode cX13_declaration 221 = .ok (.aload_n 0, 1) := by decide +kernel
theorem dd168_222 : decode cX13_declaration 222 = .ok (.ldc_w 537, 3) := by decide +kernel
theorem dd168_225 : decode cX13_declaration 225 = .ok (.invokevirtual 328, 3) := by decide +kernel
theorem dd168_228 : decode cX13_declaration 228 = .ok (.ifCond .eq 7, 3) := by decide +kernel
theorem dd168_231 : decode cX13_declaration 231 = .ok (.iconst 1, 1) := by decide +kernel
theorem dd168_232 : decode cX13_declaration 232 = .ok (.goto 4, 3) := by decide +kernel
theorem dd168_235 : decode cX13_declaration 235 = .ok (.iconst 0, 1) := by decide +kernel
theorem dd168_236 : decode cX13_declaration 236 = .ok (.bastore, 1) := by decide +kernel
theorem dd168_237 : decode cX13_declaration 237 = .ok (.aload_n 1, 1) := by decide +kernel
theorem dd168_238 : decode cX13_declaration 238 = .ok (.getfield 534, 3) := by decide +kernel
theorem dd168_241 : decode cX13_declaration 241 = .ok (.iload_n 3, 1) := by decide +kernel
theorem dd168_242 : decode cX13_declaration 242 = .ok (.baload, 1) := by decide +kernel
theorem dd168_243 : decode cX13_declaration 243 = .ok (.ifCond .eq 7, 3) := by decide +kernel
theorem dd168_246 : decode cX13_declaration 246 = .ok (.aload_n 0, 1) := by decide +kernel
theorem dd168_247 : decode cX13_declaration 247 = .ok (.invokevirtual 231, 3) := by decide +kernel
theorem dd168_250 : decode cX13_declaration 250 = .ok (.aload_n 1, 1) := by decide +kernel
theorem dd168_251 : decode cX13_declaration 251 = .ok (.getfield 539, 3) := by decide +kernel
theorem dd168_254 : decode cX13_declaration 254 = .ok (.iload_n 3, 1) := by decide +kernel
theorem dd168_255 : decode cX13_declaration 255 = .ok (.aload_n 0, 1) := by decide +kernel
theorem dd168_256 : decode cX13_declaration 256 = .ok (.invokevirtual 367, 3) := by decide +kernel
theorem dd168_259 : decode cX13_declaration 259 = .ok (.iastore, 1) := by decide +kernel
theorem dd168_260 : decode cX13_declaration 260 = .ok (.goto 9, 3) := by decide +kernel
theorem dd168_263 : decode cX13_declaration 263 = .ok (.aload_n 0, 1) := by decide +kernel
theorem dd168_264 : decode cX13_declaration 264 = .ok (.bipush 59, 2) := by decide +kernel
theorem dd168_266 : decode cX13_declaration 266 = .ok (.invokevirtual 341, 3) := by decide +kernel
theorem dd168_269 : decode cX13_declaration 269 = .ok (.return_, 1) := by decide +kernel
def f168_250 (n : Nat) (x1 : Nat) (x3 : Int32) (s : zσ) : Option zσ :=
    yb1 (f181 n 20 s) fun v2 u1 =>
    if zin? x3 8 = true then
    zlet (sI u1 (x1 + 7) (nx x3) v2) fun u3 =>
    some u3
    else none
set_option maxRecDepth 20000 in
theorem f168_250_ok {n d : Nat} {x1 : Nat} {x3 : Int32} {s : zσ} {s2 : zσ} (hd : 225 ≤ d) (hx1 : zck 12 x1 = true) (h : f168_250 n x1 x3 s = some s2) {w : zσ} {fz : Bool} {L : Nat} {xs : Nat → Int32} : zGo (zX fz L xs) d q_168 (250, [(0, .ref 1132), (1, .ref x1), (3, .int x3)], [], zmk w s, 0, 0) (none, zmk w s2, 0, 0) := by
  obtain ⟨d, rfl⟩ : ∃ d0, d = d0 + 1 := ⟨d - 1, by omega⟩
  unfold f168_250 at h
  refine zGo_s (pc' := 251) (st' := [.ref x1]) dd168_250 rfl ?_
  refine mGF (e := (x1 + 7)) dd168_251 rfl (ck12_s hx1).1 (ck12_s hx1).2 rfl (cf12_7 hx1).1 ?_
  refine zGo_s (pc' := 255) (st' := [.int x3, .ref (x1 + 7)]) dd168_254 rfl ?_
  refine zGo_s (pc' := 256) (st' := [.ref 1132, .int x3, .ref (x1 + 7)]) dd168_255 rfl ?_
  obtain ⟨v2, u1, hq, h⟩ := obnd h
  refine zCV1 (As := []) (rest := [.int x3, .ref (x1 + 7)]) (b := 1132) (q' := q_181) dd168_256 rfl rfl (rcv_m rfl rfl (by decide)) rfl rfl rfl (f181_okk20 _ _ _  hq (by omega)) ?_
  obtain ⟨hi, h⟩ := ochk h
  obtain ⟨u3, e_u3, h⟩ := olet h
  refine mIS dd168_259 (cf12_7 hx1).2.1 (cf12_7 hx1).2.2 hi e_u3 ?_
  refine zGo_s (pc' := 269) (st' := []) dd168_260 rfl ?_
  obtain rfl := ore0 h
  exact zGo_ret dd168_269 rfl rfl
def f168_236 (n : Nat) (x1 : Nat) (x3 : Int32) (y0 : Int32) (y1 : Int32) (y2 : Nat) (s : zσ) : Option zσ :=
    if zin? y1 8 = true then
    zlet (sI s y2 (nx y1) (vp_nar .boolean y0)) fun u1 =>
    if zin? x3 8 = true then
    if (u1.1 (x1 + 9) (nx x3)) = (0 : Int32) then
    f168_250 n x1 x3 u1
    else yb0 (f164 n u1) fun u2 =>
    f168_250 n x1 x3 u2
    else none
    else none
set_option maxRecDepth 20000 in
theorem f168_236_ok {n d : Nat} {x1 : Nat} {x3 : Int32} {y0 : Int32} {y1 : Int32} {y2 : Nat} {s : zσ} {s2 : zσ} (hd : 225 ≤ d) (hx1 : zck 12 x1 = true) (hy2c : zms y2 = true) (hy2s : zsh y2 = (1, 2, 8)) (h : f168_236 n x1 x3 y0 y1 y2 s = some s2) {w : zσ} {fz : Bool} {L : Nat} {xs : Nat → Int32} : zGo (zX fz L xs) d q_168 (236, [(0, .ref 1132), (1, .ref x1), (3, .int x3)], [.int y0, .int y1, .ref y2], zmk w s, 0, 0) (none, zmk w s2, 0, 0) := by
  obtain ⟨d, rfl⟩ : ∃ d0, d = d0 + 1 := ⟨d - 1, by omega⟩
  unfold f168_236 at h
  obtain ⟨hi, h⟩ := ochk h
  obtain ⟨u1, e_u1, h⟩ := olet h
  refine mBS dd168_236 hy2c hy2s rfl hi e_u1 ?_
  refine zGo_s (pc' := 238) (st' := [.ref x1]) dd168_237 rfl ?_
  refine mGF (e := (x1 + 9)) dd168_238 rfl (ck12_s hx1).1 (ck12_s hx1).2 rfl (cf12_9 hx1).1 ?_
  refine zGo_s (pc' := 242) (st' := [.int x3, .ref (x1 + 9)]) dd168_241 rfl ?_
  obtain ⟨hi, h⟩ := ochk h
  refine mBA dd168_242 (cf12_9 hx1).2.1 (cf12_9 hx1).2.2 rfl hi ?_
  rcases oite h with ⟨hc, h⟩ | ⟨hc, h⟩
  · refine zUT dd168_243 rfl (kEqT hc) ?_
    exact f168_250_ok hd hx1 h
  · refine zUF dd168_243 (kEqF hc) ?_
    refine zGo_s (pc' := 247) (st' := [.ref 1132]) dd168_246 rfl ?_
    obtain ⟨u2, hq, h⟩ := obn0 h
    refine zCV0 (As := []) (rest := []) (b := 1132) (q' := q_164) dd168_247 rfl rfl (rcv_m rfl rfl (by decide)) rfl rfl rfl (f164_ok (d := d) (by omega)  hq) ?_
    exact f168_250_ok hd hx1 h
def f168_235 (n : Nat) (x1 : Nat) (x3 : Int32) (y0 : Int32) (y1 : Nat) (s : zσ) : Option zσ :=
    f168_236 n x1 x3 (0 : Int32) y0 y1 s
set_option maxRecDepth 20000 in
theorem f168_235_ok {n d : Nat} {x1 : Nat} {x3 : Int32} {y0 : Int32} {y1 : Nat} {s : zσ} {s2 : zσ} (hd : 225 ≤ d) (hx1 : zck 12 x1 = true) (hy1c : zms y1 = true) (hy1s : zsh y1 = (1, 2, 8)) (h : f168_235 n x1 x3 y0 y1 s = some s2) {w : zσ} {fz : Bool} {L : Nat} {xs : Nat → Int32} : zGo (zX fz L xs) d q_168 (235, [(0, .ref 1132), (1, .ref x1), (3, .int x3)], [.int y0, .ref y1], zmk w s, 0, 0) (none, zmk w s2, 0, 0) := by
  obtain ⟨d, rfl⟩ : ∃ d0, d = d0 + 1 := ⟨d - 1, by omega⟩
  unfold f168_235 at h
  refine zGo_s (pc' := 236) (st' := [.int (0 : Int32), .int y0, .ref y1]) dd168_235 rfl ?_
  exact f168_236_ok hd hx1 hy1c hy1s h
def f168_108 (n : Nat) (s : zσ) : Option zσ :=
    yb0 (f179 n (59 : Int32) s) fun u1 =>
    some u1
set_option maxRecDepth 20000 in
theorem f168_108_ok {n d : Nat} {s : zσ} {s2 : zσ} (hd : 225 ≤ d) (h : f168_108 n s = some s2) {w : zσ} {fz : Bool} {L : Nat} {xs : Nat → Int32} : zGo (zX fz L xs) d q_168 (108, [(0, .ref 1132)], [], zmk w s, 0, 0) (none, zmk w s2, 0, 0) := by
  obtain ⟨d, rfl⟩ : ∃ d0, d = d0 + 1 := ⟨d - 1, by omega⟩
  unfold f168_108 at h
  refine zGo_s (pc' := 109) (st' := [.ref 1132]) dd168_108 rfl ?_
  refine zGo_s (pc' := 111) (st' := [.int (59 : Int32), .ref 1132]) dd168_109 rfl ?_
  obtain ⟨u1, hq, h⟩ := obn0 h
  refine zCV0 (As := [.int (59 : Int32)]) (rest := []) (b := 1132) (q' := q_179) dd168_111 rfl rfl (rcv_m rfl rfl (by decide)) rfl rfl rfl (f179_ok (d := d) (by omega)  hq) ?_
  refine zGo_s (pc' := 269) (st' := []) dd168_114 rfl ?_
  obtain rfl := ore0 h
  exact zGo_ret dd168_269 rfl rfl
def f168_107 (n : Nat) (y0 : Int32) (y1 : Int32) (y2 : Nat) (s : zσ) : Option zσ :=
    if zin? y1 8 = true then
    zlet (sI s y2 (nx y1) y0) fun u1 =>
    f168_108 n u1
    else none
set_option maxRecDepth 20000 in
theorem f168_107_ok {n d : Nat} {y0 : Int32} {y1 : Int32} {y2 : Nat} {s : zσ} {s2 : zσ} (hd : 225 ≤ d) (hy2c : zms y2 = true) (hy2s : zsh y2 = (1, 0, 8)) (h : f168_107 n y0 y1 y2 s = some s2) {w : zσ} {fz : Bool} {L : Nat} {xs : Nat → Int32} : zGo (zX fz L xs) d q_168 (107, [(0, .ref 1132)], [.int y0, .int y1, .ref y2], zmk w s, 0, 0) (none, zmk w s2, 0, 0) := by
  obtain ⟨d, rfl⟩ : ∃ d0, d = d0 + 1 := ⟨d - 1, by omega⟩
  unfold f168_107 at h
  obtain ⟨hi, h⟩ := ochk h
  obtain ⟨u1, e_u1, h⟩ := olet h
  refine mIS dd168_107 hy2c hy2s hi e_u1 ?_
  exact f168_108_ok hd h
def f168_79 (n : Nat) (x1 : Nat) (x3 : Int32) (x4 : Int32) (s : zσ) : Option zσ :=
    yb1 (f178 n (0 : Int32) (2147483647 : Int32) s) fun v2 u1 =>
    if x4 = (0 : Int32) then
    f168_107 n v2 x3 (x1 + 5) u1
    else f168_107 n (-v2) x3 (x1 + 5) u1
set_option maxRecDepth 20000 in
theorem f168_79_ok {n d : Nat} {x1 : Nat} {x3 : Int32} {x4 : Int32} {s : zσ} {s2 : zσ} (hd : 225 ≤ d) (hx1 : zck 12 x1 = true) (h : f168_79 n x1 x3 x4 s = some s2) {w : zσ} {fz : Bool} {L : Nat} {xs : Nat → Int32} : zGo (zX fz L xs) d q_168 (79, [(0, .ref 1132), (1, .ref x1), (3, .int x3), (4, .int x4)], [], zmk w s, 0, 0) (none, zmk w s2, 0, 0) := by
  obtain ⟨d, rfl⟩ : ∃ d0, d = d0 + 1 := ⟨d - 1, by omega⟩
  unfold f168_79 at h
  refine zGo_s (pc' := 80) (st' := [.ref 1132]) dd168_79 rfl ?_
  refine zGo_s (pc' := 81) (st' := [.int (0 : Int32), .ref 1132]) dd168_80 rfl ?_
  refine zGo_s (pc' := 84) (st' := [.int (2147483647 : Int32), .int (0 : Int32), .ref 1132]) dd168_81 rfl ?_
  obtain ⟨v2, u1, hq, h⟩ := obnd h
  refine zCV1 (As := [.int (0 : Int32), .int (2147483647 : Int32)]) (rest := []) (b := 1132) (q' := q_178) dd168_84 rfl rfl (rcv_m rfl rfl (by decide)) rfl rfl rfl (f178_ok (d := d) (by omega)  hq) ?_
  refine zGo_s (pc' := 89) (st' := []) (lv' := [(5, .int v2), (0, .ref 1132), (1, .ref x1), (3, .int x3), (4, .int x4)]) dd168_87 rfl ?_
  refine zGo_s (pc' := 90) (st' := [.ref x1]) dd168_89 rfl ?_
  refine mGF (e := (x1 + 5)) dd168_90 rfl (ck12_s hx1).1 (ck12_s hx1).2 rfl (cf12_5 hx1).1 ?_
  refine zGo_s (pc' := 94) (st' := [.int x3, .ref (x1 + 5)]) dd168_93 rfl ?_
  refine zGo_s (pc' := 96) (st' := [.int x4, .int x3, .ref (x1 + 5)]) dd168_94 rfl ?_
  rcases oite h with ⟨hc, h⟩ | ⟨hc, h⟩
  · refine zUT dd168_96 rfl (kEqT hc) ?_
    refine zGo_s (pc' := 107) (st' := [.int v2, .int x3, .ref (x1 + 5)]) dd168_105 rfl ?_
    exact zGo_lv (lv := [(0, .ref 1132)]) ⟨by simp, by simp, by simp⟩ (f168_107_ok hd (cf12_5 hx1).2.1 (cf12_5 hx1).2.2 h)
  · refine zUF dd168_96 (kEqF hc) ?_
    refine zGo_s (pc' := 101) (st' := [.int v2, .int x3, .ref (x1 + 5)]) dd168_99 rfl ?_
    refine zGo_s (pc' := 102) (st' := [.int (-v2), .int x3, .ref (x1 + 5)]) dd168_101 rfl ?_
    refine zGo_s (pc' := 107) (st' := [.int (-v2), .int x3, .ref (x1 + 5)]) dd168_102 rfl ?_
    exact zGo_lv (lv := [(0, .ref 1132)]) ⟨by simp, by simp, by simp⟩ (f168_107_ok hd (cf12_5 hx1).2.1 (cf12_5 hx1).2.2 h)
def f168 (n : Nat) (s : zσ) : Option zσ :=
    zrd 12 (s.2.2 1132 12) fun a1 =>
    yb1 (f169 n s) fun v3 u2 =>
    if v3 = (-1 : Int32) then
    yb0 (f172 n u2) fun u36 =>
    some u36
    else yb0 (f164 n u2) fun u4 =>
    yb1 (f174 n v3 u4) fun v6 u5 =>
    yb1 (f167 n u5) fun v8 u7 =>
    if v8 = (0 : Int32) then
    some u7
    else if v3 = (0 : Int32) then
    if zin? v6 8 = true then
    zlet (sI u7 (a1 + 5) (nx v6) (0 : Int32)) fun u29 =>
    yb1 (f177 n (61 : Int32) u29) fun v31 u30 =>
    if v31 = (0 : Int32) then
    f168_108 n u30
    else yb0 (f164 n u30) fun u32 =>
    yb1 (f177 n (45 : Int32) u32) fun v34 u33 =>
    if v34 = (0 : Int32) then
    f168_79 n a1 v6 v34 u33
    else yb0 (f164 n u33) fun u35 =>
    f168_79 n a1 v6 v34 u35
    else none
    else if v3 = (2 : Int32) then
    yb1 (f178 n (0 : Int32) (9 : Int32) u7) fun v26 u25 =>
    if zin? v6 4 = true then
    zlet (sI u25 (a1 + 6) (nx v6) v26) fun u27 =>
    yb0 (f179 n (59 : Int32) u27) fun u28 =>
    some u28
    else none
    else if v3 = (7 : Int32) then
    yb0 (f179 n (40 : Int32) u7) fun u17 =>
    yb0 (f180 n v6 u17) fun u18 =>
    yb0 (f179 n (41 : Int32) u18) fun u19 =>
    zlet (sI u19 1132 15 v6) fun u20 =>
    yb1 (f181 n 20 u20) fun v22 u21 =>
    if zin? v6 6 = true then
    zlet (sI u21 (a1 + 10) (nx v6) v22) fun u23 =>
    zlet (sI u23 1132 15 (-1 : Int32)) fun u24 =>
    some u24
    else none
    else if v3 = (8 : Int32) then
    yb1 (f178 n (1 : Int32) (9 : Int32) u7) fun v11 u10 =>
    if zin? v6 8 = true then
    zlet (sI u10 (a1 + 8) (nx v6) v11) fun u12 =>
    yb1 (f167 n u12) fun v14 u13 =>
    if v14 = (0 : Int32) then
    f168_235 n a1 v6 v6 (a1 + 9) u13
    else yb1 (f170 n 50 u13) fun v16 u15 =>
    if v16 = (0 : Int32) then
    f168_235 n a1 v6 v6 (a1 + 9) u15
    else f168_236 n a1 v6 (1 : Int32) v6 (a1 + 9) u15
    else none
    else yb0 (f179 n (59 : Int32) u7) fun u9 =>
    some u9
set_option maxRecDepth 20000 in
theorem f168_ok {n d : Nat} {s : zσ} {s2 : zσ} (hd : 225 ≤ d) (h : f168 n s = some s2) {w : zσ} {fz : Bool} {L : Nat} {xs : Nat → Int32} : zGo (zX fz L xs) d q_168 (0, [(0, .ref 1132)], [], zmk w s, 0, 0) (none, zmk w s2, 0, 0) := by
  obtain ⟨d, rfl⟩ : ∃ d0, d = d0 + 1 := ⟨d - 1, by omega⟩
  unfold f168 at h
  refine zGo_s (pc' := 1) (st' := [.ref 1132]) dd168_0 rfl ?_
  obtain ⟨a1, e_a1, c_a1, h⟩ := ordd h
  refine mGR dd168_1 rfl rfl rfl rfl e_a1 ?_
  refine zGo_s (pc' := 5) (st' := []) (lv' := [(1, .ref a1), (0, .ref 1132)]) dd168_4 rfl ?_
  refine zGo_s (pc' := 6) (st' := [.ref 1132]) dd168_5 rfl ?_
  obtain ⟨v3, u2, hq, h⟩ := obnd h
  refine zCV1 (As := []) (rest := []) (b := 1132) (q' := q_169) dd168_6 rfl rfl (rcv_m rfl rfl (by decide)) rfl rfl rfl (f169_ok (d := d) (by omega)  hq) ?_
  refine zGo_s (pc' := 10) (st' := []) (lv' := [(2, .int v3), (1, .ref a1), (0, .ref 1132)]) dd168_9 rfl ?_
  refine zGo_s (pc' := 11) (st' := [.int v3]) dd168_10 rfl ?_
  refine zGo_s (pc' := 12) (st' := [.int (-1 : Int32), .int v3]) dd168_11 rfl ?_
  rcases oite h with ⟨hc, h⟩ | ⟨hc, h⟩
  · refine zIF dd168_12 (kNeF hc) ?_
    refine zGo_s (pc' := 16) (st' := [.ref 1132]) dd168_15 rfl ?_
    obtain ⟨u36, hq, h⟩ := obn0 h
    refine zCV0 (As := []) (rest := []) (b := 1132) (q' := q_172) dd168_16 rfl rfl (rcv_m rfl rfl (by decide)) rfl rfl rfl (f172_ok (d := d) (by omega)  hq) ?_
    obtain rfl := ore0 h
    exact zGo_ret dd168_19 rfl rfl
  · refine zIT dd168_12 rfl (kNeT hc) ?_
    refine zGo_s (pc' := 21) (st' := [.ref 1132]) dd168_20 rfl ?_
    obtain ⟨u4, hq, h⟩ := obn0 h
    refine zCV0 (As := []) (rest := []) (b := 1132) (q' := q_164) dd168_21 rfl rfl (rcv_m rfl rfl (by decide)) rfl rfl rfl (f164_ok (d := d) (by omega)  hq) ?_
    refine zGo_s (pc' := 25) (st' := [.ref 1132]) dd168_24 rfl ?_
    refine zGo_s (pc' := 26) (st' := [.int v3, .ref 1132]) dd168_25 rfl ?_
    obtain ⟨v6, u5, hq, h⟩ := obnd h
    refine zCV1 (As := [.int v3]) (rest := []) (b := 1132) (q' := q_174) dd168_26 rfl rfl (rcv_m rfl rfl (by decide)) rfl rfl rfl (f174_ok (d := d) (by omega)  hq) ?_
    refine zGo_s (pc' := 30) (st' := []) (lv' := [(3, .int v6), (2, .int v3), (1, .ref a1), (0, .ref 1132)]) dd168_29 rfl ?_
    refine zGo_s (pc' := 31) (st' := [.ref 1132]) dd168_30 rfl ?_
    obtain ⟨v8, u7, hq, h⟩ := obnd h
    refine zCV1 (As := []) (rest := []) (b := 1132) (q' := q_167) dd168_31 rfl rfl (rcv_m rfl rfl (by decide)) rfl rfl rfl (f167_ok (d := d) (by omega)  hq) ?_
    rcases oite h with ⟨hc, h⟩ | ⟨hc, h⟩
    · refine zUF dd168_34 (kNeF hc) ?_
      obtain rfl := ore0 h
      exact zGo_ret dd168_37 rfl rfl
    · refine zUT dd168_34 rfl (kNeT hc) ?_
      refine zGo_s (pc' := 39) (st' := [.int v3]) dd168_38 rfl ?_
      rcases oite h with ⟨hc, h⟩ | ⟨hc, h⟩
      · refine zUF dd168_39 (kNeF hc) ?_
        refine zGo_s (pc' := 43) (st' := [.ref a1]) dd168_42 rfl ?_
        refine mGF (e := (a1 + 5)) dd168_43 rfl (ck12_s c_a1).1 (ck12_s c_a1).2 rfl (cf12_5 c_a1).1 ?_
        refine zGo_s (pc' := 47) (st' := [.int v6, .ref (a1 + 5)]) dd168_46 rfl ?_
        refine zGo_s (pc' := 48) (st' := [.int (0 : Int32), .int v6, .ref (a1 + 5)]) dd168_47 rfl ?_
        obtain ⟨hi, h⟩ := ochk h
        obtain ⟨u29, e_u29, h⟩ := olet h
        refine mIS dd168_48 (cf12_5 c_a1).2.1 (cf12_5 c_a1).2.2 hi e_u29 ?_
        refine zGo_s (pc' := 50) (st' := [.ref 1132]) dd168_49 rfl ?_
        refine zGo_s (pc' := 52) (st' := [.int (61 : Int32), .ref 1132]) dd168_50 rfl ?_
        obtain ⟨v31, u30, hq, h⟩ := obnd h
        refine zCV1 (As := [.int (61 : Int32)]) (rest := []) (b := 1132) (q' := q_177) dd168_52 rfl rfl (rcv_m rfl rfl (by decide)) rfl rfl rfl (f177_ok (d := d) (by omega)  hq) ?_
        rcases oite h with ⟨hc, h⟩ | ⟨hc, h⟩
        · refine zUT dd168_55 rfl (kEqT hc) ?_
          exact zGo_lv (lv := [(0, .ref 1132)]) ⟨by simp, by simp, by simp⟩ (f168_108_ok hd h)
        · refine zUF dd168_55 (kEqF hc) ?_
          refine zGo_s (pc' := 59) (st' := [.ref 1132]) dd168_58 rfl ?_
          obtain ⟨u32, hq, h⟩ := obn0 h
          refine zCV0 (As := []) (rest := []) (b := 1132) (q' := q_164) dd168_59 rfl rfl (rcv_m rfl rfl (by decide)) rfl rfl rfl (f164_ok (d := d) (by omega)  hq) ?_
          refine zGo_s (pc' := 63) (st' := [.ref 1132]) dd168_62 rfl ?_
          refine zGo_s (pc' := 65) (st' := [.int (45 : Int32), .ref 1132]) dd168_63 rfl ?_
          obtain ⟨v34, u33, hq, h⟩ := obnd h
          refine zCV1 (As := [.int (45 : Int32)]) (rest := []) (b := 1132) (q' := q_177) dd168_65 rfl rfl (rcv_m rfl rfl (by decide)) rfl rfl rfl (f177_ok (d := d) (by omega)  hq) ?_
          refine zGo_s (pc' := 70) (st' := []) (lv' := [(4, .int v34), (3, .int v6), (2, .int v3), (1, .ref a1), (0, .ref 1132)]) dd168_68 rfl ?_
          refine zGo_s (pc' := 72) (st' := [.int v34]) dd168_70 rfl ?_
          rcases oite h with ⟨hc, h⟩ | ⟨hc, h⟩
          · refine zUT dd168_72 rfl (kEqT hc) ?_
            exact zGo_lv (lv := [(0, .ref 1132), (1, .ref a1), (3, .int v6), (4, .int v34)]) ⟨by simp, by simp, by simp⟩ (f168_79_ok hd c_a1 h)
          · refine zUF dd168_72 (kEqF hc) ?_
            refine zGo_s (pc' := 76) (st' := [.ref 1132]) dd168_75 rfl ?_
            obtain ⟨u35, hq, h⟩ := obn0 h
            refine zCV0 (As := []) (rest := []) (b := 1132) (q' := q_164) dd168_76 rfl rfl (rcv_m rfl rfl (by decide)) rfl rfl rfl (f164_ok (d := d) (by omega)  hq) ?_
            exact zGo_lv (lv := [(0, .ref 1132), (1, .ref a1), (3, .int v6), (4, .int v34)]) ⟨by simp, by simp, by simp⟩ (f168_79_ok hd c_a1 h)
      · refine zUT dd168_39 rfl (kNeT hc) ?_
        refine zGo_s (pc' := 118) (st' := [.int v3]) dd168_117 rfl ?_
        refine zGo_s (pc' := 119) (st' := [.int (2 : Int32), .int v3]) dd168_118 rfl ?_
        rcases oite h with ⟨hc, h⟩ | ⟨hc, h⟩
        · refine zIF dd168_119 (kNeF hc) ?_
          refine zGo_s (pc' := 123) (st' := [.ref a1]) dd168_122 rfl ?_
          refine mGF (e := (a1 + 6)) dd168_123 rfl (ck12_s c_a1).1 (ck12_s c_a1).2 rfl (cf12_6 c_a1).1 ?_
          refine zGo_s (pc' := 127) (st' := [.int v6, .ref (a1 + 6)]) dd168_126 rfl ?_
          refine zGo_s (pc' := 128) (st' := [.ref 1132, .int v6, .ref (a1 + 6)]) dd168_127 rfl ?_
          refine zGo_s (pc' := 129) (st' := [.int (0 : Int32), .ref 1132, .int v6, .ref (a1 + 6)]) dd168_128 rfl ?_
          refine zGo_s (pc' := 131) (st' := [.int (9 : Int32), .int (0 : Int32), .ref 1132, .int v6, .ref (a1 + 6)]) dd168_129 rfl ?_
          obtain ⟨v26, u25, hq, h⟩ := obnd h
          refine zCV1 (As := [.int (0 : Int32), .int (9 : Int32)]) (rest := [.int v6, .ref (a1 + 6)]) (b := 1132) (q' := q_178) dd168_131 rfl rfl (rcv_m rfl rfl (by decide)) rfl rfl rfl (f178_ok (d := d) (by omega)  hq) ?_
          obtain ⟨hi, h⟩ := ochk h
          obtain ⟨u27, e_u27, h⟩ := olet h
          refine mIS dd168_134 (cf12_6 c_a1).2.1 (cf12_6 c_a1).2.2 hi e_u27 ?_
          refine zGo_s (pc' := 136) (st' := [.ref 1132]) dd168_135 rfl ?_
          refine zGo_s (pc' := 138) (st' := [.int (59 : Int32), .ref 1132]) dd168_136 rfl ?_
          obtain ⟨u28, hq, h⟩ := obn0 h
          refine zCV0 (As := [.int (59 : Int32)]) (rest := []) (b := 1132) (q' := q_179) dd168_138 rfl rfl (rcv_m rfl rfl (by decide)) rfl rfl rfl (f179_ok (d := d) (by omega)  hq) ?_
          refine zGo_s (pc' := 269) (st' := []) dd168_141 rfl ?_
          obtain rfl := ore0 h
          exact zGo_ret dd168_269 rfl rfl
        · refine zIT dd168_119 rfl (kNeT hc) ?_
          refine zGo_s (pc' := 145) (st' := [.int v3]) dd168_144 rfl ?_
          refine zGo_s (pc' := 147) (st' := [.int (7 : Int32), .int v3]) dd168_145 rfl ?_
          rcases oite h with ⟨hc, h⟩ | ⟨hc, h⟩
          · refine zIF dd168_147 (kNeF hc) ?_
            refine zGo_s (pc' := 151) (st' := [.ref 1132]) dd168_150 rfl ?_
            refine zGo_s (pc' := 153) (st' := [.int (40 : Int32), .ref 1132]) dd168_151 rfl ?_
            obtain ⟨u17, hq, h⟩ := obn0 h
            refine zCV0 (As := [.int (40 : Int32)]) (rest := []) (b := 1132) (q' := q_179) dd168_153 rfl rfl (rcv_m rfl rfl (by decide)) rfl rfl rfl (f179_ok (d := d) (by omega)  hq) ?_
            refine zGo_s (pc' := 157) (st' := [.ref 1132]) dd168_156 rfl ?_
            refine zGo_s (pc' := 158) (st' := [.int v6, .ref 1132]) dd168_157 rfl ?_
            obtain ⟨u18, hq, h⟩ := obn0 h
            refine zCV0 (As := [.int v6]) (rest := []) (b := 1132) (q' := q_180) dd168_158 rfl rfl (rcv_m rfl rfl (by decide)) rfl rfl rfl (f180_ok (d := d) (by omega)  hq) ?_
            refine zGo_s (pc' := 162) (st' := [.ref 1132]) dd168_161 rfl ?_
            refine zGo_s (pc' := 164) (st' := [.int (41 : Int32), .ref 1132]) dd168_162 rfl ?_
            obtain ⟨u19, hq, h⟩ := obn0 h
            refine zCV0 (As := [.int (41 : Int32)]) (rest := []) (b := 1132) (q' := q_179) dd168_164 rfl rfl (rcv_m rfl rfl (by decide)) rfl rfl rfl (f179_ok (d := d) (by omega)  hq) ?_
            refine zGo_s (pc' := 168) (st' := [.ref 1132]) dd168_167 rfl ?_
            refine zGo_s (pc' := 169) (st' := [.int v6, .ref 1132]) dd168_168 rfl ?_
            obtain ⟨u20, e_u20, h⟩ := olet h
            refine mPI dd168_169 rfl rfl rfl rfl rfl rfl e_u20 ?_
            refine zGo_s (pc' := 173) (st' := [.ref a1]) dd168_172 rfl ?_
            refine mGF (e := (a1 + 10)) dd168_173 rfl (ck12_s c_a1).1 (ck12_s c_a1).2 rfl (cf12_10 c_a1).1 ?_
            refine zGo_s (pc' := 177) (st' := [.int v6, .ref (a1 + 10)]) dd168_176 rfl ?_
            refine zGo_s (pc' := 178) (st' := [.ref 1132, .int v6, .ref (a1 + 10)]) dd168_177 rfl ?_
            obtain ⟨v22, u21, hq, h⟩ := obnd h
            refine zCV1 (As := []) (rest := [.int v6, .ref (a1 + 10)]) (b := 1132) (q' := q_181) dd168_178 rfl rfl (rcv_m rfl rfl (by decide)) rfl rfl rfl (f181_okk20 _ _ _  hq (by omega)) ?_
            obtain ⟨hi, h⟩ := ochk h
            obtain ⟨u23, e_u23, h⟩ := olet h
            refine mIS dd168_181 (cf12_10 c_a1).2.1 (cf12_10 c_a1).2.2 hi e_u23 ?_
            refine zGo_s (pc' := 183) (st' := [.ref 1132]) dd168_182 rfl ?_
            refine zGo_s (pc' := 184) (st' := [.int (-1 : Int32), .ref 1132]) dd168_183 rfl ?_
            obtain ⟨u24, e_u24, h⟩ := olet h
            refine mPI dd168_184 rfl rfl rfl rfl rfl rfl e_u24 ?_
            refine zGo_s (pc' := 269) (st' := []) dd168_187 rfl ?_
            obtain rfl := ore0 h
            exact zGo_ret dd168_269 rfl rfl
          · refine zIT dd168_147 rfl (kNeT hc) ?_
            refine zGo_s (pc' := 191) (st' := [.int v3]) dd168_190 rfl ?_
            refine zGo_s (pc' := 193) (st' := [.int (8 : Int32), .int v3]) dd168_191 rfl ?_
            rcases oite h with ⟨hc, h⟩ | ⟨hc, h⟩
            · refine zIF dd168_193 (kNeF hc) ?_
              refine zGo_s (pc' := 197) (st' := [.ref a1]) dd168_196 rfl ?_
              refine mGF (e := (a1 + 8)) dd168_197 rfl (ck12_s c_a1).1 (ck12_s c_a1).2 rfl (cf12_8 c_a1).1 ?_
              refine zGo_s (pc' := 201) (st' := [.int v6, .ref (a1 + 8)]) dd168_200 rfl ?_
              refine zGo_s (pc' := 202) (st' := [.ref 1132, .int v6, .ref (a1 + 8)]) dd168_201 rfl ?_
              refine zGo_s (pc' := 203) (st' := [.int (1 : Int32), .ref 1132, .int v6, .ref (a1 + 8)]) dd168_202 rfl ?_
              refine zGo_s (pc' := 205) (st' := [.int (9 : Int32), .int (1 : Int32), .ref 1132, .int v6, .ref (a1 + 8)]) dd168_203 rfl ?_
              obtain ⟨v11, u10, hq, h⟩ := obnd h
              refine zCV1 (As := [.int (1 : Int32), .int (9 : Int32)]) (rest := [.int v6, .ref (a1 + 8)]) (b := 1132) (q' := q_178) dd168_205 rfl rfl (rcv_m rfl rfl (by decide)) rfl rfl rfl (f178_ok (d := d) (by omega)  hq) ?_
              obtain ⟨hi, h⟩ := ochk h
              obtain ⟨u12, e_u12, h⟩ := olet h
              refine mIS dd168_208 (cf12_8 c_a1).2.1 (cf12_8 c_a1).2.2 hi e_u12 ?_
              refine zGo_s (pc' := 210) (st' := [.ref a1]) dd168_209 rfl ?_
              refine mGF (e := (a1 + 9)) dd168_210 rfl (ck12_s c_a1).1 (ck12_s c_a1).2 rfl (cf12_9 c_a1).1 ?_
              refine zGo_s (pc' := 214) (st' := [.int v6, .ref (a1 + 9)]) dd168_213 rfl ?_
              refine zGo_s (pc' := 215) (st' := [.ref 1132, .int v6, .ref (a1 + 9)]) dd168_214 rfl ?_
              obtain ⟨v14, u13, hq, h⟩ := obnd h
              refine zCV1 (As := []) (rest := [.int v6, .ref (a1 + 9)]) (b := 1132) (q' := q_167) dd168_215 rfl rfl (rcv_m rfl rfl (by decide)) rfl rfl rfl (f167_ok (d := d) (by omega)  hq) ?_
              rcases oite h with ⟨hc, h⟩ | ⟨hc, h⟩
              · refine zUT dd168_218 rfl (kEqT hc) ?_
                exact zGo_lv (lv := [(0, .ref 1132), (1, .ref a1), (3, .int v6)]) ⟨by simp, by simp, by simp⟩ (f168_235_ok hd c_a1 (cf12_9 c_a1).2.1 (cf12_9 c_a1).2.2 h)
              · refine zUF dd168_218 (kEqF hc) ?_
                refine zGo_s (pc' := 222) (st' := [.ref 1132, .int v6, .ref (a1 + 9)]) dd168_221 rfl ?_
                refine zGo_s (pc' := 225) (st' := [.ref 50, .ref 1132, .int v6, .ref (a1 + 9)]) dd168_222 rfl ?_
                obtain ⟨v16, u15, hq, h⟩ := obnd h
                refine zCV1 (As := [.ref 50]) (rest := [.int v6, .ref (a1 + 9)]) (b := 1132) (q' := q_170) dd168_225 rfl rfl (rcv_m rfl rfl (by decide)) rfl rfl rfl (f170_ok (d := d) (by omega) (by decide) hq) ?_
                rcases oite h with ⟨hc, h⟩ | ⟨hc, h⟩
                · refine zUT dd168_228 rfl (kEqT hc) ?_
                  exact zGo_lv (lv := [(0, .ref 1132), (1, .ref a1), (3, .int v6)]) ⟨by simp, by simp, by simp⟩ (f168_235_ok hd c_a1 (cf12_9 c_a1).2.1 (cf12_9 c_a1).2.2 h)
                · refine zUF dd168_228 (kEqF hc) ?_
                  refine zGo_s (pc' := 232) (st' := [.int (1 : Int32), .int v6, .ref (a1 + 9)]) dd168_231 rfl ?_
                  refine zGo_s (pc' := 236) (st' := [.int (1 : Int32), .int v6, .ref (a1 + 9)]) dd168_232 rfl ?_
                  exact zGo_lv (lv := [(0, .ref 1132), (1, .ref a1), (3, .int v6)]) ⟨by simp, by simp, by simp⟩ (f168_236_ok hd c_a1 (cf12_9 c_a1).2.1 (cf12_9 c_a1).2.2 h)
            · refine zIT dd168_193 rfl (kNeT hc) ?_
              refine zGo_s (pc' := 264) (st' := [.ref 1132]) dd168_263 rfl ?_
              refine zGo_s (pc' := 266) (st' := [.int (59 : Int32), .ref 1132]) dd168_264 rfl ?_
              obtain ⟨u9, hq, h⟩ := obn0 h
              refine zCV0 (As := [.int (59 : Int32)]) (rest := []) (b := 1132) (q' := q_179) dd168_266 rfl rfl (rcv_m rfl rfl (by decide)) rfl rfl rfl (f179_ok (d := d) (by omega)  hq) ?_
              obtain rfl := ore0 h
              exact zGo_ret dd168_269 rfl rfl
