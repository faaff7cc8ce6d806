/-! PH$Machine.close(LPH$Task;II)V -/
theorem dd130_0 : decode cX3_close 0 = .ok (.iload_n 2, 1) := by decide +kernel
theorem dd130_1 : decode cX3_close 1 = .ok (.istore 4, 2) := by decide +kernel
theorem dd130_3 : decode cX3_close 3 = .ok (.iload_n 3, 1) := by decide +kernel
theorem dd130_4 : decode cX3_close 4 = .ok (.istore 5, 2) := by decide +kernel
theorem dd130_6 : decode cX3_close 6 = .ok (.iconst 0, 1) := by decide +kernel
theorem dd130_7 : decode cX3_close 7 = .ok (.istore 6, 2) := by decide +kernel
theorem dd130_9 : decode cX3_close 9 = .ok (.iload 6, 2) := by decide +kernel
theorem dd130_11 : decode cX3_close 11 = .ok (.sipush 1000, 3) := by decide +kernel
theorem dd130_14 : decode cX3_close 14 = .ok (.if_icmp .ge 181, 3) := by decide +kernel
theorem dd130_17 : decode cX3_close 17 = .ok (.aload_n 0, 1) := by decide +kernel
theorem dd130_18 : decode cX3_close 18 = .ok (.getfield 63, 3) := by decide +kernel
theorem dd130_21 : decode cX3_close 21 = .ok (.getfield 416, 3) := by decide +kernel
theorem dd130_24 : decode cX3_close 24 = .ok (.iload 4, 2) := by decide +kernel
theorem dd130_26 : decode cX3_close 26 = .ok (.iaload, 1) := by decide +kernel
theorem dd130_27 : decode cX3_close 27 = .ok (.istore 7, 2) := by decide +kernel
theorem dd130_29 : decode cX3_close 29 = .ok (.aload_n 0, 1) := by decide +kernel
theorem dd130_30 : decode cX3_close 30 = .ok (.getfield 63, 3) := by decide +kernel
theorem dd130_33 : decode cX3_close 33 = .ok (.getfield 419, 3) := by decide +kernel
theorem dd130_36 : decode cX3_close 36 = .ok (.iload 4, 2) := by decide +kernel
theorem dd130_38 : decode cX3_close 38 = .ok (.iaload, 1) := by decide +kernel
theorem dd130_39 : decode cX3_close 39 = .ok (.istore 8, 2) := by decide +kernel
theorem dd130_41 : decode cX3_close 41 = .ok (.iload 8, 2) := by decide +kernel
theorem dd130_43 : decode cX3_close 43 = .ok (.ifCond .ne 9, 3) := by decide +kernel
theorem dd130_46 : decode cX3_close 46 = .ok (.aload_n 0, 1) := by decide +kernel
theorem dd130_47 : decode cX3_close 47 = .ok (.aload_n 1, 1) := by decide +kernel
theorem dd130_48 : decode cX3_close 48 = .ok (.invokevirtual 323, 3) := by decide +kernel
theorem dd130_51 : decode cX3_close 51 = .ok (.return_, 1) := by decide +kernel
theorem dd130_52 : decode cX3_close 52 = .ok (.iload 8, 2) := by decide +kernel
theorem dd130_54 : decode cX3_close 54 = .ok (.iconst 3, 1) := by decide +kernel
theorem dd130_55 : decode cX3_close 55 = .ok (.if_icmp .ne 15, 3) := by decide +kernel
theorem dd130_58 : decode cX3_close 58 = .ok (.aload_n 1, 1) := by decide +kernel
theorem dd130_59 : decode cX3_close 59 = .ok (.getfield 183, 3) := by decide +kernel
theorem dd130_62 : decode cX3_close 62 = .ok (.aload_n 1, 1) := by decide +kernel
theorem dd130_63 : decode cX3_close 63 = .ok (.getfield 186, 3) := by decide +kernel
theorem dd130_66 : decode cX3_close 66 = .ok (.iload 7, 2) := by decide +kernel
theorem dd130_68 : decode cX3_close 68 = .ok (.iastore, 1) := by decide +kernel
theorem dd130_69 : decode cX3_close 69 = .ok (.return_, 1) := by decide +kernel
theorem dd130_70 : decode cX3_close 70 = .ok (.iload 8, 2) := by decide +kernel
theorem dd130_72 : decode cX3_close 72 = .ok (.iconst 4, 1) := by decide +kernel
theorem dd130_73 : decode cX3_close 73 = .ok (.if_icmp .ne 10, 3) := by decide +kernel
theorem dd130_76 : decode cX3_close 76 = .ok (.iload 7, 2) := by decide +kernel
theorem dd130_78 : decode cX3_close 78 = .ok (.istore 4, 2) := by decide +kernel
theorem dd130_80 : decode cX3_close 80 = .ok (.goto 109, 3) := by decide +kernel
theorem dd130_83 : decode cX3_close 83 = .ok (.iload 8, 2) := by decide +kernel
theorem dd130_85 : decode cX3_close 85 = .ok (.iconst 1, 1) := by decide +kernel
theorem dd130_86 : decode cX3_close 86 = .ok (.if_icmp .ne 57, 3) := by decide +kernel
theorem dd130_89 : decode cX3_close 89 = .ok (.aload_n 1, 1) := by decide +kernel
theorem dd130_90 : decode cX3_close 90 = .ok (.dup, 1) := by decide +kernel
theorem dd130_91 : decode cX3_close 91 = .ok (.getfield 186, 3) := by decide +kernel
theorem dd130_94 : decode cX3_close 94 = .ok (.iconst 1, 1) := by decide +kernel
theorem dd130_95 : decode cX3_close 95 = .ok (.isub, 1) := by decide +kernel
theorem dd130_96 : decode cX3_close 96 = .ok (.putfield 186, 3) := by decide +kernel
theorem dd130_99 : decode cX3_close 99 = .ok (.aload_n 0, 1) := by decide +kernel
theorem dd130_100 : decode cX3_close 100 = .ok (.getfield 41, 3) := by decide +kernel
theorem dd130_103 : decode cX3_close 103 = .ok (.dup, 1) := by decide +kernel
theorem dd130_104 : decode cX3_close 104 = .ok (.getfield 151, 3) := by decide +kernel
theorem dd130_107 : decode cX3_close 107 = .ok (.iconst 1, 1) := by decide +kernel
theorem dd130_108 : decode cX3_close 108 = .ok (.iadd, 1) := by decide +kernel
theorem dd130_109 : decode cX3_close 109 = .ok (.putfield 151, 3) := by decide +kernel
theorem dd130_112 : decode cX3_close 112 = .ok (.aload_n 1, 1) := by decide +kernel
theorem dd130_113 : decode cX3_close 113 = .ok (.getfield 183, 3) := by decide +kernel
theorem dd130_116 : decode cX3_close 116 = .ok (.aload_n 1, 1) := by decide +kernel
theorem dd130_117 : decode cX3_close 117 = .ok (.getfield 186, 3) := by decide +kernel
theorem dd130_120 : decode cX3_close 120 = .ok (.iaload, 1) := by decide +kernel
theorem dd130_121 : decode cX3_close 121 = .ok (.istore 7, 2) := by decide +kernel
theorem dd130_123 : decode cX3_close 123 = .ok (.aload_n 0, 1) := by decide +kernel
theorem dd130_124 : decode cX3_close 124 = .ok (.aload_n 1, 1) := by decide +kernel
theorem dd130_125 : decode cX3_close 125 = .ok (.aload_n 0, 1) := by decide +kernel
theorem dd130_126 : decode cX3_close 126 = .ok (.getfield 59, 3) := by decide +kernel
theorem dd130_129 : decode cX3_close 129 = .ok (.getfield 253, 3) := by decide +kernel
theorem dd130_132 : decode cX3_close 132 = .ok (.iload 7, 2) := by decide +kernel
theorem dd130_134 : decode cX3_close 134 = .ok (.iaload, 1) := by decide +kernel
theorem dd130_135 : decode cX3_close 135 = .ok (.iload 5, 2) := by decide +kernel
theorem dd130_137 : decode cX3_close 137 = .ok (.invokevirtual 259, 3) := by decide +kernel
theorem dd130_140 : decode cX3_close 140 = .ok (.iconst 0, 1) := by decide +kernel
theorem dd130_141 : decode cX3_close 141 = .ok (.istore 5, 2) := by decide +kernel
theorem dd130_143 : decode cX3_close 143 = .ok (.aload_n 0, 1) := by decide +kernel
theorem dd130_144 : decode cX3_close 144 = .ok (.getfield 59, 3) := by decide +kernel
theorem dd130_147 : decode cX3_close 147 = .ok (.getfield 410, 3) := by decide +kernel
theorem dd130_150 : decode cX3_close 150 = .ok (.iload 7, 2) := by decide +kernel
theorem dd130_152 : decode cX3_close 152 = .ok (.iaload, 1) := by decide +kernel
theorem dd130_153 : decode cX3_close 153 = .ok (.iconst (-1), 1) := by decide +kernel
theorem dd130_154 : decode cX3_close 154 = .ok (.if_icmp .eq 23, 3) := by decide +kernel
theorem dd130_157 : decode cX3_close 157 = .ok (.aload_n 1, 1) := by decide +kernel
theorem dd130_158 : decode cX3_close 158 = .ok (.getfield 183, 3) := by decide +kernel
theorem dd130_161 : decode cX3_close 161 = .ok (.aload_n 1, 1) := by decide +kernel
theorem dd130_162 : decode cX3_close 162 = .ok (.getfield 186, 3) := by decide +kernel
theorem dd130_165 : decode cX3_close 165 = .ok (.aload_n 0, 1) := by decide +kernel
theorem dd130_166 : decode cX3_close 166 = .ok (.getfield 59, 3) := by decide +kernel
theorem dd130_169 : decode cX3_close 169 = .ok (.getfield 410, 3) := by decide +kernel
theorem dd130_172 : decode cX3_close 172 = .ok (.iload 7, 2) := by decide +kernel
theorem dd130_174 : decode cX3_close 174 = .ok (.iaload, 1) := by decide +kernel
theorem dd130_175 : decode cX3_close 175 = .ok (.iastore, 1) := by decide +kernel
theorem dd130_176 : decode cX3_close 176 = .ok (.return_, 1) := by decide +kernel
theorem dd130_177 : decode cX3_close 177 = .ok (.aload_n 0, 1) := by decide +kernel
theorem dd130_178 : decode cX3_close 178 = .ok (.getfield 59, 3) := by decide +kernel
theorem dd130_181 : decode cX3_close 181 = .ok (.getfield 413, 3) := by decide +kernel
theorem dd130_184 : decode cX3_close 184 = .ok (.iload 7, 2) := by decide +kernel
theorem dd130_186 : decode cX3_close 186 = .ok (.iaload, 1) := by decide +kernel
theorem dd130_187 : decode cX3_close 187 = .ok (.istore 4, 2) := by decide +kernel
theorem dd130_189 : decode cX3_close 189 = .ok (.iinc 6 1, 3) := by decide +kernel
theorem dd130_192 : decode cX3_close 192 = .ok (.goto (-183), 3) := by decide +kernel
theorem dd130_195 : decode cX3_close 195 = .ok (.return_, 1) := by decide +kernel
def f130_189 (n : Nat) (r9 : Nat → Int32 → Int32 → Int32 → zσ → Option zσ) (x1 : Nat) (x4 : Int32) (x5 : Int32) (x6 : Int32) (s : zσ) : Option zσ :=
    r9 x1 x4 x5 (x6 + (1 : Int32)) s
set_option maxRecDepth 20000 in
theorem f130_189_ok {n d : Nat} {r9 : Nat → Int32 → Int32 → Int32 → zσ → Option zσ} {x1 : Nat} {x4 : Int32} {x5 : Int32} {x6 : Int32} {s : zσ} {s2 : zσ} (hd : 2 ≤ d) (hr9 : ∀ (x1 : Nat) (x4 : Int32) (x5 : Int32) (x6 : Int32) (s : zσ) (s2 : zσ), zck 8 x1 = true → r9 x1 x4 x5 x6 s = some s2 → ∀ {w : zσ} {fz : Bool} {L : Nat} {xs : Nat → Int32}, zGo (zX fz L xs) d q_130 (9, [(0, .ref 1007), (1, .ref x1), (4, .int x4), (5, .int x5), (6, .int x6)], [], zmk s w, 0, 0) (none, zmk s2 w, 0, 0)) (hx1 : zck 8 x1 = true) (h : f130_189 n r9 x1 x4 x5 x6 s = some s2) {w : zσ} {fz : Bool} {L : Nat} {xs : Nat → Int32} : zGo (zX fz L xs) d q_130 (189, [(0, .ref 1007), (1, .ref x1), (4, .int x4), (5, .int x5), (6, .int x6)], [], zmk s w, 0, 0) (none, zmk s2 w, 0, 0) := by
  obtain ⟨d, rfl⟩ : ∃ d0, d = d0 + 1 := ⟨d - 1, by omega⟩
  unfold f130_189 at h
  refine zGo_s (pc' := 192) (st' := []) (lv' := [(6, .int (x6 + (1 : Int32))), (0, .ref 1007), (1, .ref x1), (4, .int x4), (5, .int x5)]) dd130_189 rfl ?_
  refine zGo_s (pc' := 9) (st' := []) dd130_192 rfl ?_
  exact zGo_lv (lv := [(0, .ref 1007), (1, .ref x1), (4, .int x4), (5, .int x5), (6, .int (x6 + (1 : Int32)))]) ⟨by simp, by simp, by simp⟩ (hr9 _ _ _ _ _ _ hx1 h)
def f130_143 (n : Nat) (r9 : Nat → Int32 → Int32 → Int32 → zσ → Option zσ) (x1 : Nat) (x5 : Int32) (x6 : Int32) (x7 : Int32) (s : zσ) : Option zσ :=
    zrd 6 (s.2.2 1007 9) fun a1 =>
    if zin? x7 200 = true then
    if (s.1 (a1 + 6) (nx x7)) = (-1 : Int32) then
    zrd 6 (s.2.2 1007 9) fun a2 =>
    if zin? x7 200 = true then
    zlet ((s.1 (a2 + 7) (nx x7))) fun v3 =>
    f130_189 n r9 x1 v3 x5 x6 s
    else none
    else zrd 6 (s.2.2 1007 9) fun a4 =>
    if zin? x7 200 = true then
    if zin? (s.1 x1 10) 9 = true then
    zlet (sI s (x1 + 1) (nx (s.1 x1 10)) (s.1 (a4 + 6) (nx x7))) fun u5 =>
    some u5
    else none
    else none
    else none
set_option maxRecDepth 20000 in
theorem f130_143_ok {n d : Nat} {r9 : Nat → Int32 → Int32 → Int32 → zσ → Option zσ} {x1 : Nat} {x5 : Int32} {x6 : Int32} {x7 : Int32} {s : zσ} {s2 : zσ} (hd : 2 ≤ d) (hr9 : ∀ (x1 : Nat) (x4 : Int32) (x5 : Int32) (x6 : Int32) (s : zσ) (s2 : zσ), zck 8 x1 = true → r9 x1 x4 x5 x6 s = some s2 → ∀ {w : zσ} {fz : Bool} {L : Nat} {xs : Nat → Int32}, zGo (zX fz L xs) d q_130 (9, [(0, .ref 1007), (1, .ref x1), (4, .int x4), (5, .int x5), (6, .int x6)], [], zmk s w, 0, 0) (none, zmk s2 w, 0, 0)) (hx1 : zck 8 x1 = true) (h : f130_143 n r9 x1 x5 x6 x7 s = some s2) {w : zσ} {fz : Bool} {L : Nat} {xs : Nat → Int32} : zGo (zX fz L xs) d q_130 (143, [(0, .ref 1007), (1, .ref x1), (5, .int x5), (6, .int x6), (7, .int x7)], [], zmk s w, 0, 0) (none, zmk s2 w, 0, 0) := by
  obtain ⟨d, rfl⟩ : ∃ d0, d = d0 + 1 := ⟨d - 1, by omega⟩
  unfold f130_143 at h
  refine zGo_s (pc' := 144) (st' := [.ref 1007]) dd130_143 rfl ?_
  obtain ⟨a1, e_a1, c_a1, h⟩ := ordd h
  refine cGR dd130_144 rfl rfl rfl rfl e_a1 ?_
  refine cGF (e := (a1 + 6)) dd130_147 rfl (ck6_s c_a1).1 (ck6_s c_a1).2 rfl (cf6_5 c_a1).1 ?_
  refine zGo_s (pc' := 152) (st' := [.int x7, .ref (a1 + 6)]) dd130_150 rfl ?_
  obtain ⟨hi, h⟩ := ochk h
  refine cIA dd130_152 (cf6_5 c_a1).2.1 (cf6_5 c_a1).2.2 hi ?_
  refine zGo_s (pc' := 154) (st' := [.int (-1 : Int32), .int (s.1 (a1 + 6) (nx x7))]) dd130_153 rfl ?_
  rcases oite h with ⟨hc, h⟩ | ⟨hc, h⟩
  · refine zIT dd130_154 rfl (kEqT hc) ?_
    refine zGo_s (pc' := 178) (st' := [.ref 1007]) dd130_177 rfl ?_
    obtain ⟨a2, e_a2, c_a2, h⟩ := ordd h
    refine cGR dd130_178 rfl rfl rfl rfl e_a2 ?_
    refine cGF (e := (a2 + 7)) dd130_181 rfl (ck6_s c_a2).1 (ck6_s c_a2).2 rfl (cf6_6 c_a2).1 ?_
    refine zGo_s (pc' := 186) (st' := [.int x7, .ref (a2 + 7)]) dd130_184 rfl ?_
    obtain ⟨hi, h⟩ := ochk h
    refine cIA dd130_186 (cf6_6 c_a2).2.1 (cf6_6 c_a2).2.2 hi ?_
    obtain ⟨v3, e_v3, h⟩ := olet h
    refine zGo_is1 e_v3 dd130_187 (x' := (189, [(4, .int v3), (0, .ref 1007), (1, .ref x1), (5, .int x5), (6, .int x6), (7, .int x7)], [], _, _, _)) rfl ?_
    exact zGo_lv (lv := [(0, .ref 1007), (1, .ref x1), (4, .int v3), (5, .int x5), (6, .int x6)]) ⟨by simp, by simp, by simp⟩ (f130_189_ok hd hr9 hx1 h)
  · refine zIF dd130_154 (kEqF hc) ?_
    refine zGo_s (pc' := 158) (st' := [.ref x1]) dd130_157 rfl ?_
    refine cGF (e := (x1 + 1)) dd130_158 rfl (ck8_s hx1).1 (ck8_s hx1).2 rfl (cf8_1 hx1).1 ?_
    refine zGo_s (pc' := 162) (st' := [.ref x1, .ref (x1 + 1)]) dd130_161 rfl ?_
    refine cGI dd130_162 rfl (ck8_s hx1).1 (ck8_s hx1).2 rfl ?_
    refine zGo_s (pc' := 166) (st' := [.ref 1007, .int (s.1 x1 10), .ref (x1 + 1)]) dd130_165 rfl ?_
    obtain ⟨a4, e_a4, c_a4, h⟩ := ordd h
    refine cGR dd130_166 rfl rfl rfl rfl e_a4 ?_
    refine cGF (e := (a4 + 6)) dd130_169 rfl (ck6_s c_a4).1 (ck6_s c_a4).2 rfl (cf6_5 c_a4).1 ?_
    refine zGo_s (pc' := 174) (st' := [.int x7, .ref (a4 + 6), .int (s.1 x1 10), .ref (x1 + 1)]) dd130_172 rfl ?_
    obtain ⟨hi, h⟩ := ochk h
    refine cIA dd130_174 (cf6_5 c_a4).2.1 (cf6_5 c_a4).2.2 hi ?_
    obtain ⟨hi, h⟩ := ochk h
    obtain ⟨u5, e_u5, h⟩ := olet h
    refine cIS dd130_175 (cf8_1 hx1).2.1 (cf8_1 hx1).2.2 hi e_u5 ?_
    obtain rfl := ore0 h
    exact zGo_ret dd130_176 rfl rfl
def f130_9 (n : Nat) : Nat → Nat → Int32 → Int32 → Int32 → zσ → Option zσ
  | 0, _, _, _, _, _ => none
  | j + 1, x1, x4, x5, x6, s =>
    if x6 < (1000 : Int32) then
    zrd 0 (s.2.2 1007 10) fun a1 =>
    if zin? x4 700 = true then
    zlet ((s.1 (a1 + 2) (nx x4))) fun v2 =>
    zrd 0 (s.2.2 1007 10) fun a3 =>
    if zin? x4 700 = true then
    zlet ((s.1 (a3 + 1) (nx x4))) fun v4 =>
    if v4 = (0 : Int32) then
    yb0 (f126 n x1 s) fun u11 =>
    some u11
    else if v4 = (3 : Int32) then
    if zin? (s.1 x1 10) 9 = true then
    zlet (sI s (x1 + 1) (nx (s.1 x1 10)) v2) fun u10 =>
    some u10
    else none
    else if v4 = (4 : Int32) then
    f130_189 n (f130_9 n j) x1 v2 x5 x6 s
    else if v4 = (1 : Int32) then
    zlet (sI s x1 10 ((s.1 x1 10) - (1 : Int32))) fun u5 =>
    zlet (sI u5 1030 9 ((u5.1 1030 9) + (1 : Int32))) fun u6 =>
    if zin? (u6.1 x1 10) 9 = true then
    zlet ((u6.1 (x1 + 1) (nx (u6.1 x1 10)))) fun v7 =>
    zrd 6 (u6.2.2 1007 9) fun a8 =>
    if zin? v7 200 = true then
    yb0 (f98 n x1 (u6.1 (a8 + 2) (nx v7)) x5 u6) fun u9 =>
    f130_143 n (f130_9 n j) x1 (0 : Int32) x6 v7 u9
    else none
    else none
    else f130_143 n (f130_9 n j) x1 x5 x6 v2 s
    else none
    else none
    else some s
set_option maxRecDepth 20000 in
theorem f130_9_ok {n d : Nat} (hd : 2 ≤ d) : ∀ (j : Nat) (x1 : Nat) (x4 : Int32) (x5 : Int32) (x6 : Int32) (s : zσ) (s2 : zσ), zck 8 x1 = true → f130_9 n j x1 x4 x5 x6 s = some s2 → ∀ {w : zσ} {fz : Bool} {L : Nat} {xs : Nat → Int32}, zGo (zX fz L xs) d q_130 (9, [(0, .ref 1007), (1, .ref x1), (4, .int x4), (5, .int x5), (6, .int x6)], [], zmk s w, 0, 0) (none, zmk s2 w, 0, 0) := by
  obtain ⟨d, rfl⟩ : ∃ d0, d = d0 + 1 := ⟨d - 1, by omega⟩
  intro j
  induction j with
  | zero => intro x1 x4 x5 x6 s s2 hx1 h; cases h
  | succ j ih =>
    intro x1 x4 x5 x6 s s2 hx1 h w fz L xs
    rw [f130_9] at h
    refine zGo_s (pc' := 11) (st' := [.int x6]) dd130_9 rfl ?_
    refine zGo_s (pc' := 14) (st' := [.int (1000 : Int32), .int x6]) dd130_11 rfl ?_
    rcases oite h with ⟨hc, h⟩ | ⟨hc, h⟩
    · refine zIF dd130_14 (kGeF hc) ?_
      refine zGo_s (pc' := 18) (st' := [.ref 1007]) dd130_17 rfl ?_
      obtain ⟨a1, e_a1, c_a1, h⟩ := ordd h
      refine cGR dd130_18 rfl rfl rfl rfl e_a1 ?_
      refine cGF (e := (a1 + 2)) dd130_21 rfl (ck0_s c_a1).1 (ck0_s c_a1).2 rfl (cf0_1 c_a1).1 ?_
      refine zGo_s (pc' := 26) (st' := [.int x4, .ref (a1 + 2)]) dd130_24 rfl ?_
      obtain ⟨hi, h⟩ := ochk h
      refine cIA dd130_26 (cf0_1 c_a1).2.1 (cf0_1 c_a1).2.2 hi ?_
      obtain ⟨v2, e_v2, h⟩ := olet h
      refine zGo_is1 e_v2 dd130_27 (x' := (29, [(7, .int v2), (0, .ref 1007), (1, .ref x1), (4, .int x4), (5, .int x5), (6, .int x6)], [], _, _, _)) rfl ?_
      refine zGo_s (pc' := 30) (st' := [.ref 1007]) dd130_29 rfl ?_
      obtain ⟨a3, e_a3, c_a3, h⟩ := ordd h
      refine cGR dd130_30 rfl rfl rfl rfl e_a3 ?_
      refine cGF (e := (a3 + 1)) dd130_33 rfl (ck0_s c_a3).1 (ck0_s c_a3).2 rfl (cf0_0 c_a3).1 ?_
      refine zGo_s (pc' := 38) (st' := [.int x4, .ref (a3 + 1)]) dd130_36 rfl ?_
      obtain ⟨hi, h⟩ := ochk h
      refine cIA dd130_38 (cf0_0 c_a3).2.1 (cf0_0 c_a3).2.2 hi ?_
      obtain ⟨v4, e_v4, h⟩ := olet h
      refine zGo_is1 e_v4 dd130_39 (x' := (41, [(8, .int v4), (7, .int v2), (0, .ref 1007), (1, .ref x1), (4, .int x4), (5, .int x5), (6, .int x6)], [], _, _, _)) rfl ?_
      refine zGo_s (pc' := 43) (st' := [.int v4]) dd130_41 rfl ?_
      rcases oite h with ⟨hc, h⟩ | ⟨hc, h⟩
      · refine zUF dd130_43 (kNeF hc) ?_
        refine zGo_s (pc' := 47) (st' := [.ref 1007]) dd130_46 rfl ?_
        refine zGo_s (pc' := 48) (st' := [.ref x1, .ref 1007]) dd130_47 rfl ?_
        obtain ⟨u11, hq, h⟩ := obn0 h
        refine zCV0 (As := [.ref x1]) (rest := []) (b := 1007) (q' := q_126) dd130_48 rfl rfl (rcv_c rfl rfl (by decide)) rfl rfl rfl (f126_ok (d := d) (by omega) hx1 hq) ?_
        obtain rfl := ore0 h
        exact zGo_ret dd130_51 rfl rfl
      · refine zUT dd130_43 rfl (kNeT hc) ?_
        refine zGo_s (pc' := 54) (st' := [.int v4]) dd130_52 rfl ?_
        refine zGo_s (pc' := 55) (st' := [.int (3 : Int32), .int v4]) dd130_54 rfl ?_
        rcases oite h with ⟨hc, h⟩ | ⟨hc, h⟩
        · refine zIF dd130_55 (kNeF hc) ?_
          refine zGo_s (pc' := 59) (st' := [.ref x1]) dd130_58 rfl ?_
          refine cGF (e := (x1 + 1)) dd130_59 rfl (ck8_s hx1).1 (ck8_s hx1).2 rfl (cf8_1 hx1).1 ?_
          refine zGo_s (pc' := 63) (st' := [.ref x1, .ref (x1 + 1)]) dd130_62 rfl ?_
          refine cGI dd130_63 rfl (ck8_s hx1).1 (ck8_s hx1).2 rfl ?_
          refine zGo_s (pc' := 68) (st' := [.int v2, .int (s.1 x1 10), .ref (x1 + 1)]) dd130_66 rfl ?_
          obtain ⟨hi, h⟩ := ochk h
          obtain ⟨u10, e_u10, h⟩ := olet h
          refine cIS dd130_68 (cf8_1 hx1).2.1 (cf8_1 hx1).2.2 hi e_u10 ?_
          obtain rfl := ore0 h
          exact zGo_ret dd130_69 rfl rfl
        · refine zIT dd130_55 rfl (kNeT hc) ?_
          refine zGo_s (pc' := 72) (st' := [.int v4]) dd130_70 rfl ?_
          refine zGo_s (pc' := 73) (st' := [.int (4 : Int32), .int v4]) dd130_72 rfl ?_
          rcases oite h with ⟨hc, h⟩ | ⟨hc, h⟩
          · refine zIF dd130_73 (kNeF hc) ?_
            refine zGo_s (pc' := 78) (st' := [.int v2]) dd130_76 rfl ?_
            refine zGo_s (pc' := 80) (st' := []) (lv' := [(4, .int v2), (8, .int v4), (7, .int v2), (0, .ref 1007), (1, .ref x1), (5, .int x5), (6, .int x6)]) dd130_78 rfl ?_
            refine zGo_s (pc' := 189) (st' := []) dd130_80 rfl ?_
            exact zGo_lv (lv := [(0, .ref 1007), (1, .ref x1), (4, .int v2), (5, .int x5), (6, .int x6)]) ⟨by simp, by simp, by simp⟩ (f130_189_ok hd ih hx1 h)
          · refine zIT dd130_73 rfl (kNeT hc) ?_
            refine zGo_s (pc' := 85) (st' := [.int v4]) dd130_83 rfl ?_
            refine zGo_s (pc' := 86) (st' := [.int (1 : Int32), .int v4]) dd130_85 rfl ?_
            rcases oite h with ⟨hc, h⟩ | ⟨hc, h⟩
            · refine zIF dd130_86 (kNeF hc) ?_
              refine zGo_s (pc' := 90) (st' := [.ref x1]) dd130_89 rfl ?_
              refine zGo_s (pc' := 91) (st' := [.ref x1, .ref x1]) dd130_90 rfl ?_
              refine cGI dd130_91 rfl (ck8_s hx1).1 (ck8_s hx1).2 rfl ?_
              refine zGo_s (pc' := 95) (st' := [.int (1 : Int32), .int (s.1 x1 10), .ref x1]) dd130_94 rfl ?_
              refine zGo_s (pc' := 96) (st' := [.int ((s.1 x1 10) - (1 : Int32)), .ref x1]) dd130_95 rfl ?_
              obtain ⟨u5, e_u5, h⟩ := olet h
              refine cPI dd130_96 rfl (ck8_s hx1).1 (ck8_s hx1).2 rfl rfl rfl e_u5 ?_
              refine zGo_s (pc' := 100) (st' := [.ref 1007]) dd130_99 rfl ?_
              refine cGF (e := 1030) dd130_100 rfl rfl rfl rfl rfl ?_
              refine zGo_s (pc' := 104) (st' := [.ref 1030, .ref 1030]) dd130_103 rfl ?_
              refine cGI dd130_104 rfl rfl rfl rfl ?_
              refine zGo_s (pc' := 108) (st' := [.int (1 : Int32), .int (u5.1 1030 9), .ref 1030]) dd130_107 rfl ?_
              refine zGo_s (pc' := 109) (st' := [.int ((u5.1 1030 9) + (1 : Int32)), .ref 1030]) dd130_108 rfl ?_
              obtain ⟨u6, e_u6, h⟩ := olet h
              refine cPI dd130_109 rfl rfl rfl rfl rfl rfl e_u6 ?_
              refine zGo_s (pc' := 113) (st' := [.ref x1]) dd130_112 rfl ?_
              refine cGF (e := (x1 + 1)) dd130_113 rfl (ck8_s hx1).1 (ck8_s hx1).2 rfl (cf8_1 hx1).1 ?_
              refine zGo_s (pc' := 117) (st' := [.ref x1, .ref (x1 + 1)]) dd130_116 rfl ?_
              refine cGI dd130_117 rfl (ck8_s hx1).1 (ck8_s hx1).2 rfl ?_
              obtain ⟨hi, h⟩ := ochk h
              refine cIA dd130_120 (cf8_1 hx1).2.1 (cf8_1 hx1).2.2 hi ?_
              obtain ⟨v7, e_v7, h⟩ := olet h
              refine zGo_is1 e_v7 dd130_121 (x' := (123, [(7, .int v7), (8, .int v4), (0, .ref 1007), (1, .ref x1), (4, .int x4), (5, .int x5), (6, .int x6)], [], _, _, _)) rfl ?_
              refine zGo_s (pc' := 124) (st' := [.ref 1007]) dd130_123 rfl ?_
              refine zGo_s (pc' := 125) (st' := [.ref x1, .ref 1007]) dd130_124 rfl ?_
              refine zGo_s (pc' := 126) (st' := [.ref 1007, .ref x1, .ref 1007]) dd130_125 rfl ?_
              obtain ⟨a8, e_a8, c_a8, h⟩ := ordd h
              refine cGR dd130_126 rfl rfl rfl rfl e_a8 ?_
              refine cGF (e := (a8 + 2)) dd130_129 rfl (ck6_s c_a8).1 (ck6_s c_a8).2 rfl (cf6_1 c_a8).1 ?_
              refine zGo_s (pc' := 134) (st' := [.int v7, .ref (a8 + 2), .ref x1, .ref 1007]) dd130_132 rfl ?_
              obtain ⟨hi, h⟩ := ochk h
              refine cIA dd130_134 (cf6_1 c_a8).2.1 (cf6_1 c_a8).2.2 hi ?_
              refine zGo_s (pc' := 137) (st' := [.int x5, .int (u6.1 (a8 + 2) (nx v7)), .ref x1, .ref 1007]) dd130_135 rfl ?_
              obtain ⟨u9, hq, h⟩ := obn0 h
              refine zCV0 (As := [.ref x1, .int (u6.1 (a8 + 2) (nx v7)), .int x5]) (rest := []) (b := 1007) (q' := q_98) dd130_137 rfl rfl (rcv_c rfl rfl (by decide)) rfl rfl rfl (f98_ok (d := d) (by omega) hx1 hq) ?_
              refine zGo_s (pc' := 141) (st' := [.int (0 : Int32)]) dd130_140 rfl ?_
              refine zGo_s (pc' := 143) (st' := []) (lv' := [(5, .int (0 : Int32)), (7, .int v7), (8, .int v4), (0, .ref 1007), (1, .ref x1), (4, .int x4), (6, .int x6)]) dd130_141 rfl ?_
              exact zGo_lv (lv := [(0, .ref 1007), (1, .ref x1), (5, .int (0 : Int32)), (6, .int x6), (7, .int v7)]) ⟨by simp, by simp, by simp⟩ (f130_143_ok hd ih hx1 h)
            · refine zIT dd130_86 rfl (kNeT hc) ?_
              exact zGo_lv (lv := [(0, .ref 1007), (1, .ref x1), (5, .int x5), (6, .int x6), (7, .int v2)]) ⟨by simp, by simp, by simp⟩ (f130_143_ok hd ih hx1 h)
    · refine zIT dd130_14 rfl (kGeT hc) ?_
      obtain rfl := ore0 h
      exact zGo_ret dd130_195 rfl rfl
def f130 (n : Nat) (x1 : Nat) (x2 : Int32) (x3 : Int32) (s : zσ) : Option zσ :=
    f130_9 n n x1 x2 x3 (0 : Int32) s
set_option maxRecDepth 20000 in
theorem f130_ok {n d : Nat} {x1 : Nat} {x2 : Int32} {x3 : Int32} {s : zσ} {s2 : zσ} (hd : 2 ≤ d) (hx1 : zck 8 x1 = true) (h : f130 n x1 x2 x3 s = some s2) {w : zσ} {fz : Bool} {L : Nat} {xs : Nat → Int32} : zGo (zX fz L xs) d q_130 (0, [(0, .ref 1007), (1, .ref x1), (2, .int x2), (3, .int x3)], [], zmk s w, 0, 0) (none, zmk s2 w, 0, 0) := by
  obtain ⟨d, rfl⟩ : ∃ d0, d = d0 + 1 := ⟨d - 1, by omega⟩
  unfold f130 at h
  refine zGo_s (pc' := 1) (st' := [.int x2]) dd130_0 rfl ?_
  refine zGo_s (pc' := 3) (st' := []) (lv' := [(4, .int x2), (0, .ref 1007), (1, .ref x1), (2, .int x2), (3, .int x3)]) dd130_1 rfl ?_
  refine zGo_s (pc' := 4) (st' := [.int x3]) dd130_3 rfl ?_
  refine zGo_s (pc' := 6) (st' := []) (lv' := [(5, .int x3), (4, .int x2), (0, .ref 1007), (1, .ref x1), (2, .int x2), (3, .int x3)]) dd130_4 rfl ?_
  refine zGo_s (pc' := 7) (st' := [.int (0 : Int32)]) dd130_6 rfl ?_
  refine zGo_s (pc' := 9) (st' := []) (lv' := [(6, .int (0 : Int32)), (5, .int x3), (4, .int x2), (0, .ref 1007), (1, .ref x1), (2, .int x2), (3, .int x3)]) dd130_7 rfl ?_
  exact zGo_lv (lv := [(0, .ref 1007), (1, .ref x1), (4, .int x2), (5, .int x3), (6, .int (0 : Int32))]) ⟨by simp, by simp, by simp⟩ (f130_9_ok hd _ _ _ _ _ _ _ hx1 h)
/-! PH$Machine.open(LPH$Task;I)V -/
theorem dd129_0 : decode cX3_open 0 = .ok (.aload_n 0, 1) := by decide +kernel
theorem dd129_1 : decode cX3_open 1 = .ok (.getfield 63, 3) := by decide +kernel
theorem dd129_4 : decode cX3_open 4 = .ok (.getfield 348, 3) := by decide +kernel
theorem dd129_7 : decode cX3_open 7 = .ok (.iload_n 2, 1) := by decide +kernel
theorem dd129_8 : decode cX3_open 8 = .ok (.iaload, 1) := by decide +kernel
theorem dd129_9 : decode cX3_open 9 = .ok (.iconst (-1), 1) := by decide +kernel
theorem dd129_10 : decode cX3_open 10 = .ok (.if_icmp .eq 24, 3) := by decide +kernel
theorem dd129_13 : decode cX3_open 13 = .ok (.aload_n 1, 1) := by decide +kernel
theorem dd129_14 : decode cX3_open 14 = .ok (.getfield 183, 3) := by decide +kernel
theorem dd129_17 : decode cX3_open 17 = .ok (.aload_n 1, 1) := by decide +kernel
theorem dd129_18 : decode cX3_open 18 = .ok (.getfield 186, 3) := by decide +kernel
theorem dd129_21 : decode cX3_open 21 = .ok (.aload_n 0, 1) := by decide +kernel
theorem dd129_22 : decode cX3_open 22 = .ok (.getfield 63, 3) := by decide +kernel
theorem dd129_25 : decode cX3_open 25 = .ok (.getfield 348, 3) := by decide +kernel
theorem dd129_28 : decode cX3_open 28 = .ok (.iload_n 2, 1) := by decide +kernel
theorem dd129_29 : decode cX3_open 29 = .ok (.iaload, 1) := by decide +kernel
theorem dd129_30 : decode cX3_open 30 = .ok (.iastore, 1) := by decide +kernel
theorem dd129_31 : decode cX3_open 31 = .ok (.goto 10, 3) := by decide +kernel
theorem dd129_34 : decode cX3_open 34 = .ok (.aload_n 0, 1) := by decide +kernel
theorem dd129_35 : decode cX3_open 35 = .ok (.aload_n 1, 1) := by decide +kernel
theorem dd129_36 : decode cX3_open 36 = .ok (.iload_n 2, 1) := by decide +kernel
theorem dd129_37 : decode cX3_open 37 = .ok (.iconst 0, 1) := by decide +kernel
theorem dd129_38 : decode cX3_open 38 = .ok (.invokevirtual 207, 3) := by decide +kernel
theorem dd129_41 : decode cX3_open 41 = .ok (.return_, 1) := by decide +kernel
def f129 (n : Nat) (x1 : Nat) (x2 : Int32) (s : zσ) : Option zσ :=
    zrd 0 (s.2.2 1007 10) fun a1 =>
    if zin? x2 700 = true then
    if (s.1 (a1 + 3) (nx x2)) = (-1 : Int32) then
    yb0 (f130 n x1 x2 (0 : Int32) s) fun u2 =>
    some u2
    else zrd 0 (s.2.2 1007 10) fun a3 =>
    if zin? x2 700 = true then
    if zin? (s.1 x1 10) 9 = true then
    zlet (sI s (x1 + 1) (nx (s.1 x1 10)) (s.1 (a3 + 3) (nx x2))) fun u4 =>
    some u4
    else none
    else none
    else none
set_option maxRecDepth 20000 in
theorem f129_ok {n d : Nat} {x1 : Nat} {x2 : Int32} {s : zσ} {s2 : zσ} (hd : 3 ≤ d) (hx1 : zck 8 x1 = true) (h : f129 n x1 x2 s = some s2) {w : zσ} {fz : Bool} {L : Nat} {xs : Nat → Int32} : zGo (zX fz L xs) d q_129 (0, [(0, .ref 1007), (1, .ref x1), (2, .int x2)], [], zmk s w, 0, 0) (none, zmk s2 w, 0, 0) := by
  obtain ⟨d, rfl⟩ : ∃ d0, d = d0 + 1 := ⟨d - 1, by omega⟩
  unfold f129 at h
  refine zGo_s (pc' := 1) (st' := [.ref 1007]) dd129_0 rfl ?_
  obtain ⟨a1, e_a1, c_a1, h⟩ := ordd h
  refine cGR dd129_1 rfl rfl rfl rfl e_a1 ?_
  refine cGF (e := (a1 + 3)) dd129_4 rfl (ck0_s c_a1).1 (ck0_s c_a1).2 rfl (cf0_2 c_a1).1 ?_
  refine zGo_s (pc' := 8) (st' := [.int x2, .ref (a1 + 3)]) dd129_7 rfl ?_
  obtain ⟨hi, h⟩ := ochk h
  refine cIA dd129_8 (cf0_2 c_a1).2.1 (cf0_2 c_a1).2.2 hi ?_
  refine zGo_s (pc' := 10) (st' := [.int (-1 : Int32), .int (s.1 (a1 + 3) (nx x2))]) dd129_9 rfl ?_
  rcases oite h with ⟨hc, h⟩ | ⟨hc, h⟩
  · refine zIT dd129_10 rfl (kEqT hc) ?_
    refine zGo_s (pc' := 35) (st' := [.ref 1007]) dd129_34 rfl ?_
    refine zGo_s (pc' := 36) (st' := [.ref x1, .ref 1007]) dd129_35 rfl ?_
    refine zGo_s (pc' := 37) (st' := [.int x2, .ref x1, .ref 1007]) dd129_36 rfl ?_
    refine zGo_s (pc' := 38) (st' := [.int (0 : Int32), .int x2, .ref x1, .ref 1007]) dd129_37 rfl ?_
    obtain ⟨u2, hq, h⟩ := obn0 h
    refine zCV0 (As := [.ref x1, .int x2, .int (0 : Int32)]) (rest := []) (b := 1007) (q' := q_130) dd129_38 rfl rfl (rcv_c rfl rfl (by decide)) rfl rfl rfl (f130_ok (d := d) (by omega) hx1 hq) ?_
    obtain rfl := ore0 h
    exact zGo_ret dd129_41 rfl rfl
  · refine zIF dd129_10 (kEqF hc) ?_
    refine zGo_s (pc' := 14) (st' := [.ref x1]) dd129_13 rfl ?_
    refine cGF (e := (x1 + 1)) dd129_14 rfl (ck8_s hx1).1 (ck8_s hx1).2 rfl (cf8_1 hx1).1 ?_
    refine zGo_s (pc' := 18) (st' := [.ref x1, .ref (x1 + 1)]) dd129_17 rfl ?_
    refine cGI dd129_18 rfl (ck8_s hx1).1 (ck8_s hx1).2 rfl ?_
    refine zGo_s (pc' := 22) (st' := [.ref 1007, .int (s.1 x1 10), .ref (x1 + 1)]) dd129_21 rfl ?_
    obtain ⟨a3, e_a3, c_a3, h⟩ := ordd h
    refine cGR dd129_22 rfl rfl rfl rfl e_a3 ?_
    refine cGF (e := (a3 + 3)) dd129_25 rfl (ck0_s c_a3).1 (ck0_s c_a3).2 rfl (cf0_2 c_a3).1 ?_
    refine zGo_s (pc' := 29) (st' := [.int x2, .ref (a3 + 3), .int (s.1 x1 10), .ref (x1 + 1)]) dd129_28 rfl ?_
    obtain ⟨hi, h⟩ := ochk h
    refine cIA dd129_29 (cf0_2 c_a3).2.1 (cf0_2 c_a3).2.2 hi ?_
    obtain ⟨hi, h⟩ := ochk h
    obtain ⟨u4, e_u4, h⟩ := olet h
    refine cIS dd129_30 (cf8_1 hx1).2.1 (cf8_1 hx1).2.2 hi e_u4 ?_
    refine zGo_s (pc' := 41) (st' := []) dd129_31 rfl ?_
    obtain rfl := ore0 h
    exact zGo_ret dd129_41 rfl rfl
/-! PH$Machine.induce(LPH$Task;II)V -/
theorem dd127_0 : decode cX3_induce 0 = .ok (.aload_n 0, 1) := by decide +kernel
theorem dd127_1 : decode cX3_induce 1 = .ok (.getfield 41, 3) := by decide +kernel
theorem dd127_4 : decode cX3_induce 4 = .ok (.aload_n 1, 1) := by decide +kernel
theorem dd127_5 : decode cX3_induce 5 = .ok (.getfield 290, 3) := by decide +kernel
theorem dd127_8 : decode cX3_induce 8 = .ok (.iload_n 2, 1) := by decide +kernel
theorem dd127_9 : decode cX3_induce 9 = .ok (.iload_n 3, 1) := by decide +kernel
theorem dd127_10 : decode cX3_induce 10 = .ok (.invokevirtual 420, 3) := by decide +kernel
theorem dd127_13 : decode cX3_induce 13 = .ok (.aload_n 1, 1) := by decide +kernel
theorem dd127_14 : decode cX3_induce 14 = .ok (.iload_n 2, 1) := by decide +kernel
theorem dd127_15 : decode cX3_induce 15 = .ok (.putfield 424, 3) := by decide +kernel
theorem dd127_18 : decode cX3_induce 18 = .ok (.aload_n 1, 1) := by decide +kernel
theorem dd127_19 : decode cX3_induce 19 = .ok (.getfield 186, 3) := by decide +kernel
theorem dd127_22 : decode cX3_induce 22 = .ok (.istore 4, 2) := by decide +kernel
theorem dd127_24 : decode cX3_induce 24 = .ok (.aload_n 0, 1) := by decide +kernel
theorem dd127_25 : decode cX3_induce 25 = .ok (.getfield 59, 3) := by decide +kernel
theorem dd127_28 : decode cX3_induce 28 = .ok (.getfield 413, 3) := by decide +kernel
theorem dd127_31 : decode cX3_induce 31 = .ok (.iload_n 3, 1) := by decide +kernel
theorem dd127_32 : decode cX3_induce 32 = .ok (.iaload, 1) := by decide +kernel
theorem dd127_33 : decode cX3_induce 33 = .ok (.istore 5, 2) := by decide +kernel
theorem dd127_35 : decode cX3_induce 35 = .ok (.iconst 0, 1) := by decide +kernel
theorem dd127_36 : decode cX3_induce 36 = .ok (.istore 6, 2) := by decide +kernel
theorem dd127_38 : decode cX3_induce 38 = .ok (.iload 6, 2) := by decide +kernel
theorem dd127_40 : decode cX3_induce 40 = .ok (.sipush 1000, 3) := by decide +kernel
theorem dd127_43 : decode cX3_induce 43 = .ok (.if_icmp .ge 209, 3) := by decide +kernel
theorem dd127_46 : decode cX3_induce 46 = .ok (.aload_n 0, 1) := by decide +kernel
theorem dd127_47 : decode cX3_induce 47 = .ok (.getfield 63, 3) := by decide +kernel
theorem dd127_50 : decode cX3_induce 50 = .ok (.iload 5, 2) := by decide +kernel
theorem dd127_52 : decode cX3_induce 52 = .ok (.iload_n 2, 1) := by decide +kernel
theorem dd127_53 : decode cX3_induce 53 = .ok (.invokevirtual 427, 3) := by decide +kernel
theorem dd127_56 : decode cX3_induce 56 = .ok (.istore 7, 2) := by decide +kernel
theorem dd127_58 : decode cX3_induce 58 = .ok (.iload 7, 2) := by decide +kernel
theorem dd127_60 : decode cX3_induce 60 = .ok (.iconst (-1), 1) := by decide +kernel
theorem dd127_61 : decode cX3_induce 61 = .ok (.if_icmp .ne 15, 3) := by decide +kernel
theorem dd127_64 : decode cX3_induce 64 = .ok (.aload_n 0, 1) := by decide +kernel
theorem dd127_65 : decode cX3_induce 65 = .ok (.getfield 63, 3) := by decide +kernel
theorem dd127_68 : decode cX3_induce 68 = .ok (.iload 5, 2) := by decide +kernel
theorem dd127_70 : decode cX3_induce 70 = .ok (.iconst 0, 1) := by decide +kernel
theorem dd127_71 : decode cX3_induce 71 = .ok (.invokevirtual 427, 3) := by decide +kernel
theorem dd127_74 : decode cX3_induce 74 = .ok (.istore 7, 2) := by decide +kernel
theorem dd127_76 : decode cX3_induce 76 = .ok (.iload 7, 2) := by decide +kernel
theorem dd127_78 : decode cX3_induce 78 = .ok (.iconst (-1), 1) := by decide +kernel
theorem dd127_79 : decode cX3_induce 79 = .ok (.if_icmp .eq 49, 3) := by decide +kernel
theorem dd127_82 : decode cX3_induce 82 = .ok (.aload_n 0, 1) := by decide +kernel
theorem dd127_83 : decode cX3_induce 83 = .ok (.getfield 41, 3) := by decide +kernel
theorem dd127_86 : decode cX3_induce 86 = .ok (.dup, 1) := by decide +kernel
theorem dd127_87 : decode cX3_induce 87 = .ok (.getfield 137, 3) := by decide +kernel
theorem dd127_90 : decode cX3_induce 90 = .ok (.iconst 1, 1) := by decide +kernel
theorem dd127_91 : decode cX3_induce 91 = .ok (.iadd, 1) := by decide +kernel
theorem dd127_92 : decode cX3_induce 92 = .ok (.putfield 137, 3) := by decide +kernel
theorem dd127_95 : decode cX3_induce 95 = .ok (.aload_n 0, 1) := by decide +kernel
theorem dd127_96 : decode cX3_induce 96 = .ok (.getfield 41, 3) := by decide +kernel
theorem dd127_99 : decode cX3_induce 99 = .ok (.dup, 1) := by decide +kernel
theorem dd127_100 : decode cX3_induce 100 = .ok (.getfield 151, 3) := by decide +kernel
theorem dd127_103 : decode cX3_induce 103 = .ok (.aload_n 1, 1) := by decide +kernel
theorem dd127_104 : decode cX3_induce 104 = .ok (.getfield 186, 3) := by decide +kernel
theorem dd127_107 : decode cX3_induce 107 = .ok (.iload 4, 2) := by decide +kernel
theorem dd127_109 : decode cX3_induce 109 = .ok (.isub, 1) := by decide +kernel
theorem dd127_110 : decode cX3_induce 110 = .ok (.iadd, 1) := by decide +kernel
theorem dd127_111 : decode cX3_induce 111 = .ok (.putfield 151, 3) := by decide +kernel
theorem dd127_114 : decode cX3_induce 114 = .ok (.aload_n 1, 1) := by decide +kernel
theorem dd127_115 : decode cX3_induce 115 = .ok (.iload 4, 2) := by decide +kernel
theorem dd127_117 : decode cX3_induce 117 = .ok (.putfield 186, 3) := by decide +kernel
theorem dd127_120 : decode cX3_induce 120 = .ok (.aload_n 0, 1) := by decide +kernel
theorem dd127_121 : decode cX3_induce 121 = .ok (.aload_n 1, 1) := by decide +kernel
theorem dd127_122 : decode cX3_induce 122 = .ok (.iload 7, 2) := by decide +kernel
theorem dd127_124 : decode cX3_induce 124 = .ok (.invokevirtual 204, 3) := by decide +kernel
theorem dd127_127 : decode cX3_induce 127 = .ok (.return_, 1) := by decide +kernel
theorem dd127_128 : decode cX3_induce 128 = .ok (.iconst 0, 1) := by decide +kernel
theorem dd127_129 : decode cX3_induce 129 = .ok (.istore 8, 2) := by decide +kernel
theorem dd127_131 : decode cX3_induce 131 = .ok (.iload 8, 2) := by decide +kernel
theorem dd127_133 : decode cX3_induce 133 = .ok (.bipush 12, 2) := by decide +kernel
theorem dd127_135 : decode cX3_induce 135 = .ok (.if_icmp .ge 35, 3) := by decide +kernel
theorem dd127_138 : decode cX3_induce 138 = .ok (.aload_n 0, 1) := by decide +kernel
theorem dd127_139 : decode cX3_induce 139 = .ok (.getfield 63, 3) := by decide +kernel
theorem dd127_142 : decode cX3_induce 142 = .ok (.getfield 419, 3) := by decide +kernel
theorem dd127_145 : decode cX3_induce 145 = .ok (.iload 5, 2) := by decide +kernel
theorem dd127_147 : decode cX3_induce 147 = .ok (.iaload, 1) := by decide +kernel
theorem dd127_148 : decode cX3_induce 148 = .ok (.iconst 4, 1) := by decide +kernel
theorem dd127_149 : decode cX3_induce 149 = .ok (.if_icmp .ne 21, 3) := by decide +kernel
theorem dd127_152 : decode cX3_induce 152 = .ok (.aload_n 0, 1) := by decide +kernel
theorem dd127_153 : decode cX3_induce 153 = .ok (.getfield 63, 3) := by decide +kernel
theorem dd127_156 : decode cX3_induce 156 = .ok (.getfield 416, 3) := by decide +kernel
theorem dd127_159 : decode cX3_induce 159 = .ok (.iload 5, 2) := by decide +kernel
theorem dd127_161 : decode cX3_induce 161 = .ok (.iaload, 1) := by decide +kernel
theorem dd127_162 : decode cX3_induce 162 = .ok (.istore 5, 2) := by decide +kernel
theorem dd127_164 : decode cX3_induce 164 = .ok (.iinc 8 1, 3) := by decide +kernel
theorem dd127_167 : decode cX3_induce 167 = .ok (.goto (-36), 3) := by decide +kernel
theorem dd127_170 : decode cX3_induce 170 = .ok (.aload_n 0, 1) := by decide +kernel
theorem dd127_171 : decode cX3_induce 171 = .ok (.getfield 63, 3) := by decide +kernel
theorem dd127_174 : decode cX3_induce 174 = .ok (.getfield 419, 3) := by decide +kernel
theorem dd127_177 : decode cX3_induce 177 = .ok (.iload 5, 2) := by decide +kernel
theorem dd127_179 : decode cX3_induce 179 = .ok (.iaload, 1) := by decide +kernel
theorem dd127_180 : decode cX3_induce 180 = .ok (.ifCond .ne 9, 3) := by decide +kernel
theorem dd127_183 : decode cX3_induce 183 = .ok (.aload_n 0, 1) := by decide +kernel
theorem dd127_184 : decode cX3_induce 184 = .ok (.aload_n 1, 1) := by decide +kernel
theorem dd127_185 : decode cX3_induce 185 = .ok (.invokevirtual 323, 3) := by decide +kernel
theorem dd127_188 : decode cX3_induce 188 = .ok (.return_, 1) := by decide +kernel
theorem dd127_189 : decode cX3_induce 189 = .ok (.aload_n 0, 1) := by decide +kernel
theorem dd127_190 : decode cX3_induce 190 = .ok (.getfield 63, 3) := by decide +kernel
theorem dd127_193 : decode cX3_induce 193 = .ok (.getfield 419, 3) := by decide +kernel
theorem dd127_196 : decode cX3_induce 196 = .ok (.iload 5, 2) := by decide +kernel
theorem dd127_198 : decode cX3_induce 198 = .ok (.iaload, 1) := by decide +kernel
theorem dd127_199 : decode cX3_induce 199 = .ok (.iconst 1, 1) := by decide +kernel
theorem dd127_200 : decode cX3_induce 200 = .ok (.if_icmp .ne 26, 3) := by decide +kernel
theorem dd127_203 : decode cX3_induce 203 = .ok (.iinc 4 (-1), 3) := by decide +kernel
theorem dd127_206 : decode cX3_induce 206 = .ok (.aload_n 0, 1) := by decide +kernel
theorem dd127_207 : decode cX3_induce 207 = .ok (.getfield 59, 3) := by decide +kernel
theorem dd127_210 : decode cX3_induce 210 = .ok (.getfield 413, 3) := by decide +kernel
theorem dd127_213 : decode cX3_induce 213 = .ok (.aload_n 1, 1) := by decide +kernel
theorem dd127_214 : decode cX3_induce 214 = .ok (.getfield 183, 3) := by decide +kernel
theorem dd127_217 : decode cX3_induce 217 = .ok (.iload 4, 2) := by decide +kernel
theorem dd127_219 : decode cX3_induce 219 = .ok (.iaload, 1) := by decide +kernel
theorem dd127_220 : decode cX3_induce 220 = .ok (.iaload, 1) := by decide +kernel
theorem dd127_221 : decode cX3_induce 221 = .ok (.istore 5, 2) := by decide +kernel
theorem dd127_223 : decode cX3_induce 223 = .ok (.goto 23, 3) := by decide +kernel
theorem dd127_226 : decode cX3_induce 226 = .ok (.aload_n 0, 1) := by decide +kernel
theorem dd127_227 : decode cX3_induce 227 = .ok (.getfield 59, 3) := by decide +kernel
theorem dd127_230 : decode cX3_induce 230 = .ok (.getfield 413, 3) := by decide +kernel
theorem dd127_233 : decode cX3_induce 233 = .ok (.aload_n 0, 1) := by decide +kernel
theorem dd127_234 : decode cX3_induce 234 = .ok (.getfield 63, 3) := by decide +kernel
theorem dd127_237 : decode cX3_induce 237 = .ok (.getfield 416, 3) := by decide +kernel
theorem dd127_240 : decode cX3_induce 240 = .ok (.iload 5, 2) := by decide +kernel
theorem dd127_242 : decode cX3_induce 242 = .ok (.iaload, 1) := by decide +kernel
theorem dd127_243 : decode cX3_induce 243 = .ok (.iaload, 1) := by decide +kernel
theorem dd127_244 : decode cX3_induce 244 = .ok (.istore 5, 2) := by decide +kernel
theorem dd127_246 : decode cX3_induce 246 = .ok (.iinc 6 1, 3) := by decide +kernel
theorem dd127_249 : decode cX3_induce 249 = .ok (.goto (-211), 3) := by decide +kernel
theorem dd127_252 : decode cX3_induce 252 = .ok (.return_, 1) := by decide +kernel
def f127_246 (n : Nat) (r38 : Nat → Int32 → Int32 → Int32 → Int32 → zσ → Option zσ) (x1 : Nat) (x2 : Int32) (x4 : Int32) (x5 : Int32) (x6 : Int32) (s : zσ) : Option zσ :=
    r38 x1 x2 x4 x5 (x6 + (1 : Int32)) s
set_option maxRecDepth 20000 in
theorem f127_246_ok {n d : Nat} {r38 : Nat → Int32 → Int32 → Int32 → Int32 → zσ → Option zσ} {x1 : Nat} {x2 : Int32} {x4 : Int32} {x5 : Int32} {x6 : Int32} {s : zσ} {s2 : zσ} (hd : 4 ≤ d) (hr38 : ∀ (x1 : Nat) (x2 : Int32) (x4 : Int32) (x5 : Int32) (x6 : Int32) (s : zσ) (s2 : zσ), zck 8 x1 = true → r38 x1 x2 x4 x5 x6 s = some s2 → ∀ {w : zσ} {fz : Bool} {L : Nat} {xs : Nat → Int32}, zGo (zX fz L xs) d q_127 (38, [(0, .ref 1007), (1, .ref x1), (2, .int x2), (4, .int x4), (5, .int x5), (6, .int x6)], [], zmk s w, 0, 0) (none, zmk s2 w, 0, 0)) (hx1 : zck 8 x1 = true) (h : f127_246 n r38 x1 x2 x4 x5 x6 s = some s2) {w : zσ} {fz : Bool} {L : Nat} {xs : Nat → Int32} : zGo (zX fz L xs) d q_127 (246, [(0, .ref 1007), (1, .ref x1), (2, .int x2), (4, .int x4), (5, .int x5), (6, .int x6)], [], zmk s w, 0, 0) (none, zmk s2 w, 0, 0) := by
  obtain ⟨d, rfl⟩ : ∃ d0, d = d0 + 1 := ⟨d - 1, by omega⟩
  unfold f127_246 at h
  refine zGo_s (pc' := 249) (st' := []) (lv' := [(6, .int (x6 + (1 : Int32))), (0, .ref 1007), (1, .ref x1), (2, .int x2), (4, .int x4), (5, .int x5)]) dd127_246 rfl ?_
  refine zGo_s (pc' := 38) (st' := []) dd127_249 rfl ?_
  exact zGo_lv (lv := [(0, .ref 1007), (1, .ref x1), (2, .int x2), (4, .int x4), (5, .int x5), (6, .int (x6 + (1 : Int32)))]) ⟨by simp, by simp, by simp⟩ (hr38 _ _ _ _ _ _ _ hx1 h)
def f127_170 (n : Nat) (r38 : Nat → Int32 → Int32 → Int32 → Int32 → zσ → Option zσ) (x1 : Nat) (x2 : Int32) (x4 : Int32) (x5 : Int32) (x6 : Int32) (s : zσ) : Option zσ :=
    zrd 0 (s.2.2 1007 10) fun a1 =>
    if zin? x5 700 = true then
    if (s.1 (a1 + 1) (nx x5)) = (0 : Int32) then
    yb0 (f126 n x1 s) fun u8 =>
    some u8
    else zrd 0 (s.2.2 1007 10) fun a2 =>
    if zin? x5 700 = true then
    if (s.1 (a2 + 1) (nx x5)) = (1 : Int32) then
    zrd 6 (s.2.2 1007 9) fun a6 =>
    if zin? (x4 + (-1 : Int32)) 9 = true then
    if zin? (s.1 (x1 + 1) (nx (x4 + (-1 : Int32)))) 200 = true then
    zlet ((s.1 (a6 + 7) (nx (s.1 (x1 + 1) (nx (x4 + (-1 : Int32))))))) fun v7 =>
    f127_246 n r38 x1 x2 (x4 + (-1 : Int32)) v7 x6 s
    else none
    else none
    else zrd 6 (s.2.2 1007 9) fun a3 =>
    zrd 0 (s.2.2 1007 10) fun a4 =>
    if zin? x5 700 = true then
    if zin? (s.1 (a4 + 2) (nx x5)) 200 = true then
    zlet ((s.1 (a3 + 7) (nx (s.1 (a4 + 2) (nx x5))))) fun v5 =>
    f127_246 n r38 x1 x2 x4 v5 x6 s
    else none
    else none
    else none
    else none
set_option maxRecDepth 20000 in
theorem f127_170_ok {n d : Nat} {r38 : Nat → Int32 → Int32 → Int32 → Int32 → zσ → Option zσ} {x1 : Nat} {x2 : Int32} {x4 : Int32} {x5 : Int32} {x6 : Int32} {s : zσ} {s2 : zσ} (hd : 4 ≤ d) (hr38 : ∀ (x1 : Nat) (x2 : Int32) (x4 : Int32) (x5 : Int32) (x6 : Int32) (s : zσ) (s2 : zσ), zck 8 x1 = true → r38 x1 x2 x4 x5 x6 s = some s2 → ∀ {w : zσ} {fz : Bool} {L : Nat} {xs : Nat → Int32}, zGo (zX fz L xs) d q_127 (38, [(0, .ref 1007), (1, .ref x1), (2, .int x2), (4, .int x4), (5, .int x5), (6, .int x6)], [], zmk s w, 0, 0) (none, zmk s2 w, 0, 0)) (hx1 : zck 8 x1 = true) (h : f127_170 n r38 x1 x2 x4 x5 x6 s = some s2) {w : zσ} {fz : Bool} {L : Nat} {xs : Nat → Int32} : zGo (zX fz L xs) d q_127 (170, [(0, .ref 1007), (1, .ref x1), (2, .int x2), (4, .int x4), (5, .int x5), (6, .int x6)], [], zmk s w, 0, 0) (none, zmk s2 w, 0, 0) := by
  obtain ⟨d, rfl⟩ : ∃ d0, d = d0 + 1 := ⟨d - 1, by omega⟩
  unfold f127_170 at h
  refine zGo_s (pc' := 171) (st' := [.ref 1007]) dd127_170 rfl ?_
  obtain ⟨a1, e_a1, c_a1, h⟩ := ordd h
  refine cGR dd127_171 rfl rfl rfl rfl e_a1 ?_
  refine cGF (e := (a1 + 1)) dd127_174 rfl (ck0_s c_a1).1 (ck0_s c_a1).2 rfl (cf0_0 c_a1).1 ?_
  refine zGo_s (pc' := 179) (st' := [.int x5, .ref (a1 + 1)]) dd127_177 rfl ?_
  obtain ⟨hi, h⟩ := ochk h
  refine cIA dd127_179 (cf0_0 c_a1).2.1 (cf0_0 c_a1).2.2 hi ?_
  rcases oite h with ⟨hc, h⟩ | ⟨hc, h⟩
  · refine zUF dd127_180 (kNeF hc) ?_
    refine zGo_s (pc' := 184) (st' := [.ref 1007]) dd127_183 rfl ?_
    refine zGo_s (pc' := 185) (st' := [.ref x1, .ref 1007]) dd127_184 rfl ?_
    obtain ⟨u8, hq, h⟩ := obn0 h
    refine zCV0 (As := [.ref x1]) (rest := []) (b := 1007) (q' := q_126) dd127_185 rfl rfl (rcv_c rfl rfl (by decide)) rfl rfl rfl (f126_ok (d := d) (by omega) hx1 hq) ?_
    obtain rfl := ore0 h
    exact zGo_ret dd127_188 rfl rfl
  · refine zUT dd127_180 rfl (kNeT hc) ?_
    refine zGo_s (pc' := 190) (st' := [.ref 1007]) dd127_189 rfl ?_
    obtain ⟨a2, e_a2, c_a2, h⟩ := ordd h
    refine cGR dd127_190 rfl rfl rfl rfl e_a2 ?_
    refine cGF (e := (a2 + 1)) dd127_193 rfl (ck0_s c_a2).1 (ck0_s c_a2).2 rfl (cf0_0 c_a2).1 ?_
    refine zGo_s (pc' := 198) (st' := [.int x5, .ref (a2 + 1)]) dd127_196 rfl ?_
    obtain ⟨hi, h⟩ := ochk h
    refine cIA dd127_198 (cf0_0 c_a2).2.1 (cf0_0 c_a2).2.2 hi ?_
    refine zGo_s (pc' := 200) (st' := [.int (1 : Int32), .int (s.1 (a2 + 1) (nx x5))]) dd127_199 rfl ?_
    rcases oite h with ⟨hc, h⟩ | ⟨hc, h⟩
    · refine zIF dd127_200 (kNeF hc) ?_
      refine zGo_s (pc' := 206) (st' := []) (lv' := [(4, .int (x4 + (-1 : Int32))), (0, .ref 1007), (1, .ref x1), (2, .int x2), (5, .int x5), (6, .int x6)]) dd127_203 rfl ?_
      refine zGo_s (pc' := 207) (st' := [.ref 1007]) dd127_206 rfl ?_
      obtain ⟨a6, e_a6, c_a6, h⟩ := ordd h
      refine cGR dd127_207 rfl rfl rfl rfl e_a6 ?_
      refine cGF (e := (a6 + 7)) dd127_210 rfl (ck6_s c_a6).1 (ck6_s c_a6).2 rfl (cf6_6 c_a6).1 ?_
      refine zGo_s (pc' := 214) (st' := [.ref x1, .ref (a6 + 7)]) dd127_213 rfl ?_
      refine cGF (e := (x1 + 1)) dd127_214 rfl (ck8_s hx1).1 (ck8_s hx1).2 rfl (cf8_1 hx1).1 ?_
      refine zGo_s (pc' := 219) (st' := [.int (x4 + (-1 : Int32)), .ref (x1 + 1), .ref (a6 + 7)]) dd127_217 rfl ?_
      obtain ⟨hi, h⟩ := ochk h
      refine cIA dd127_219 (cf8_1 hx1).2.1 (cf8_1 hx1).2.2 hi ?_
      obtain ⟨hi, h⟩ := ochk h
      refine cIA dd127_220 (cf6_6 c_a6).2.1 (cf6_6 c_a6).2.2 hi ?_
      obtain ⟨v7, e_v7, h⟩ := olet h
      refine zGo_is1 e_v7 dd127_221 (x' := (223, [(5, .int v7), (4, .int (x4 + (-1 : Int32))), (0, .ref 1007), (1, .ref x1), (2, .int x2), (6, .int x6)], [], _, _, _)) rfl ?_
      refine zGo_s (pc' := 246) (st' := []) dd127_223 rfl ?_
      exact zGo_lv (lv := [(0, .ref 1007), (1, .ref x1), (2, .int x2), (4, .int (x4 + (-1 : Int32))), (5, .int v7), (6, .int x6)]) ⟨by simp, by simp, by simp⟩ (f127_246_ok hd hr38 hx1 h)
    · refine zIT dd127_200 rfl (kNeT hc) ?_
      refine zGo_s (pc' := 227) (st' := [.ref 1007]) dd127_226 rfl ?_
      obtain ⟨a3, e_a3, c_a3, h⟩ := ordd h
      refine cGR dd127_227 rfl rfl rfl rfl e_a3 ?_
      refine cGF (e := (a3 + 7)) dd127_230 rfl (ck6_s c_a3).1 (ck6_s c_a3).2 rfl (cf6_6 c_a3).1 ?_
      refine zGo_s (pc' := 234) (st' := [.ref 1007, .ref (a3 + 7)]) dd127_233 rfl ?_
      obtain ⟨a4, e_a4, c_a4, h⟩ := ordd h
      refine cGR dd127_234 rfl rfl rfl rfl e_a4 ?_
      refine cGF (e := (a4 + 2)) dd127_237 rfl (ck0_s c_a4).1 (ck0_s c_a4).2 rfl (cf0_1 c_a4).1 ?_
      refine zGo_s (pc' := 242) (st' := [.int x5, .ref (a4 + 2), .ref (a3 + 7)]) dd127_240 rfl ?_
      obtain ⟨hi, h⟩ := ochk h
      refine cIA dd127_242 (cf0_1 c_a4).2.1 (cf0_1 c_a4).2.2 hi ?_
      obtain ⟨hi, h⟩ := ochk h
      refine cIA dd127_243 (cf6_6 c_a3).2.1 (cf6_6 c_a3).2.2 hi ?_
      obtain ⟨v5, e_v5, h⟩ := olet h
      refine zGo_is1 e_v5 dd127_244 (x' := (246, [(5, .int v5), (0, .ref 1007), (1, .ref x1), (2, .int x2), (4, .int x4), (6, .int x6)], [], _, _, _)) rfl ?_
      exact zGo_lv (lv := [(0, .ref 1007), (1, .ref x1), (2, .int x2), (4, .int x4), (5, .int v5), (6, .int x6)]) ⟨by simp, by simp, by simp⟩ (f127_246_ok hd hr38 hx1 h)
def f127_131 (n : Nat) (r38 : Nat → Int32 → Int32 → Int32 → Int32 → zσ → Option zσ) : Nat → Nat → Int32 → Int32 → Int32 → Int32 → Int32 → zσ → Option zσ
  | 0, _, _, _, _, _, _, _ => none
  | j + 1, x1, x2, x4, x5, x6, x8, s =>
    if x8 < (12 : Int32) then
    zrd 0 (s.2.2 1007 10) fun a1 =>
    if zin? x5 700 = true then
    if (s.1 (a1 + 1) (nx x5)) = (4 : Int32) then
    zrd 0 (s.2.2 1007 10) fun a2 =>
    if zin? x5 700 = true then
    zlet ((s.1 (a2 + 2) (nx x5))) fun v3 =>
    f127_131 n r38 j x1 x2 x4 v3 x6 (x8 + (1 : Int32)) s
    else none
    else f127_170 n r38 x1 x2 x4 x5 x6 s
    else none
    else f127_170 n r38 x1 x2 x4 x5 x6 s
set_option maxRecDepth 20000 in
theorem f127_131_ok {n d : Nat} {r38 : Nat → Int32 → Int32 → Int32 → Int32 → zσ → Option zσ} (hd : 4 ≤ d) (hr38 : ∀ (x1 : Nat) (x2 : Int32) (x4 : Int32) (x5 : Int32) (x6 : Int32) (s : zσ) (s2 : zσ), zck 8 x1 = true → r38 x1 x2 x4 x5 x6 s = some s2 → ∀ {w : zσ} {fz : Bool} {L : Nat} {xs : Nat → Int32}, zGo (zX fz L xs) d q_127 (38, [(0, .ref 1007), (1, .ref x1), (2, .int x2), (4, .int x4), (5, .int x5), (6, .int x6)], [], zmk s w, 0, 0) (none, zmk s2 w, 0, 0)) : ∀ (j : Nat) (x1 : Nat) (x2 : Int32) (x4 : Int32) (x5 : Int32) (x6 : Int32) (x8 : Int32) (s : zσ) (s2 : zσ), zck 8 x1 = true → f127_131 n r38 j x1 x2 x4 x5 x6 x8 s = some s2 → ∀ {w : zσ} {fz : Bool} {L : Nat} {xs : Nat → Int32}, zGo (zX fz L xs) d q_127 (131, [(0, .ref 1007), (1, .ref x1), (2, .int x2), (4, .int x4), (5, .int x5), (6, .int x6), (8, .int x8)], [], zmk s w, 0, 0) (none, zmk s2 w, 0, 0) := by
  obtain ⟨d, rfl⟩ : ∃ d0, d = d0 + 1 := ⟨d - 1, by omega⟩
  intro j
  induction j with
  | zero => intro x1 x2 x4 x5 x6 x8 s s2 hx1 h; cases h
  | succ j ih =>
    intro x1 x2 x4 x5 x6 x8 s s2 hx1 h w fz L xs
    rw [f127_131] at h
    refine zGo_s (pc' := 133) (st' := [.int x8]) dd127_131 rfl ?_
    refine zGo_s (pc' := 135) (st' := [.int (12 : Int32), .int x8]) dd127_133 rfl ?_
    rcases oite h with ⟨hc, h⟩ | ⟨hc, h⟩
    · refine zIF dd127_135 (kGeF hc) ?_
      refine zGo_s (pc' := 139) (st' := [.ref 1007]) dd127_138 rfl ?_
      obtain ⟨a1, e_a1, c_a1, h⟩ := ordd h
      refine cGR dd127_139 rfl rfl rfl rfl e_a1 ?_
      refine cGF (e := (a1 + 1)) dd127_142 rfl (ck0_s c_a1).1 (ck0_s c_a1).2 rfl (cf0_0 c_a1).1 ?_
      refine zGo_s (pc' := 147) (st' := [.int x5, .ref (a1 + 1)]) dd127_145 rfl ?_
      obtain ⟨hi, h⟩ := ochk h
      refine cIA dd127_147 (cf0_0 c_a1).2.1 (cf0_0 c_a1).2.2 hi ?_
      refine zGo_s (pc' := 149) (st' := [.int (4 : Int32), .int (s.1 (a1 + 1) (nx x5))]) dd127_148 rfl ?_
      rcases oite h with ⟨hc, h⟩ | ⟨hc, h⟩
      · refine zIF dd127_149 (kNeF hc) ?_
        refine zGo_s (pc' := 153) (st' := [.ref 1007]) dd127_152 rfl ?_
        obtain ⟨a2, e_a2, c_a2, h⟩ := ordd h
        refine cGR dd127_153 rfl rfl rfl rfl e_a2 ?_
        refine cGF (e := (a2 + 2)) dd127_156 rfl (ck0_s c_a2).1 (ck0_s c_a2).2 rfl (cf0_1 c_a2).1 ?_
        refine zGo_s (pc' := 161) (st' := [.int x5, .ref (a2 + 2)]) dd127_159 rfl ?_
        obtain ⟨hi, h⟩ := ochk h
        refine cIA dd127_161 (cf0_1 c_a2).2.1 (cf0_1 c_a2).2.2 hi ?_
        obtain ⟨v3, e_v3, h⟩ := olet h
        refine zGo_is1 e_v3 dd127_162 (x' := (164, [(5, .int v3), (0, .ref 1007), (1, .ref x1), (2, .int x2), (4, .int x4), (6, .int x6), (8, .int x8)], [], _, _, _)) rfl ?_
        refine zGo_s (pc' := 167) (st' := []) (lv' := [(8, .int (x8 + (1 : Int32))), (5, .int v3), (0, .ref 1007), (1, .ref x1), (2, .int x2), (4, .int x4), (6, .int x6)]) dd127_164 rfl ?_
        refine zGo_s (pc' := 131) (st' := []) dd127_167 rfl ?_
        exact zGo_lv (lv := [(0, .ref 1007), (1, .ref x1), (2, .int x2), (4, .int x4), (5, .int v3), (6, .int x6), (8, .int (x8 + (1 : Int32)))]) ⟨by simp, by simp, by simp⟩ (ih _ _ _ _ _ _ _ _ hx1 h)
      · refine zIT dd127_149 rfl (kNeT hc) ?_
        exact zGo_lv (lv := [(0, .ref 1007), (1, .ref x1), (2, .int x2), (4, .int x4), (5, .int x5), (6, .int x6)]) ⟨by simp, by simp, by simp⟩ (f127_170_ok hd hr38 hx1 h)
    · refine zIT dd127_135 rfl (kGeT hc) ?_
      exact zGo_lv (lv := [(0, .ref 1007), (1, .ref x1), (2, .int x2), (4, .int x4), (5, .int x5), (6, .int x6)]) ⟨by simp, by simp, by simp⟩ (f127_170_ok hd hr38 hx1 h)
def f127_76 (n : Nat) (r38 : Nat → Int32 → Int32 → Int32 → Int32 → zσ → Option zσ) (x1 : Nat) (x2 : Int32) (x4 : Int32) (x5 : Int32) (x6 : Int32) (x7 : Int32) (s : zσ) : Option zσ :=
    if x7 = (-1 : Int32) then
    f127_131 n r38 n x1 x2 x4 x5 x6 (0 : Int32) s
    else zlet (sI s 1030 5 ((s.1 1030 5) + (1 : Int32))) fun u1 =>
    zlet (sI u1 1030 9 ((u1.1 1030 9) + ((u1.1 x1 10) - x4))) fun u2 =>
    zlet (sI u2 x1 10 x4) fun u3 =>
    yb0 (f129 n x1 x7 u3) fun u4 =>
    some u4
set_option maxRecDepth 20000 in
theorem f127_76_ok {n d : Nat} {r38 : Nat → Int32 → Int32 → Int32 → Int32 → zσ → Option zσ} {x1 : Nat} {x2 : Int32} {x4 : Int32} {x5 : Int32} {x6 : Int32} {x7 : Int32} {s : zσ} {s2 : zσ} (hd : 4 ≤ d) (hr38 : ∀ (x1 : Nat) (x2 : Int32) (x4 : Int32) (x5 : Int32) (x6 : Int32) (s : zσ) (s2 : zσ), zck 8 x1 = true → r38 x1 x2 x4 x5 x6 s = some s2 → ∀ {w : zσ} {fz : Bool} {L : Nat} {xs : Nat → Int32}, zGo (zX fz L xs) d q_127 (38, [(0, .ref 1007), (1, .ref x1), (2, .int x2), (4, .int x4), (5, .int x5), (6, .int x6)], [], zmk s w, 0, 0) (none, zmk s2 w, 0, 0)) (hx1 : zck 8 x1 = true) (h : f127_76 n r38 x1 x2 x4 x5 x6 x7 s = some s2) {w : zσ} {fz : Bool} {L : Nat} {xs : Nat → Int32} : zGo (zX fz L xs) d q_127 (76, [(0, .ref 1007), (1, .ref x1), (2, .int x2), (4, .int x4), (5, .int x5), (6, .int x6), (7, .int x7)], [], zmk s w, 0, 0) (none, zmk s2 w, 0, 0) := by
  obtain ⟨d, rfl⟩ : ∃ d0, d = d0 + 1 := ⟨d - 1, by omega⟩
  unfold f127_76 at h
  refine zGo_s (pc' := 78) (st' := [.int x7]) dd127_76 rfl ?_
  refine zGo_s (pc' := 79) (st' := [.int (-1 : Int32), .int x7]) dd127_78 rfl ?_
  rcases oite h with ⟨hc, h⟩ | ⟨hc, h⟩
  · refine zIT dd127_79 rfl (kEqT hc) ?_
    refine zGo_s (pc' := 129) (st' := [.int (0 : Int32)]) dd127_128 rfl ?_
    refine zGo_s (pc' := 131) (st' := []) (lv' := [(8, .int (0 : Int32)), (0, .ref 1007), (1, .ref x1), (2, .int x2), (4, .int x4), (5, .int x5), (6, .int x6), (7, .int x7)]) dd127_129 rfl ?_
    exact zGo_lv (lv := [(0, .ref 1007), (1, .ref x1), (2, .int x2), (4, .int x4), (5, .int x5), (6, .int x6), (8, .int (0 : Int32))]) ⟨by simp, by simp, by simp⟩ (f127_131_ok hd hr38 _ _ _ _ _ _ _ _ _ hx1 h)
  · refine zIF dd127_79 (kEqF hc) ?_
    refine zGo_s (pc' := 83) (st' := [.ref 1007]) dd127_82 rfl ?_
    refine cGF (e := 1030) dd127_83 rfl rfl rfl rfl rfl ?_
    refine zGo_s (pc' := 87) (st' := [.ref 1030, .ref 1030]) dd127_86 rfl ?_
    refine cGI dd127_87 rfl rfl rfl rfl ?_
    refine zGo_s (pc' := 91) (st' := [.int (1 : Int32), .int (s.1 1030 5), .ref 1030]) dd127_90 rfl ?_
    refine zGo_s (pc' := 92) (st' := [.int ((s.1 1030 5) + (1 : Int32)), .ref 1030]) dd127_91 rfl ?_
    obtain ⟨u1, e_u1, h⟩ := olet h
    refine cPI dd127_92 rfl rfl rfl rfl rfl rfl e_u1 ?_
    refine zGo_s (pc' := 96) (st' := [.ref 1007]) dd127_95 rfl ?_
    refine cGF (e := 1030) dd127_96 rfl rfl rfl rfl rfl ?_
    refine zGo_s (pc' := 100) (st' := [.ref 1030, .ref 1030]) dd127_99 rfl ?_
    refine cGI dd127_100 rfl rfl rfl rfl ?_
    refine zGo_s (pc' := 104) (st' := [.ref x1, .int (u1.1 1030 9), .ref 1030]) dd127_103 rfl ?_
    refine cGI dd127_104 rfl (ck8_s hx1).1 (ck8_s hx1).2 rfl ?_
    refine zGo_s (pc' := 109) (st' := [.int x4, .int (u1.1 x1 10), .int (u1.1 1030 9), .ref 1030]) dd127_107 rfl ?_
    refine zGo_s (pc' := 110) (st' := [.int ((u1.1 x1 10) - x4), .int (u1.1 1030 9), .ref 1030]) dd127_109 rfl ?_
    refine zGo_s (pc' := 111) (st' := [.int ((u1.1 1030 9) + ((u1.1 x1 10) - x4)), .ref 1030]) dd127_110 rfl ?_
    obtain ⟨u2, e_u2, h⟩ := olet h
    refine cPI dd127_111 rfl rfl rfl rfl rfl rfl e_u2 ?_
    refine zGo_s (pc' := 115) (st' := [.ref x1]) dd127_114 rfl ?_
    refine zGo_s (pc' := 117) (st' := [.int x4, .ref x1]) dd127_115 rfl ?_
    obtain ⟨u3, e_u3, h⟩ := olet h
    refine cPI dd127_117 rfl (ck8_s hx1).1 (ck8_s hx1).2 rfl rfl rfl e_u3 ?_
    refine zGo_s (pc' := 121) (st' := [.ref 1007]) dd127_120 rfl ?_
    refine zGo_s (pc' := 122) (st' := [.ref x1, .ref 1007]) dd127_121 rfl ?_
    refine zGo_s (pc' := 124) (st' := [.int x7, .ref x1, .ref 1007]) dd127_122 rfl ?_
    obtain ⟨u4, hq, h⟩ := obn0 h
    refine zCV0 (As := [.ref x1, .int x7]) (rest := []) (b := 1007) (q' := q_129) dd127_124 rfl rfl (rcv_c rfl rfl (by decide)) rfl rfl rfl (f129_ok (d := d) (by omega) hx1 hq) ?_
    obtain rfl := ore0 h
    exact zGo_ret dd127_127 rfl rfl
def f127_38 (n : Nat) : Nat → Nat → Int32 → Int32 → Int32 → Int32 → zσ → Option zσ
  | 0, _, _, _, _, _, _ => none
  | j + 1, x1, x2, x4, x5, x6, s =>
    if x6 < (1000 : Int32) then
    zrd 0 (s.2.2 1007 10) fun a1 =>
    yb1 (f44 n a1 x5 x2 s) fun v3 u2 =>
    if v3 = (-1 : Int32) then
    zrd 0 (u2.2.2 1007 10) fun a4 =>
    yb1 (f44 n a4 x5 (0 : Int32) u2) fun v6 u5 =>
    f127_76 n (f127_38 n j) x1 x2 x4 x5 x6 v6 u5
    else f127_76 n (f127_38 n j) x1 x2 x4 x5 x6 v3 u2
    else some s
set_option maxRecDepth 20000 in
theorem f127_38_ok {n d : Nat} (hd : 4 ≤ d) : ∀ (j : Nat) (x1 : Nat) (x2 : Int32) (x4 : Int32) (x5 : Int32) (x6 : Int32) (s : zσ) (s2 : zσ), zck 8 x1 = true → f127_38 n j x1 x2 x4 x5 x6 s = some s2 → ∀ {w : zσ} {fz : Bool} {L : Nat} {xs : Nat → Int32}, zGo (zX fz L xs) d q_127 (38, [(0, .ref 1007), (1, .ref x1), (2, .int x2), (4, .int x4), (5, .int x5), (6, .int x6)], [], zmk s w, 0, 0) (none, zmk s2 w, 0, 0) := by
  obtain ⟨d, rfl⟩ : ∃ d0, d = d0 + 1 := ⟨d - 1, by omega⟩
  intro j
  induction j with
  | zero => intro x1 x2 x4 x5 x6 s s2 hx1 h; cases h
  | succ j ih =>
    intro x1 x2 x4 x5 x6 s s2 hx1 h w fz L xs
    rw [f127_38] at h
    refine zGo_s (pc' := 40) (st' := [.int x6]) dd127_38 rfl ?_
    refine zGo_s (pc' := 43) (st' := [.int (1000 : Int32), .int x6]) dd127_40 rfl ?_
    rcases oite h with ⟨hc, h⟩ | ⟨hc, h⟩
    · refine zIF dd127_43 (kGeF hc) ?_
      refine zGo_s (pc' := 47) (st' := [.ref 1007]) dd127_46 rfl ?_
      obtain ⟨a1, e_a1, c_a1, h⟩ := ordd h
      refine cGR dd127_47 rfl rfl rfl rfl e_a1 ?_
      refine zGo_s (pc' := 52) (st' := [.int x5, .ref a1]) dd127_50 rfl ?_
      refine zGo_s (pc' := 53) (st' := [.int x2, .int x5, .ref a1]) dd127_52 rfl ?_
      obtain ⟨v3, u2, hq, h⟩ := obnd h
      refine zCV1 (As := [.int x5, .int x2]) (rest := []) (b := a1) (q' := q_44) dd127_53 rfl rfl (rcv_c (ck0_s c_a1).1 (ck0_s c_a1).2 (by decide)) rfl rfl rfl (f44_ok (d := d) (by omega) c_a1 hq) ?_
      refine zGo_s (pc' := 58) (st' := []) (lv' := [(7, .int v3), (0, .ref 1007), (1, .ref x1), (2, .int x2), (4, .int x4), (5, .int x5), (6, .int x6)]) dd127_56 rfl ?_
      refine zGo_s (pc' := 60) (st' := [.int v3]) dd127_58 rfl ?_
      refine zGo_s (pc' := 61) (st' := [.int (-1 : Int32), .int v3]) dd127_60 rfl ?_
      rcases oite h with ⟨hc, h⟩ | ⟨hc, h⟩
      · refine zIF dd127_61 (kNeF hc) ?_
        refine zGo_s (pc' := 65) (st' := [.ref 1007]) dd127_64 rfl ?_
        obtain ⟨a4, e_a4, c_a4, h⟩ := ordd h
        refine cGR dd127_65 rfl rfl rfl rfl e_a4 ?_
        refine zGo_s (pc' := 70) (st' := [.int x5, .ref a4]) dd127_68 rfl ?_
        refine zGo_s (pc' := 71) (st' := [.int (0 : Int32), .int x5, .ref a4]) dd127_70 rfl ?_
        obtain ⟨v6, u5, hq, h⟩ := obnd h
        refine zCV1 (As := [.int x5, .int (0 : Int32)]) (rest := []) (b := a4) (q' := q_44) dd127_71 rfl rfl (rcv_c (ck0_s c_a4).1 (ck0_s c_a4).2 (by decide)) rfl rfl rfl (f44_ok (d := d) (by omega) c_a4 hq) ?_
        refine zGo_s (pc' := 76) (st' := []) (lv' := [(7, .int v6), (0, .ref 1007), (1, .ref x1), (2, .int x2), (4, .int x4), (5, .int x5), (6, .int x6)]) dd127_74 rfl ?_
        exact zGo_lv (lv := [(0, .ref 1007), (1, .ref x1), (2, .int x2), (4, .int x4), (5, .int x5), (6, .int x6), (7, .int v6)]) ⟨by simp, by simp, by simp⟩ (f127_76_ok hd ih hx1 h)
      · refine zIT dd127_61 rfl (kNeT hc) ?_
        exact zGo_lv (lv := [(0, .ref 1007), (1, .ref x1), (2, .int x2), (4, .int x4), (5, .int x5), (6, .int x6), (7, .int v3)]) ⟨by simp, by simp, by simp⟩ (f127_76_ok hd ih hx1 h)
    · refine zIT dd127_43 rfl (kGeT hc) ?_
      obtain rfl := ore0 h
      exact zGo_ret dd127_252 rfl rfl
def f127 (n : Nat) (x1 : Nat) (x2 : Int32) (x3 : Int32) (s : zσ) : Option zσ :=
    yb0 (f128 n (s.1 x1 0) x2 x3 s) fun u1 =>
    zlet (sI u1 x1 9 x2) fun u2 =>
    zlet ((u2.1 x1 10)) fun v3 =>
    zrd 6 (u2.2.2 1007 9) fun a4 =>
    if zin? x3 200 = true then
    zlet ((u2.1 (a4 + 7) (nx x3))) fun v5 =>
    f127_38 n n x1 x2 v3 v5 (0 : Int32) u2
    else none
set_option maxRecDepth 20000 in
theorem f127_ok {n d : Nat} {x1 : Nat} {x2 : Int32} {x3 : Int32} {s : zσ} {s2 : zσ} (hd : 4 ≤ d) (hx1 : zck 8 x1 = true) (h : f127 n x1 x2 x3 s = some s2) {w : zσ} {fz : Bool} {L : Nat} {xs : Nat → Int32} : zGo (zX fz L xs) d q_127 (0, [(0, .ref 1007), (1, .ref x1), (2, .int x2), (3, .int x3)], [], zmk s w, 0, 0) (none, zmk s2 w, 0, 0) := by
  obtain ⟨d, rfl⟩ : ∃ d0, d = d0 + 1 := ⟨d - 1, by omega⟩
  unfold f127 at h
  refine zGo_s (pc' := 1) (st' := [.ref 1007]) dd127_0 rfl ?_
  refine cGF (e := 1030) dd127_1 rfl rfl rfl rfl rfl ?_
  refine zGo_s (pc' := 5) (st' := [.ref x1, .ref 1030]) dd127_4 rfl ?_
  refine cGI dd127_5 rfl (ck8_s hx1).1 (ck8_s hx1).2 rfl ?_
  refine zGo_s (pc' := 9) (st' := [.int x2, .int (s.1 x1 0), .ref 1030]) dd127_8 rfl ?_
  refine zGo_s (pc' := 10) (st' := [.int x3, .int x2, .int (s.1 x1 0), .ref 1030]) dd127_9 rfl ?_
  obtain ⟨u1, hq, h⟩ := obn0 h
  refine zCV0 (As := [.int (s.1 x1 0), .int x2, .int x3]) (rest := []) (b := 1030) (q' := q_128) dd127_10 rfl rfl (rcv_c rfl rfl (by decide)) rfl rfl rfl (f128_ok (d := d) (by omega)  hq) ?_
  refine zGo_s (pc' := 14) (st' := [.ref x1]) dd127_13 rfl ?_
  refine zGo_s (pc' := 15) (st' := [.int x2, .ref x1]) dd127_14 rfl ?_
  obtain ⟨u2, e_u2, h⟩ := olet h
  refine cPI dd127_15 rfl (ck8_s hx1).1 (ck8_s hx1).2 rfl rfl rfl e_u2 ?_
  refine zGo_s (pc' := 19) (st' := [.ref x1]) dd127_18 rfl ?_
  refine cGI dd127_19 rfl (ck8_s hx1).1 (ck8_s hx1).2 rfl ?_
  obtain ⟨v3, e_v3, h⟩ := olet h
  refine zGo_is1 e_v3 dd127_22 (x' := (24, [(4, .int v3), (0, .ref 1007), (1, .ref x1), (2, .int x2), (3, .int x3)], [], _, _, _)) rfl ?_
  refine zGo_s (pc' := 25) (st' := [.ref 1007]) dd127_24 rfl ?_
  obtain ⟨a4, e_a4, c_a4, h⟩ := ordd h
  refine cGR dd127_25 rfl rfl rfl rfl e_a4 ?_
  refine cGF (e := (a4 + 7)) dd127_28 rfl (ck6_s c_a4).1 (ck6_s c_a4).2 rfl (cf6_6 c_a4).1 ?_
  refine zGo_s (pc' := 32) (st' := [.int x3, .ref (a4 + 7)]) dd127_31 rfl ?_
  obtain ⟨hi, h⟩ := ochk h
  refine cIA dd127_32 (cf6_6 c_a4).2.1 (cf6_6 c_a4).2.2 hi ?_
  obtain ⟨v5, e_v5, h⟩ := olet h
  refine zGo_is1 e_v5 dd127_33 (x' := (35, [(5, .int v5), (4, .int v3), (0, .ref 1007), (1, .ref x1), (2, .int x2), (3, .int x3)], [], _, _, _)) rfl ?_
  refine zGo_s (pc' := 36) (st' := [.int (0 : Int32)]) dd127_35 rfl ?_
  refine zGo_s (pc' := 38) (st' := []) (lv' := [(6, .int (0 : Int32)), (5, .int v5), (4, .int v3), (0, .ref 1007), (1, .ref x1), (2, .int x2), (3, .int x3)]) dd127_36 rfl ?_
  exact zGo_lv (lv := [(0, .ref 1007), (1, .ref x1), (2, .int x2), (4, .int v3), (5, .int v5), (6, .int (0 : Int32))]) ⟨by simp, by simp, by simp⟩ (f127_38_ok hd _ _ _ _ _ _ _ _ hx1 h)
/-! PH$Machine.onward(LPH$Task;I)V -/
theorem dd131_0 : decode cX3_onward 0 = .ok (.aload_n 0, 1) := by decide +kernel
theorem dd131_1 : decode cX3_onward 1 = .ok (.getfield 59, 3) := by decide +kernel
theorem dd131_4 : decode cX3_onward 4 = .ok (.getfield 410, 3) := by decide +kernel
theorem dd131_7 : decode cX3_onward 7 = .ok (.iload_n 2, 1) := by decide +kernel
theorem dd131_8 : decode cX3_onward 8 = .ok (.iaload, 1) := by decide +kernel
theorem dd131_9 : decode cX3_onward 9 = .ok (.iconst (-1), 1) := by decide +kernel
theorem dd131_10 : decode cX3_onward 10 = .ok (.if_icmp .eq 24, 3) := by decide +kernel
theorem dd131_13 : decode cX3_onward 13 = .ok (.aload_n 1, 1) := by decide +kernel
theorem dd131_14 : decode cX3_onward 14 = .ok (.getfield 183, 3) := by decide +kernel
theorem dd131_17 : decode cX3_onward 17 = .ok (.aload_n 1, 1) := by decide +kernel
theorem dd131_18 : decode cX3_onward 18 = .ok (.getfield 186, 3) := by decide +kernel
theorem dd131_21 : decode cX3_onward 21 = .ok (.aload_n 0, 1) := by decide +kernel
theorem dd131_22 : decode cX3_onward 22 = .ok (.getfield 59, 3) := by decide +kernel
theorem dd131_25 : decode cX3_onward 25 = .ok (.getfield 410, 3) := by decide +kernel
theorem dd131_28 : decode cX3_onward 28 = .ok (.iload_n 2, 1) := by decide +kernel
theorem dd131_29 : decode cX3_onward 29 = .ok (.iaload, 1) := by decide +kernel
theorem dd131_30 : decode cX3_onward 30 = .ok (.iastore, 1) := by decide +kernel
theorem dd131_31 : decode cX3_onward 31 = .ok (.goto 18, 3) := by decide +kernel
theorem dd131_34 : decode cX3_onward 34 = .ok (.aload_n 0, 1) := by decide +kernel
theorem dd131_35 : decode cX3_onward 35 = .ok (.aload_n 1, 1) := by decide +kernel
theorem dd131_36 : decode cX3_onward 36 = .ok (.aload_n 0, 1) := by decide +kernel
theorem dd131_37 : decode cX3_onward 37 = .ok (.getfield 59, 3) := by decide +kernel
theorem dd131_40 : decode cX3_onward 40 = .ok (.getfield 413, 3) := by decide +kernel
theorem dd131_43 : decode cX3_onward 43 = .ok (.iload_n 2, 1) := by decide +kernel
theorem dd131_44 : decode cX3_onward 44 = .ok (.iaload, 1) := by decide +kernel
theorem dd131_45 : decode cX3_onward 45 = .ok (.iconst 0, 1) := by decide +kernel
theorem dd131_46 : decode cX3_onward 46 = .ok (.invokevirtual 207, 3) := by decide +kernel
theorem dd131_49 : decode cX3_onward 49 = .ok (.return_, 1) := by decide +kernel
def f131 (n : Nat) (x1 : Nat) (x2 : Int32) (s : zσ) : Option zσ :=
    zrd 6 (s.2.2 1007 9) fun a1 =>
    if zin? x2 200 = true then
    if (s.1 (a1 + 6) (nx x2)) = (-1 : Int32) then
    zrd 6 (s.2.2 1007 9) fun a2 =>
    if zin? x2 200 = true then
    yb0 (f130 n x1 (s.1 (a2 + 7) (nx x2)) (0 : Int32) s) fun u3 =>
    some u3
    else none
    else zrd 6 (s.2.2 1007 9) fun a4 =>
    if zin? x2 200 = true then
    if zin? (s.1 x1 10) 9 = true then
    zlet (sI s (x1 + 1) (nx (s.1 x1 10)) (s.1 (a4 + 6) (nx x2))) fun u5 =>
    some u5
    else none
    else none
    else none
set_option maxRecDepth 20000 in
theorem f131_ok {n d : Nat} {x1 : Nat} {x2 : Int32} {s : zσ} {s2 : zσ} (hd : 3 ≤ d) (hx1 : zck 8 x1 = true) (h : f131 n x1 x2 s = some s2) {w : zσ} {fz : Bool} {L : Nat} {xs : Nat → Int32} : zGo (zX fz L xs) d q_131 (0, [(0, .ref 1007), (1, .ref x1), (2, .int x2)], [], zmk s w, 0, 0) (none, zmk s2 w, 0, 0) := by
  obtain ⟨d, rfl⟩ : ∃ d0, d = d0 + 1 := ⟨d - 1, by omega⟩
  unfold f131 at h
  refine zGo_s (pc' := 1) (st' := [.ref 1007]) dd131_0 rfl ?_
  obtain ⟨a1, e_a1, c_a1, h⟩ := ordd h
  refine cGR dd131_1 rfl rfl rfl rfl e_a1 ?_
  refine cGF (e := (a1 + 6)) dd131_4 rfl (ck6_s c_a1).1 (ck6_s c_a1).2 rfl (cf6_5 c_a1).1 ?_
  refine zGo_s (pc' := 8) (st' := [.int x2, .ref (a1 + 6)]) dd131_7 rfl ?_
  obtain ⟨hi, h⟩ := ochk h
  refine cIA dd131_8 (cf6_5 c_a1).2.1 (cf6_5 c_a1).2.2 hi ?_
  refine zGo_s (pc' := 10) (st' := [.int (-1 : Int32), .int (s.1 (a1 + 6) (nx x2))]) dd131_9 rfl ?_
  rcases oite h with ⟨hc, h⟩ | ⟨hc, h⟩
  · refine zIT dd131_10 rfl (kEqT hc) ?_
    refine zGo_s (pc' := 35) (st' := [.ref 1007]) dd131_34 rfl ?_
    refine zGo_s (pc' := 36) (st' := [.ref x1, .ref 1007]) dd131_35 rfl ?_
    refine zGo_s (pc' := 37) (st' := [.ref 1007, .ref x1, .ref 1007]) dd131_36 rfl ?_
    obtain ⟨a2, e_a2, c_a2, h⟩ := ordd h
    refine cGR dd131_37 rfl rfl rfl rfl e_a2 ?_
    refine cGF (e := (a2 + 7)) dd131_40 rfl (ck6_s c_a2).1 (ck6_s c_a2).2 rfl (cf6_6 c_a2).1 ?_
    refine zGo_s (pc' := 44) (st' := [.int x2, .ref (a2 + 7), .ref x1, .ref 1007]) dd131_43 rfl ?_
    obtain ⟨hi, h⟩ := ochk h
    refine cIA dd131_44 (cf6_6 c_a2).2.1 (cf6_6 c_a2).2.2 hi ?_
    refine zGo_s (pc' := 46) (st' := [.int (0 : Int32), .int (s.1 (a2 + 7) (nx x2)), .ref x1, .ref 1007]) dd131_45 rfl ?_
    obtain ⟨u3, hq, h⟩ := obn0 h
    refine zCV0 (As := [.ref x1, .int (s.1 (a2 + 7) (nx x2)), .int (0 : Int32)]) (rest := []) (b := 1007) (q' := q_130) dd131_46 rfl rfl (rcv_c rfl rfl (by decide)) rfl rfl rfl (f130_ok (d := d) (by omega) hx1 hq) ?_
    obtain rfl := ore0 h
    exact zGo_ret dd131_49 rfl rfl
  · refine zIF dd131_10 (kEqF hc) ?_
    refine zGo_s (pc' := 14) (st' := [.ref x1]) dd131_13 rfl ?_
    refine cGF (e := (x1 + 1)) dd131_14 rfl (ck8_s hx1).1 (ck8_s hx1).2 rfl (cf8_1 hx1).1 ?_
    refine zGo_s (pc' := 18) (st' := [.ref x1, .ref (x1 + 1)]) dd131_17 rfl ?_
    refine cGI dd131_18 rfl (ck8_s hx1).1 (ck8_s hx1).2 rfl ?_
    refine zGo_s (pc' := 22) (st' := [.ref 1007, .int (s.1 x1 10), .ref (x1 + 1)]) dd131_21 rfl ?_
    obtain ⟨a4, e_a4, c_a4, h⟩ := ordd h
    refine cGR dd131_22 rfl rfl rfl rfl e_a4 ?_
    refine cGF (e := (a4 + 6)) dd131_25 rfl (ck6_s c_a4).1 (ck6_s c_a4).2 rfl (cf6_5 c_a4).1 ?_
    refine zGo_s (pc' := 29) (st' := [.int x2, .ref (a4 + 6), .int (s.1 x1 10), .ref (x1 + 1)]) dd131_28 rfl ?_
    obtain ⟨hi, h⟩ := ochk h
    refine cIA dd131_29 (cf6_5 c_a4).2.1 (cf6_5 c_a4).2.2 hi ?_
    obtain ⟨hi, h⟩ := ochk h
    obtain ⟨u5, e_u5, h⟩ := olet h
    refine cIS dd131_30 (cf8_1 hx1).2.1 (cf8_1 hx1).2.2 hi e_u5 ?_
    refine zGo_s (pc' := 49) (st' := []) dd131_31 rfl ?_
    obtain rfl := ore0 h
    exact zGo_ret dd131_49 rfl rfl
/-! PH$Machine.perform(LPH$Task;)V -/
theorem dd89_0 : decode cX3_perform 0 = .ok (.aload_n 1, 1) := by decide +kernel
theorem dd89_1 : decode cX3_perform 1 = .ok (.getfield 183, 3) := by decide +kernel
theorem dd89_4 : decode cX3_perform 4 = .ok (.aload_n 1, 1) := by decide +kernel
theorem dd89_5 : decode cX3_perform 5 = .ok (.getfield 186, 3) := by decide +kernel
theorem dd89_8 : decode cX3_perform 8 = .ok (.iaload, 1) := by decide +kernel
theorem dd89_9 : decode cX3_perform 9 = .ok (.istore_n 2, 1) := by decide +kernel
theorem dd89_10 : decode cX3_perform 10 = .ok (.aload_n 0, 1) := by decide +kernel
theorem dd89_11 : decode cX3_perform 11 = .ok (.getfield 41, 3) := by decide +kernel
theorem dd89_14 : decode cX3_perform 14 = .ok (.dup, 1) := by decide +kernel
theorem dd89_15 : decode cX3_perform 15 = .ok (.getfield 129, 3) := by decide +kernel
theorem dd89_18 : decode cX3_perform 18 = .ok (.iconst 1, 1) := by decide +kernel
theorem dd89_19 : decode cX3_perform 19 = .ok (.iadd, 1) := by decide +kernel
theorem dd89_20 : decode cX3_perform 20 = .ok (.putfield 129, 3) := by decide +kernel
theorem dd89_23 : decode cX3_perform 23 = .ok (.aload_n 0, 1) := by decide +kernel
theorem dd89_24 : decode cX3_perform 24 = .ok (.aload_n 1, 1) := by decide +kernel
theorem dd89_25 : decode cX3_perform 25 = .ok (.iload_n 2, 1) := by decide +kernel
theorem dd89_26 : decode cX3_perform 26 = .ok (.invokevirtual 189, 3) := by decide +kernel
theorem dd89_29 : decode cX3_perform 29 = .ok (.istore_n 3, 1) := by decide +kernel
theorem dd89_30 : decode cX3_perform 30 = .ok (.iload_n 3, 1) := by decide +kernel
theorem dd89_31 : decode cX3_perform 31 = .ok (.ifCond .ne 10, 3) := by decide +kernel
theorem dd89_34 : decode cX3_perform 34 = .ok (.aload_n 0, 1) := by decide +kernel
theorem dd89_35 : decode cX3_perform 35 = .ok (.aload_n 1, 1) := by decide +kernel
theorem dd89_36 : decode cX3_perform 36 = .ok (.iload_n 2, 1) := by decide +kernel
theorem dd89_37 : decode cX3_perform 37 = .ok (.invokevirtual 193, 3) := by decide +kernel
theorem dd89_40 : decode cX3_perform 40 = .ok (.istore_n 3, 1) := by decide +kernel
theorem dd89_41 : decode cX3_perform 41 = .ok (.iload_n 3, 1) := by decide +kernel
theorem dd89_42 : decode cX3_perform 42 = .ok (.ifCond .le 13, 3) := by decide +kernel
theorem dd89_45 : decode cX3_perform 45 = .ok (.aload_n 0, 1) := by decide +kernel
theorem dd89_46 : decode cX3_perform 46 = .ok (.aload_n 1, 1) := by decide +kernel
theorem dd89_47 : decode cX3_perform 47 = .ok (.iload_n 3, 1) := by decide +kernel
theorem dd89_48 : decode cX3_perform 48 = .ok (.iload_n 2, 1) := by decide +kernel
theorem dd89_49 : decode cX3_perform 49 = .ok (.invokevirtual 196, 3) := by decide +kernel
theorem dd89_52 : decode cX3_perform 52 = .ok (.goto 55, 3) := by decide +kernel
theorem dd89_55 : decode cX3_perform 55 = .ok (.iload_n 3, 1) := by decide +kernel
theorem dd89_56 : decode cX3_perform 56 = .ok (.ifCond .ne 12, 3) := by decide +kernel
theorem dd89_59 : decode cX3_perform 59 = .ok (.aload_n 0, 1) := by decide +kernel
theorem dd89_60 : decode cX3_perform 60 = .ok (.aload_n 1, 1) := by decide +kernel
theorem dd89_61 : decode cX3_perform 61 = .ok (.iload_n 2, 1) := by decide +kernel
theorem dd89_62 : decode cX3_perform 62 = .ok (.invokevirtual 200, 3) := by decide +kernel
theorem dd89_65 : decode cX3_perform 65 = .ok (.goto 42, 3) := by decide +kernel
theorem dd89_68 : decode cX3_perform 68 = .ok (.iload_n 3, 1) := by decide +kernel
theorem dd89_69 : decode cX3_perform 69 = .ok (.bipush (-2), 2) := by decide +kernel
theorem dd89_71 : decode cX3_perform 71 = .ok (.if_icmp .ne 15, 3) := by decide +kernel
theorem dd89_74 : decode cX3_perform 74 = .ok (.aload_n 0, 1) := by decide +kernel
theorem dd89_75 : decode cX3_perform 75 = .ok (.aload_n 1, 1) := by decide +kernel
theorem dd89_76 : decode cX3_perform 76 = .ok (.aload_n 0, 1) := by decide +kernel
theorem dd89_77 : decode cX3_perform 77 = .ok (.getfield 87, 3) := by decide +kernel
theorem dd89_80 : decode cX3_perform 80 = .ok (.invokevirtual 204, 3) := by decide +kernel
theorem dd89_83 : decode cX3_perform 83 = .ok (.goto 24, 3) := by decide +kernel
theorem dd89_86 : decode cX3_perform 86 = .ok (.iload_n 3, 1) := by decide +kernel
theorem dd89_87 : decode cX3_perform 87 = .ok (.bipush (-3), 2) := by decide +kernel
theorem dd89_89 : decode cX3_perform 89 = .ok (.if_icmp .ne 18, 3) := by decide +kernel
theorem dd89_92 : decode cX3_perform 92 = .ok (.aload_n 0, 1) := by decide +kernel
theorem dd89_93 : decode cX3_perform 93 = .ok (.aload_n 1, 1) := by decide +kernel
theorem dd89_94 : decode cX3_perform 94 = .ok (.aload_n 0, 1) := by decide +kernel
theorem dd89_95 : decode cX3_perform 95 = .ok (.getfield 87, 3) := by decide +kernel
theorem dd89_98 : decode cX3_perform 98 = .ok (.aload_n 0, 1) := by decide +kernel
theorem dd89_99 : decode cX3_perform 99 = .ok (.getfield 45, 3) := by decide +kernel
theorem dd89_102 : decode cX3_perform 102 = .ok (.iconst 0, 1) := by decide +kernel
theorem dd89_103 : decode cX3_perform 103 = .ok (.iaload, 1) := by decide +kernel
theorem dd89_104 : decode cX3_perform 104 = .ok (.invokevirtual 207, 3) := by decide +kernel
theorem dd89_107 : decode cX3_perform 107 = .ok (.return_, 1) := by decide +kernel
def f89_41 (n : Nat) (x1 : Nat) (x2 : Int32) (x3 : Int32) (s : zσ) : Option zσ :=
    if (0 : Int32) < x3 then
    yb0 (f127 n x1 x3 x2 s) fun u4 =>
    some u4
    else if x3 = (0 : Int32) then
    yb0 (f131 n x1 x2 s) fun u3 =>
    some u3
    else if x3 = (-2 : Int32) then
    yb0 (f129 n x1 (s.1 1007 17) s) fun u2 =>
    some u2
    else if x3 = (-3 : Int32) then
    if zin? (0 : Int32) 64 = true then
    yb0 (f130 n x1 (s.1 1007 17) (s.1 1033 (nx (0 : Int32))) s) fun u1 =>
    some u1
    else none
    else some s
set_option maxRecDepth 20000 in
theorem f89_41_ok {n d : Nat} {x1 : Nat} {x2 : Int32} {x3 : Int32} {s : zσ} {s2 : zσ} (hd : 5 ≤ d) (hx1 : zck 8 x1 = true) (h : f89_41 n x1 x2 x3 s = some s2) {w : zσ} {fz : Bool} {L : Nat} {xs : Nat → Int32} : zGo (zX fz L xs) d q_89 (41, [(0, .ref 1007), (1, .ref x1), (2, .int x2), (3, .int x3)], [], zmk s w, 0, 0) (none, zmk s2 w, 0, 0) := by
  obtain ⟨d, rfl⟩ : ∃ d0, d = d0 + 1 := ⟨d - 1, by omega⟩
  unfold f89_41 at h
  refine zGo_s (pc' := 42) (st' := [.int x3]) dd89_41 rfl ?_
  rcases oite h with ⟨hc, h⟩ | ⟨hc, h⟩
  · refine zUF dd89_42 (kLeF hc) ?_
    refine zGo_s (pc' := 46) (st' := [.ref 1007]) dd89_45 rfl ?_
    refine zGo_s (pc' := 47) (st' := [.ref x1, .ref 1007]) dd89_46 rfl ?_
    refine zGo_s (pc' := 48) (st' := [.int x3, .ref x1, .ref 1007]) dd89_47 rfl ?_
    refine zGo_s (pc' := 49) (st' := [.int x2, .int x3, .ref x1, .ref 1007]) dd89_48 rfl ?_
    obtain ⟨u4, hq, h⟩ := obn0 h
    refine zCV0 (As := [.ref x1, .int x3, .int x2]) (rest := []) (b := 1007) (q' := q_127) dd89_49 rfl rfl (rcv_c rfl rfl (by decide)) rfl rfl rfl (f127_ok (d := d) (by omega) hx1 hq) ?_
    refine zGo_s (pc' := 107) (st' := []) dd89_52 rfl ?_
    obtain rfl := ore0 h
    exact zGo_ret dd89_107 rfl rfl
  · refine zUT dd89_42 rfl (kLeT hc) ?_
    refine zGo_s (pc' := 56) (st' := [.int x3]) dd89_55 rfl ?_
    rcases oite h with ⟨hc, h⟩ | ⟨hc, h⟩
    · refine zUF dd89_56 (kNeF hc) ?_
      refine zGo_s (pc' := 60) (st' := [.ref 1007]) dd89_59 rfl ?_
      refine zGo_s (pc' := 61) (st' := [.ref x1, .ref 1007]) dd89_60 rfl ?_
      refine zGo_s (pc' := 62) (st' := [.int x2, .ref x1, .ref 1007]) dd89_61 rfl ?_
      obtain ⟨u3, hq, h⟩ := obn0 h
      refine zCV0 (As := [.ref x1, .int x2]) (rest := []) (b := 1007) (q' := q_131) dd89_62 rfl rfl (rcv_c rfl rfl (by decide)) rfl rfl rfl (f131_ok (d := d) (by omega) hx1 hq) ?_
      refine zGo_s (pc' := 107) (st' := []) dd89_65 rfl ?_
      obtain rfl := ore0 h
      exact zGo_ret dd89_107 rfl rfl
    · refine zUT dd89_56 rfl (kNeT hc) ?_
      refine zGo_s (pc' := 69) (st' := [.int x3]) dd89_68 rfl ?_
      refine zGo_s (pc' := 71) (st' := [.int (-2 : Int32), .int x3]) dd89_69 rfl ?_
      rcases oite h with ⟨hc, h⟩ | ⟨hc, h⟩
      · refine zIF dd89_71 (kNeF hc) ?_
        refine zGo_s (pc' := 75) (st' := [.ref 1007]) dd89_74 rfl ?_
        refine zGo_s (pc' := 76) (st' := [.ref x1, .ref 1007]) dd89_75 rfl ?_
        refine zGo_s (pc' := 77) (st' := [.ref 1007, .ref x1, .ref 1007]) dd89_76 rfl ?_
        refine cGI dd89_77 rfl rfl rfl rfl ?_
        obtain ⟨u2, hq, h⟩ := obn0 h
        refine zCV0 (As := [.ref x1, .int (s.1 1007 17)]) (rest := []) (b := 1007) (q' := q_129) dd89_80 rfl rfl (rcv_c rfl rfl (by decide)) rfl rfl rfl (f129_ok (d := d) (by omega) hx1 hq) ?_
        refine zGo_s (pc' := 107) (st' := []) dd89_83 rfl ?_
        obtain rfl := ore0 h
        exact zGo_ret dd89_107 rfl rfl
      · refine zIT dd89_71 rfl (kNeT hc) ?_
        refine zGo_s (pc' := 87) (st' := [.int x3]) dd89_86 rfl ?_
        refine zGo_s (pc' := 89) (st' := [.int (-3 : Int32), .int x3]) dd89_87 rfl ?_
        rcases oite h with ⟨hc, h⟩ | ⟨hc, h⟩
        · refine zIF dd89_89 (kNeF hc) ?_
          refine zGo_s (pc' := 93) (st' := [.ref 1007]) dd89_92 rfl ?_
          refine zGo_s (pc' := 94) (st' := [.ref x1, .ref 1007]) dd89_93 rfl ?_
          refine zGo_s (pc' := 95) (st' := [.ref 1007, .ref x1, .ref 1007]) dd89_94 rfl ?_
          refine cGI dd89_95 rfl rfl rfl rfl ?_
          refine zGo_s (pc' := 99) (st' := [.ref 1007, .int (s.1 1007 17), .ref x1, .ref 1007]) dd89_98 rfl ?_
          refine cGF (e := 1033) dd89_99 rfl rfl rfl rfl rfl ?_
          refine zGo_s (pc' := 103) (st' := [.int (0 : Int32), .ref 1033, .int (s.1 1007 17), .ref x1, .ref 1007]) dd89_102 rfl ?_
          obtain ⟨hi, h⟩ := ochk h
          refine cIA dd89_103 rfl rfl hi ?_
          obtain ⟨u1, hq, h⟩ := obn0 h
          refine zCV0 (As := [.ref x1, .int (s.1 1007 17), .int (s.1 1033 (nx (0 : Int32)))]) (rest := []) (b := 1007) (q' := q_130) dd89_104 rfl rfl (rcv_c rfl rfl (by decide)) rfl rfl rfl (f130_ok (d := d) (by omega) hx1 hq) ?_
          obtain rfl := ore0 h
          exact zGo_ret dd89_107 rfl rfl
        · refine zIT dd89_89 rfl (kNeT hc) ?_
          obtain rfl := ore0 h
          exact zGo_ret dd89_107 rfl rfl
def f89 (n : Nat) (x1 : Nat) (s : zσ) : Option zσ :=
    if zin? (s.1 x1 10) 9 = true then
    zlet ((s.1 (x1 + 1) (nx (s.1 x1 10)))) fun v1 =>
    zlet (sI s 1030 7 ((s.1 1030 7) + (1 : Int32))) fun u2 =>
    yb1 (f90 n x1 v1 u2) fun v4 u3 =>
    if v4 = (0 : Int32) then
    yb1 (f97 n x1 v1 u3) fun v6 u5 =>
    f89_41 n x1 v1 v6 u5
    else f89_41 n x1 v1 v4 u3
    else none
set_option maxRecDepth 20000 in
theorem f89_ok {n d : Nat} {x1 : Nat} {s : zσ} {s2 : zσ} (hd : 5 ≤ d) (hx1 : zck 8 x1 = true) (h : f89 n x1 s = some s2) {w : zσ} {fz : Bool} {L : Nat} {xs : Nat → Int32} : zGo (zX fz L xs) d q_89 (0, [(0, .ref 1007), (1, .ref x1)], [], zmk s w, 0, 0) (none, zmk s2 w, 0, 0) := by
  obtain ⟨d, rfl⟩ : ∃ d0, d = d0 + 1 := ⟨d - 1, by omega⟩
  unfold f89 at h
  refine zGo_s (pc' := 1) (st' := [.ref x1]) dd89_0 rfl ?_
  refine cGF (e := (x1 + 1)) dd89_1 rfl (ck8_s hx1).1 (ck8_s hx1).2 rfl (cf8_1 hx1).1 ?_
  refine zGo_s (pc' := 5) (st' := [.ref x1, .ref (x1 + 1)]) dd89_4 rfl ?_
  refine cGI dd89_5 rfl (ck8_s hx1).1 (ck8_s hx1).2 rfl ?_
  obtain ⟨hi, h⟩ := ochk h
  refine cIA dd89_8 (cf8_1 hx1).2.1 (cf8_1 hx1).2.2 hi ?_
  obtain ⟨v1, e_v1, h⟩ := olet h
  refine zGo_is1 e_v1 dd89_9 (x' := (10, [(2, .int v1), (0, .ref 1007), (1, .ref x1)], [], _, _, _)) rfl ?_
  refine zGo_s (pc' := 11) (st' := [.ref 1007]) dd89_10 rfl ?_
  refine cGF (e := 1030) dd89_11 rfl rfl rfl rfl rfl ?_
  refine zGo_s (pc' := 15) (st' := [.ref 1030, .ref 1030]) dd89_14 rfl ?_
  refine cGI dd89_15 rfl rfl rfl rfl ?_
  refine zGo_s (pc' := 19) (st' := [.int (1 : Int32), .int (s.1 1030 7), .ref 1030]) dd89_18 rfl ?_
  refine zGo_s (pc' := 20) (st' := [.int ((s.1 1030 7) + (1 : Int32)), .ref 1030]) dd89_19 rfl ?_
  obtain ⟨u2, e_u2, h⟩ := olet h
  refine cPI dd89_20 rfl rfl rfl rfl rfl rfl e_u2 ?_
  refine zGo_s (pc' := 24) (st' := [.ref 1007]) dd89_23 rfl ?_
  refine zGo_s (pc' := 25) (st' := [.ref x1, .ref 1007]) dd89_24 rfl ?_
  refine zGo_s (pc' := 26) (st' := [.int v1, .ref x1, .ref 1007]) dd89_25 rfl ?_
  obtain ⟨v4, u3, hq, h⟩ := obnd h
  refine zCV1 (As := [.ref x1, .int v1]) (rest := []) (b := 1007) (q' := q_90) dd89_26 rfl rfl (rcv_c rfl rfl (by decide)) rfl rfl rfl (f90_ok (d := d) (by omega) hx1 hq) ?_
  refine zGo_s (pc' := 30) (st' := []) (lv' := [(3, .int v4), (2, .int v1), (0, .ref 1007), (1, .ref x1)]) dd89_29 rfl ?_
  refine zGo_s (pc' := 31) (st' := [.int v4]) dd89_30 rfl ?_
  rcases oite h with ⟨hc, h⟩ | ⟨hc, h⟩
  · refine zUF dd89_31 (kNeF hc) ?_
    refine zGo_s (pc' := 35) (st' := [.ref 1007]) dd89_34 rfl ?_
    refine zGo_s (pc' := 36) (st' := [.ref x1, .ref 1007]) dd89_35 rfl ?_
    refine zGo_s (pc' := 37) (st' := [.int v1, .ref x1, .ref 1007]) dd89_36 rfl ?_
    obtain ⟨v6, u5, hq, h⟩ := obnd h
    refine zCV1 (As := [.ref x1, .int v1]) (rest := []) (b := 1007) (q' := q_97) dd89_37 rfl rfl (rcv_c rfl rfl (by decide)) rfl rfl rfl (f97_ok (d := d) (by omega) hx1 hq) ?_
    refine zGo_s (pc' := 41) (st' := []) (lv' := [(3, .int v6), (2, .int v1), (0, .ref 1007), (1, .ref x1)]) dd89_40 rfl ?_
    exact zGo_lv (lv := [(0, .ref 1007), (1, .ref x1), (2, .int v1), (3, .int v6)]) ⟨by simp, by simp, by simp⟩ (f89_41_ok hd hx1 h)
  · refine zUT dd89_31 rfl (kNeT hc) ?_
    exact zGo_lv (lv := [(0, .ref 1007), (1, .ref x1), (2, .int v1), (3, .int v4)]) ⟨by simp, by simp, by simp⟩ (f89_41_ok hd hx1 h)
/-! PH$Machine.serve()V -/
theorem znl_c (a : Nat) : (a = 0 ∧ znl a = .null) ∨ (¬ a = 0 ∧ znl a = .ref a) := by
  unfold znl
  by_cases h : a = 0
  · exact Or.inl ⟨h, if_pos h⟩
  · exact Or.inr ⟨h, if_neg h⟩
theorem dd132_0 : decode cX3_serve 0 = .ok (.iconst 0, 1) := by decide +kernel
theorem dd132_1 : decode cX3_serve 1 = .ok (.istore_n 1, 1) := by decide +kernel
theorem dd132_2 : decode cX3_serve 2 = .ok (.iload_n 1, 1) := by decide +kernel
theorem dd132_3 : decode cX3_serve 3 = .ok (.bipush 8, 2) := by decide +kernel
theorem dd132_5 : decode cX3_serve 5 = .ok (.if_icmp .gt 138, 3) := by decide +kernel
theorem dd132_8 : decode cX3_serve 8 = .ok (.aconst_null, 1) := by decide +kernel
theorem dd132_9 : decode cX3_serve 9 = .ok (.astore_n 2, 1) := by decide +kernel
theorem dd132_10 : decode cX3_serve 10 = .ok (.iconst 0, 1) := by decide +kernel
theorem dd132_11 : decode cX3_serve 11 = .ok (.istore_n 3, 1) := by decide +kernel
theorem dd132_12 : decode cX3_serve 12 = .ok (.iload_n 3, 1) := by decide +kernel
theorem dd132_13 : decode cX3_serve 13 = .ok (.aload_n 0, 1) := by decide +kernel
theorem dd132_14 : decode cX3_serve 14 = .ok (.getfield 71, 3) := by decide +kernel
theorem dd132_17 : decode cX3_serve 17 = .ok (.if_icmp .ge 61, 3) := by decide +kernel
theorem dd132_20 : decode cX3_serve 20 = .ok (.aload_n 0, 1) := by decide +kernel
theorem dd132_21 : decode cX3_serve 21 = .ok (.getfield 11, 3) := by decide +kernel
theorem dd132_24 : decode cX3_serve 24 = .ok (.iload_n 3, 1) := by decide +kernel
theorem dd132_25 : decode cX3_serve 25 = .ok (.aaload, 1) := by decide +kernel
theorem dd132_26 : decode cX3_serve 26 = .ok (.astore 4, 2) := by decide +kernel
theorem dd132_28 : decode cX3_serve 28 = .ok (.aload 4, 2) := by decide +kernel
theorem dd132_30 : decode cX3_serve 30 = .ok (.invokevirtual 393, 3) := by decide +kernel
theorem dd132_33 : decode cX3_serve 33 = .ok (.ifCond .eq 39, 3) := by decide +kernel
theorem dd132_36 : decode cX3_serve 36 = .ok (.aload_n 2, 1) := by decide +kernel
theorem dd132_37 : decode cX3_serve 37 = .ok (.ifnull 12, 3) := by decide +kernel
theorem dd132_40 : decode cX3_serve 40 = .ok (.aload 4, 2) := by decide +kernel
theorem dd132_42 : decode cX3_serve 42 = .ok (.aload_n 2, 1) := by decide +kernel
theorem dd132_43 : decode cX3_serve 43 = .ok (.invokestatic 397, 3) := by decide +kernel
theorem dd132_46 : decode cX3_serve 46 = .ok (.ifCond .eq 26, 3) := by decide +kernel
theorem dd132_49 : decode cX3_serve 49 = .ok (.aload_n 0, 1) := by decide +kernel
theorem dd132_50 : decode cX3_serve 50 = .ok (.aload 4, 2) := by decide +kernel
theorem dd132_52 : decode cX3_serve 52 = .ok (.aload 4, 2) := by decide +kernel
theorem dd132_54 : decode cX3_serve 54 = .ok (.getfield 183, 3) := by decide +kernel
theorem dd132_57 : decode cX3_serve 57 = .ok (.aload 4, 2) := by decide +kernel
theorem dd132_59 : decode cX3_serve 59 = .ok (.getfield 186, 3) := by decide +kernel
theorem dd132_62 : decode cX3_serve 62 = .ok (.iaload, 1) := by decide +kernel
theorem dd132_63 : decode cX3_serve 63 = .ok (.invokevirtual 369, 3) := by decide +kernel
theorem dd132_66 : decode cX3_serve 66 = .ok (.ifCond .eq 6, 3) := by decide +kernel
theorem dd132_69 : decode cX3_serve 69 = .ok (.aload 4, 2) := by decide +kernel
theorem dd132_71 : decode cX3_serve 71 = .ok (.astore_n 2, 1) := by decide +kernel
theorem dd132_72 : decode cX3_serve 72 = .ok (.iinc 3 1, 3) := by decide +kernel
theorem dd132_75 : decode cX3_serve 75 = .ok (.goto (-63), 3) := by decide +kernel
theorem dd132_78 : decode cX3_serve 78 = .ok (.aload_n 2, 1) := by decide +kernel
theorem dd132_79 : decode cX3_serve 79 = .ok (.ifnonnull 4, 3) := by decide +kernel
theorem dd132_82 : decode cX3_serve 82 = .ok (.return_, 1) := by decide +kernel
theorem dd132_83 : decode cX3_serve 83 = .ok (.aload_n 2, 1) := by decide +kernel
theorem dd132_84 : decode cX3_serve 84 = .ok (.getfield 183, 3) := by decide +kernel
theorem dd132_87 : decode cX3_serve 87 = .ok (.aload_n 2, 1) := by decide +kernel
theorem dd132_88 : decode cX3_serve 88 = .ok (.getfield 186, 3) := by decide +kernel
theorem dd132_91 : decode cX3_serve 91 = .ok (.iaload, 1) := by decide +kernel
theorem dd132_92 : decode cX3_serve 92 = .ok (.istore_n 3, 1) := by decide +kernel
theorem dd132_93 : decode cX3_serve 93 = .ok (.aload_n 0, 1) := by decide +kernel
theorem dd132_94 : decode cX3_serve 94 = .ok (.aload_n 2, 1) := by decide +kernel
theorem dd132_95 : decode cX3_serve 95 = .ok (.iload_n 3, 1) := by decide +kernel
theorem dd132_96 : decode cX3_serve 96 = .ok (.invokevirtual 373, 3) := by decide +kernel
theorem dd132_99 : decode cX3_serve 99 = .ok (.aload_n 2, 1) := by decide +kernel
theorem dd132_100 : decode cX3_serve 100 = .ok (.aload_n 0, 1) := by decide +kernel
theorem dd132_101 : decode cX3_serve 101 = .ok (.dup, 1) := by decide +kernel
theorem dd132_102 : decode cX3_serve 102 = .ok (.getfield 81, 3) := by decide +kernel
theorem dd132_105 : decode cX3_serve 105 = .ok (.iconst 1, 1) := by decide +kernel
theorem dd132_106 : decode cX3_serve 106 = .ok (.iadd, 1) := by decide +kernel
theorem dd132_107 : decode cX3_serve 107 = .ok (.dup_x1, 1) := by decide +kernel
theorem dd132_108 : decode cX3_serve 108 = .ok (.putfield 81, 3) := by decide +kernel
theorem dd132_111 : decode cX3_serve 111 = .ok (.putfield 180, 3) := by decide +kernel
theorem dd132_114 : decode cX3_serve 114 = .ok (.aload_n 2, 1) := by decide +kernel
theorem dd132_115 : decode cX3_serve 115 = .ok (.aload_n 2, 1) := by decide +kernel
theorem dd132_116 : decode cX3_serve 116 = .ok (.getfield 123, 3) := by decide +kernel
theorem dd132_119 : decode cX3_serve 119 = .ok (.iconst 4, 1) := by decide +kernel
theorem dd132_120 : decode cX3_serve 120 = .ok (.if_icmp .ne 7, 3) := by decide +kernel
theorem dd132_123 : decode cX3_serve 123 = .ok (.iconst 2, 1) := by decide +kernel
theorem dd132_124 : decode cX3_serve 124 = .ok (.goto 4, 3) := by decide +kernel
theorem dd132_127 : decode cX3_serve 127 = .ok (.iconst 1, 1) := by decide +kernel
theorem dd132_128 : decode cX3_serve 128 = .ok (.putfield 123, 3) := by decide +kernel
theorem dd132_131 : decode cX3_serve 131 = .ok (.aload_n 0, 1) := by decide +kernel
theorem dd132_132 : decode cX3_serve 132 = .ok (.aload_n 2, 1) := by decide +kernel
theorem dd132_133 : decode cX3_serve 133 = .ok (.iload_n 3, 1) := by decide +kernel
theorem dd132_134 : decode cX3_serve 134 = .ok (.invokevirtual 200, 3) := by decide +kernel
theorem dd132_137 : decode cX3_serve 137 = .ok (.iinc 1 1, 3) := by decide +kernel
theorem dd132_140 : decode cX3_serve 140 = .ok (.goto (-138), 3) := by decide +kernel
theorem dd132_143 : decode cX3_serve 143 = .ok (.return_, 1) := by decide +kernel
def f132_128 (n : Nat) (r2 : Int32 → zσ → Option zσ) (x1 : Int32) (x2 : Nat) (x3 : Int32) (y0 : Int32) (y1 : Nat) (s : zσ) : Option zσ :=
    zlet (sI s y1 3 y0) fun u1 =>
    yb0 (f131 n x2 x3 u1) fun u2 =>
    r2 (x1 + (1 : Int32)) u2
set_option maxRecDepth 20000 in
theorem f132_128_ok {n d : Nat} {r2 : Int32 → zσ → Option zσ} {x1 : Int32} {x2 : Nat} {x3 : Int32} {y0 : Int32} {y1 : Nat} {s : zσ} {s2 : zσ} (hd : 4 ≤ d) (hr2 : ∀ (x1 : Int32) (s : zσ) (s2 : zσ), r2 x1 s = some s2 → ∀ {w : zσ} {fz : Bool} {L : Nat} {xs : Nat → Int32}, zGo (zX fz L xs) d q_132 (2, [(0, .ref 1007), (1, .int x1)], [], zmk s w, 0, 0) (none, zmk s2 w, 0, 0)) (hx2 : zck 8 x2 = true) (hy1 : zck 8 y1 = true) (h : f132_128 n r2 x1 x2 x3 y0 y1 s = some s2) {w : zσ} {fz : Bool} {L : Nat} {xs : Nat → Int32} : zGo (zX fz L xs) d q_132 (128, [(0, .ref 1007), (1, .int x1), (2, .ref x2), (3, .int x3)], [.int y0, .ref y1], zmk s w, 0, 0) (none, zmk s2 w, 0, 0) := by
  obtain ⟨d, rfl⟩ : ∃ d0, d = d0 + 1 := ⟨d - 1, by omega⟩
  unfold f132_128 at h
  obtain ⟨u1, e_u1, h⟩ := olet h
  refine cPI dd132_128 rfl (ck8_s hy1).1 (ck8_s hy1).2 rfl rfl rfl e_u1 ?_
  refine zGo_s (pc' := 132) (st' := [.ref 1007]) dd132_131 rfl ?_
  refine zGo_s (pc' := 133) (st' := [.ref x2, .ref 1007]) dd132_132 rfl ?_
  refine zGo_s (pc' := 134) (st' := [.int x3, .ref x2, .ref 1007]) dd132_133 rfl ?_
  obtain ⟨u2, hq, h⟩ := obn0 h
  refine zCV0 (As := [.ref x2, .int x3]) (rest := []) (b := 1007) (q' := q_131) dd132_134 rfl rfl (rcv_c rfl rfl (by decide)) rfl rfl rfl (f131_ok (d := d) (by omega) hx2 hq) ?_
  refine zGo_s (pc' := 140) (st' := []) (lv' := [(1, .int (x1 + (1 : Int32))), (0, .ref 1007), (2, .ref x2), (3, .int x3)]) dd132_137 rfl ?_
  refine zGo_s (pc' := 2) (st' := []) dd132_140 rfl ?_
  exact zGo_lv (lv := [(0, .ref 1007), (1, .int (x1 + (1 : Int32)))]) ⟨by simp, by simp, by simp⟩ (hr2 _ _ _ h)
def f132_72 (n : Nat) (r2 : Int32 → zσ → Option zσ) (r12 : Int32 → Nat → Int32 → zσ → Option zσ) (x1 : Int32) (x2 : Nat) (x3 : Int32) (s : zσ) : Option zσ :=
    r12 x1 x2 (x3 + (1 : Int32)) s
set_option maxRecDepth 20000 in
theorem f132_72_ok {n d : Nat} {r2 : Int32 → zσ → Option zσ} {r12 : Int32 → Nat → Int32 → zσ → Option zσ} {x1 : Int32} {x2 : Nat} {x3 : Int32} {s : zσ} {s2 : zσ} (hd : 4 ≤ d) (hr2 : ∀ (x1 : Int32) (s : zσ) (s2 : zσ), r2 x1 s = some s2 → ∀ {w : zσ} {fz : Bool} {L : Nat} {xs : Nat → Int32}, zGo (zX fz L xs) d q_132 (2, [(0, .ref 1007), (1, .int x1)], [], zmk s w, 0, 0) (none, zmk s2 w, 0, 0)) (hr12 : ∀ (x1 : Int32) (x2 : Nat) (x3 : Int32) (s : zσ) (s2 : zσ), r12 x1 x2 x3 s = some s2 → ∀ {w : zσ} {fz : Bool} {L : Nat} {xs : Nat → Int32}, zGo (zX fz L xs) d q_132 (12, [(0, .ref 1007), (1, .int x1), (2, (znl x2)), (3, .int x3)], [], zmk s w, 0, 0) (none, zmk s2 w, 0, 0)) (h : f132_72 n r2 r12 x1 x2 x3 s = some s2) {w : zσ} {fz : Bool} {L : Nat} {xs : Nat → Int32} : zGo (zX fz L xs) d q_132 (72, [(0, .ref 1007), (1, .int x1), (2, (znl x2)), (3, .int x3)], [], zmk s w, 0, 0) (none, zmk s2 w, 0, 0) := by
  obtain ⟨d, rfl⟩ : ∃ d0, d = d0 + 1 := ⟨d - 1, by omega⟩
  unfold f132_72 at h
  rcases znl_c x2 with ⟨hz, hv⟩ | ⟨hz, hv⟩
  · rw [hv]
    refine zGo_s (pc' := 75) (st' := []) (lv' := [(3, .int (x3 + (1 : Int32))), (0, .ref 1007), (1, .int x1), (2, .null)]) dd132_72 rfl ?_
    refine zGo_s (pc' := 12) (st' := []) dd132_75 rfl ?_
    rw [show (.null : Value) = znl x2 from hv.symm]
    exact zGo_lv (lv := [(0, .ref 1007), (1, .int x1), (2, (znl x2)), (3, .int (x3 + (1 : Int32)))]) ⟨by simp, by simp, by simp⟩ (hr12 _ _ _ _ _ h)
  · rw [hv]
    refine zGo_s (pc' := 75) (st' := []) (lv' := [(3, .int (x3 + (1 : Int32))), (0, .ref 1007), (1, .int x1), (2, .ref x2)]) dd132_72 rfl ?_
    refine zGo_s (pc' := 12) (st' := []) dd132_75 rfl ?_
    rw [show (.ref x2 : Value) = znl x2 from hv.symm]
    exact zGo_lv (lv := [(0, .ref 1007), (1, .int x1), (2, (znl x2)), (3, .int (x3 + (1 : Int32)))]) ⟨by simp, by simp, by simp⟩ (hr12 _ _ _ _ _ h)
def f132_49 (n : Nat) (r2 : Int32 → zσ → Option zσ) (r12 : Int32 → Nat → Int32 → zσ → Option zσ) (x1 : Int32) (x2 : Nat) (x3 : Int32) (x4 : Nat) (s : zσ) : Option zσ :=
    if zin? (s.1 x4 10) 9 = true then
    yb1 (f107 n x4 (s.1 (x4 + 1) (nx (s.1 x4 10))) s) fun v2 u1 =>
    if v2 = (0 : Int32) then
    f132_72 n r2 r12 x1 x2 x3 u1
    else f132_72 n r2 r12 x1 x4 x3 u1
    else none
set_option maxRecDepth 20000 in
theorem f132_49_ok {n d : Nat} {r2 : Int32 → zσ → Option zσ} {r12 : Int32 → Nat → Int32 → zσ → Option zσ} {x1 : Int32} {x2 : Nat} {x3 : Int32} {x4 : Nat} {s : zσ} {s2 : zσ} (hd : 4 ≤ d) (hr2 : ∀ (x1 : Int32) (s : zσ) (s2 : zσ), r2 x1 s = some s2 → ∀ {w : zσ} {fz : Bool} {L : Nat} {xs : Nat → Int32}, zGo (zX fz L xs) d q_132 (2, [(0, .ref 1007), (1, .int x1)], [], zmk s w, 0, 0) (none, zmk s2 w, 0, 0)) (hr12 : ∀ (x1 : Int32) (x2 : Nat) (x3 : Int32) (s : zσ) (s2 : zσ), r12 x1 x2 x3 s = some s2 → ∀ {w : zσ} {fz : Bool} {L : Nat} {xs : Nat → Int32}, zGo (zX fz L xs) d q_132 (12, [(0, .ref 1007), (1, .int x1), (2, (znl x2)), (3, .int x3)], [], zmk s w, 0, 0) (none, zmk s2 w, 0, 0)) (hx4 : zck 8 x4 = true) (h : f132_49 n r2 r12 x1 x2 x3 x4 s = some s2) {w : zσ} {fz : Bool} {L : Nat} {xs : Nat → Int32} : zGo (zX fz L xs) d q_132 (49, [(0, .ref 1007), (1, .int x1), (2, (znl x2)), (3, .int x3), (4, .ref x4)], [], zmk s w, 0, 0) (none, zmk s2 w, 0, 0) := by
  obtain ⟨d, rfl⟩ : ∃ d0, d = d0 + 1 := ⟨d - 1, by omega⟩
  unfold f132_49 at h
  rcases znl_c x2 with ⟨hz, hv⟩ | ⟨hz, hv⟩
  · rw [hv]
    refine zGo_s (pc' := 50) (st' := [.ref 1007]) dd132_49 rfl ?_
    refine zGo_s (pc' := 52) (st' := [.ref x4, .ref 1007]) dd132_50 rfl ?_
    refine zGo_s (pc' := 54) (st' := [.ref x4, .ref x4, .ref 1007]) dd132_52 rfl ?_
    refine cGF (e := (x4 + 1)) dd132_54 rfl (ck8_s hx4).1 (ck8_s hx4).2 rfl (cf8_1 hx4).1 ?_
    refine zGo_s (pc' := 59) (st' := [.ref x4, .ref (x4 + 1), .ref x4, .ref 1007]) dd132_57 rfl ?_
    refine cGI dd132_59 rfl (ck8_s hx4).1 (ck8_s hx4).2 rfl ?_
    obtain ⟨hi, h⟩ := ochk h
    refine cIA dd132_62 (cf8_1 hx4).2.1 (cf8_1 hx4).2.2 hi ?_
    obtain ⟨v2, u1, hq, h⟩ := obnd h
    refine zCV1 (As := [.ref x4, .int (s.1 (x4 + 1) (nx (s.1 x4 10)))]) (rest := []) (b := 1007) (q' := q_107) dd132_63 rfl rfl (rcv_c rfl rfl (by decide)) rfl rfl rfl (f107_ok (d := d) (by omega) hx4 hq) ?_
    rcases oite h with ⟨hc, h⟩ | ⟨hc, h⟩
    · refine zUT dd132_66 rfl (kEqT hc) ?_
      rw [show (.null : Value) = znl x2 from hv.symm]
      exact zGo_lv (lv := [(0, .ref 1007), (1, .int x1), (2, (znl x2)), (3, .int x3)]) ⟨by simp, by simp, by simp⟩ (f132_72_ok hd hr2 hr12 h)
    · refine zUF dd132_66 (kEqF hc) ?_
      refine zGo_s (pc' := 71) (st' := [.ref x4]) dd132_69 rfl ?_
      refine zGo_s (pc' := 72) (st' := []) (lv' := [(2, .ref x4), (0, .ref 1007), (1, .int x1), (3, .int x3), (4, .ref x4)]) dd132_71 rfl ?_
      rw [← znl_ck hx4]
      exact zGo_lv (lv := [(0, .ref 1007), (1, .int x1), (2, (znl x4)), (3, .int x3)]) ⟨by simp, by simp, by simp⟩ (f132_72_ok hd hr2 hr12 h)
  · rw [hv]
    refine zGo_s (pc' := 50) (st' := [.ref 1007]) dd132_49 rfl ?_
    refine zGo_s (pc' := 52) (st' := [.ref x4, .ref 1007]) dd132_50 rfl ?_
    refine zGo_s (pc' := 54) (st' := [.ref x4, .ref x4, .ref 1007]) dd132_52 rfl ?_
    refine cGF (e := (x4 + 1)) dd132_54 rfl (ck8_s hx4).1 (ck8_s hx4).2 rfl (cf8_1 hx4).1 ?_
    refine zGo_s (pc' := 59) (st' := [.ref x4, .ref (x4 + 1), .ref x4, .ref 1007]) dd132_57 rfl ?_
    refine cGI dd132_59 rfl (ck8_s hx4).1 (ck8_s hx4).2 rfl ?_
    obtain ⟨hi, h⟩ := ochk h
    refine cIA dd132_62 (cf8_1 hx4).2.1 (cf8_1 hx4).2.2 hi ?_
    obtain ⟨v2, u1, hq, h⟩ := obnd h
    refine zCV1 (As := [.ref x4, .int (s.1 (x4 + 1) (nx (s.1 x4 10)))]) (rest := []) (b := 1007) (q' := q_107) dd132_63 rfl rfl (rcv_c rfl rfl (by decide)) rfl rfl rfl (f107_ok (d := d) (by omega) hx4 hq) ?_
    rcases oite h with ⟨hc, h⟩ | ⟨hc, h⟩
    · refine zUT dd132_66 rfl (kEqT hc) ?_
      rw [show (.ref x2 : Value) = znl x2 from hv.symm]
      exact zGo_lv (lv := [(0, .ref 1007), (1, .int x1), (2, (znl x2)), (3, .int x3)]) ⟨by simp, by simp, by simp⟩ (f132_72_ok hd hr2 hr12 h)
    · refine zUF dd132_66 (kEqF hc) ?_
      refine zGo_s (pc' := 71) (st' := [.ref x4]) dd132_69 rfl ?_
      refine zGo_s (pc' := 72) (st' := []) (lv' := [(2, .ref x4), (0, .ref 1007), (1, .int x1), (3, .int x3), (4, .ref x4)]) dd132_71 rfl ?_
      rw [← znl_ck hx4]
      exact zGo_lv (lv := [(0, .ref 1007), (1, .int x1), (2, (znl x4)), (3, .int x3)]) ⟨by simp, by simp, by simp⟩ (f132_72_ok hd hr2 hr12 h)
def f132_12 (n : Nat) (r2 : Int32 → zσ → Option zσ) : Nat → Int32 → Nat → Int32 → zσ → Option zσ
  | 0, _, _, _, _ => none
  | j + 1, x1, x2, x3, s =>
    if x3 < (s.1 1007 12) then
    if zin? x3 8 = true then
    zrd 8 (s.2.2 1008 (nx x3)) fun a5 =>
    yb1 (f112 n a5 s) fun v7 u6 =>
    if v7 = (0 : Int32) then
    f132_72 n r2 (f132_12 n r2 j) x1 x2 x3 u6
    else if x2 = 0 then
    f132_49 n r2 (f132_12 n r2 j) x1 0 x3 a5 u6
    else if zck 8 x2 = true then
    yb1 (f113 n a5 x2 u6) fun v9 u8 =>
    if v9 = (0 : Int32) then
    f132_72 n r2 (f132_12 n r2 j) x1 x2 x3 u8
    else f132_49 n r2 (f132_12 n r2 j) x1 x2 x3 a5 u8
    else none
    else none
    else if x2 = 0 then
    some s
    else if zck 8 x2 = true then
    if zin? (s.1 x2 10) 9 = true then
    zlet ((s.1 (x2 + 1) (nx (s.1 x2 10)))) fun v1 =>
    yb0 (f114 n x2 v1 s) fun u2 =>
    zlet (sI u2 1007 15 ((u2.1 1007 15) + (1 : Int32))) fun u3 =>
    zlet (sI u3 x2 11 ((u2.1 1007 15) + (1 : Int32))) fun u4 =>
    if (u4.1 x2 3) = (4 : Int32) then
    f132_128 n r2 x1 x2 v1 (2 : Int32) x2 u4
    else f132_128 n r2 x1 x2 v1 (1 : Int32) x2 u4
    else none
    else none
set_option maxRecDepth 20000 in
theorem f132_12_ok {n d : Nat} {r2 : Int32 → zσ → Option zσ} (hd : 4 ≤ d) (hr2 : ∀ (x1 : Int32) (s : zσ) (s2 : zσ), r2 x1 s = some s2 → ∀ {w : zσ} {fz : Bool} {L : Nat} {xs : Nat → Int32}, zGo (zX fz L xs) d q_132 (2, [(0, .ref 1007), (1, .int x1)], [], zmk s w, 0, 0) (none, zmk s2 w, 0, 0)) : ∀ (j : Nat) (x1 : Int32) (x2 : Nat) (x3 : Int32) (s : zσ) (s2 : zσ), f132_12 n r2 j x1 x2 x3 s = some s2 → ∀ {w : zσ} {fz : Bool} {L : Nat} {xs : Nat → Int32}, zGo (zX fz L xs) d q_132 (12, [(0, .ref 1007), (1, .int x1), (2, (znl x2)), (3, .int x3)], [], zmk s w, 0, 0) (none, zmk s2 w, 0, 0) := by
  obtain ⟨d, rfl⟩ : ∃ d0, d = d0 + 1 := ⟨d - 1, by omega⟩
  intro j
  induction j with
  | zero => intro x1 x2 x3 s s2 h; cases h
  | succ j ih =>
    intro x1 x2 x3 s s2 h w fz L xs
    rw [f132_12] at h
    rcases znl_c x2 with ⟨hz, hv⟩ | ⟨hz, hv⟩
    · rw [hv]
      refine zGo_s (pc' := 13) (st' := [.int x3]) dd132_12 rfl ?_
      refine zGo_s (pc' := 14) (st' := [.ref 1007, .int x3]) dd132_13 rfl ?_
      refine cGI dd132_14 rfl rfl rfl rfl ?_
      rcases oite h with ⟨hc, h⟩ | ⟨hc, h⟩
      · refine zIF dd132_17 (kGeF hc) ?_
        refine zGo_s (pc' := 21) (st' := [.ref 1007]) dd132_20 rfl ?_
        refine cGF (e := 1008) dd132_21 rfl rfl rfl rfl rfl ?_
        refine zGo_s (pc' := 25) (st' := [.int x3, .ref 1008]) dd132_24 rfl ?_
        obtain ⟨hi, h⟩ := ochk h
        obtain ⟨a1, e_a1, c_a1, h⟩ := ordd h
        refine cAA dd132_25 rfl rfl (Or.inl rfl) hi e_a1 ?_
        refine zGo_s (pc' := 28) (st' := []) (lv' := [(4, .ref a1), (0, .ref 1007), (1, .int x1), (2, .null), (3, .int x3)]) dd132_26 rfl ?_
        refine zGo_s (pc' := 30) (st' := [.ref a1]) dd132_28 rfl ?_
        obtain ⟨v3, u2, hq, h⟩ := obnd h
        refine zCV1 (As := []) (rest := []) (b := a1) (q' := q_112) dd132_30 rfl rfl (rcv_c (ck8_s c_a1).1 (ck8_s c_a1).2 (by decide)) rfl rfl rfl (f112_ok (d := d) (by omega) c_a1 hq) ?_
        rcases oite h with ⟨hc, h⟩ | ⟨hc, h⟩
        · refine zUT dd132_33 rfl (kEqT hc) ?_
          rw [show (.null : Value) = znl x2 from hv.symm]
          exact zGo_lv (lv := [(0, .ref 1007), (1, .int x1), (2, (znl x2)), (3, .int x3)]) ⟨by simp, by simp, by simp⟩ (f132_72_ok hd hr2 ih h)
        · refine zUF dd132_33 (kEqF hc) ?_
          refine zGo_s (pc' := 37) (st' := [.null]) dd132_36 rfl ?_
          rw [if_pos hz] at h
          refine zGo_s (pc' := 49) (st' := []) dd132_37 rfl ?_
          rw [show (Value.null) = znl 0 from rfl]
          exact zGo_lv (lv := [(0, .ref 1007), (1, .int x1), (2, (znl 0)), (3, .int x3), (4, .ref a1)]) ⟨by simp, by simp, by simp⟩ (f132_49_ok hd hr2 ih c_a1 h)
      · refine zIT dd132_17 rfl (kGeT hc) ?_
        refine zGo_s (pc' := 79) (st' := [.null]) dd132_78 rfl ?_
        rw [if_pos hz] at h
        refine zGo_s (pc' := 82) (st' := []) dd132_79 rfl ?_
        obtain rfl := ore0 h
        exact zGo_ret dd132_82 rfl rfl
    · rw [hv]
      refine zGo_s (pc' := 13) (st' := [.int x3]) dd132_12 rfl ?_
      refine zGo_s (pc' := 14) (st' := [.ref 1007, .int x3]) dd132_13 rfl ?_
      refine cGI dd132_14 rfl rfl rfl rfl ?_
      rcases oite h with ⟨hc, h⟩ | ⟨hc, h⟩
      · refine zIF dd132_17 (kGeF hc) ?_
        refine zGo_s (pc' := 21) (st' := [.ref 1007]) dd132_20 rfl ?_
        refine cGF (e := 1008) dd132_21 rfl rfl rfl rfl rfl ?_
        refine zGo_s (pc' := 25) (st' := [.int x3, .ref 1008]) dd132_24 rfl ?_
        obtain ⟨hi, h⟩ := ochk h
        obtain ⟨a5, e_a5, c_a5, h⟩ := ordd h
        refine cAA dd132_25 rfl rfl (Or.inl rfl) hi e_a5 ?_
        refine zGo_s (pc' := 28) (st' := []) (lv' := [(4, .ref a5), (0, .ref 1007), (1, .int x1), (2, .ref x2), (3, .int x3)]) dd132_26 rfl ?_
        refine zGo_s (pc' := 30) (st' := [.ref a5]) dd132_28 rfl ?_
        obtain ⟨v7, u6, hq, h⟩ := obnd h
        refine zCV1 (As := []) (rest := []) (b := a5) (q' := q_112) dd132_30 rfl rfl (rcv_c (ck8_s c_a5).1 (ck8_s c_a5).2 (by decide)) rfl rfl rfl (f112_ok (d := d) (by omega) c_a5 hq) ?_
        rcases oite h with ⟨hc, h⟩ | ⟨hc, h⟩
        · refine zUT dd132_33 rfl (kEqT hc) ?_
          rw [show (.ref x2 : Value) = znl x2 from hv.symm]
          exact zGo_lv (lv := [(0, .ref 1007), (1, .int x1), (2, (znl x2)), (3, .int x3)]) ⟨by simp, by simp, by simp⟩ (f132_72_ok hd hr2 ih h)
        · refine zUF dd132_33 (kEqF hc) ?_
          refine zGo_s (pc' := 37) (st' := [.ref x2]) dd132_36 rfl ?_
          rw [if_neg hz] at h
          obtain ⟨c_n, h⟩ := ochk h
          refine zGo_s (pc' := 40) (st' := []) dd132_37 rfl ?_
          refine zGo_s (pc' := 42) (st' := [.ref a5]) dd132_40 rfl ?_
          refine zGo_s (pc' := 43) (st' := [.ref x2, .ref a5]) dd132_42 rfl ?_
          obtain ⟨v9, u8, hq, h⟩ := obnd h
          refine zCS1 (As := [.ref a5, .ref x2]) (rest := []) (q' := q_113) dd132_43 rfl rfl rfl rfl rfl (f113_ok (d := d) (by omega) c_a5 c_n hq) ?_
          rcases oite h with ⟨hc, h⟩ | ⟨hc, h⟩
          · refine zUT dd132_46 rfl (kEqT hc) ?_
            rw [← znl_ck c_n]
            exact zGo_lv (lv := [(0, .ref 1007), (1, .int x1), (2, (znl x2)), (3, .int x3)]) ⟨by simp, by simp, by simp⟩ (f132_72_ok hd hr2 ih h)
          · refine zUF dd132_46 (kEqF hc) ?_
            rw [← znl_ck c_n]
            exact zGo_lv (lv := [(0, .ref 1007), (1, .int x1), (2, (znl x2)), (3, .int x3), (4, .ref a5)]) ⟨by simp, by simp, by simp⟩ (f132_49_ok hd hr2 ih c_a5 h)
      · refine zIT dd132_17 rfl (kGeT hc) ?_
        refine zGo_s (pc' := 79) (st' := [.ref x2]) dd132_78 rfl ?_
        rw [if_neg hz] at h
        obtain ⟨c_n, h⟩ := ochk h
        refine zGo_s (pc' := 83) (st' := []) dd132_79 rfl ?_
        refine zGo_s (pc' := 84) (st' := [.ref x2]) dd132_83 rfl ?_
        refine cGF (e := (x2 + 1)) dd132_84 rfl (ck8_s c_n).1 (ck8_s c_n).2 rfl (cf8_1 c_n).1 ?_
        refine zGo_s (pc' := 88) (st' := [.ref x2, .ref (x2 + 1)]) dd132_87 rfl ?_
        refine cGI dd132_88 rfl (ck8_s c_n).1 (ck8_s c_n).2 rfl ?_
        obtain ⟨hi, h⟩ := ochk h
        refine cIA dd132_91 (cf8_1 c_n).2.1 (cf8_1 c_n).2.2 hi ?_
        obtain ⟨v1, e_v1, h⟩ := olet h
        refine zGo_is1 e_v1 dd132_92 (x' := (93, [(3, .int v1), (0, .ref 1007), (1, .int x1), (2, .ref x2)], [], _, _, _)) rfl ?_
        refine zGo_s (pc' := 94) (st' := [.ref 1007]) dd132_93 rfl ?_
        refine zGo_s (pc' := 95) (st' := [.ref x2, .ref 1007]) dd132_94 rfl ?_
        refine zGo_s (pc' := 96) (st' := [.int v1, .ref x2, .ref 1007]) dd132_95 rfl ?_
        obtain ⟨u2, hq, h⟩ := obn0 h
        refine zCV0 (As := [.ref x2, .int v1]) (rest := []) (b := 1007) (q' := q_114) dd132_96 rfl rfl (rcv_c rfl rfl (by decide)) rfl rfl rfl (f114_ok (d := d) (by omega) c_n hq) ?_
        refine zGo_s (pc' := 100) (st' := [.ref x2]) dd132_99 rfl ?_
        refine zGo_s (pc' := 101) (st' := [.ref 1007, .ref x2]) dd132_100 rfl ?_
        refine zGo_s (pc' := 102) (st' := [.ref 1007, .ref 1007, .ref x2]) dd132_101 rfl ?_
        refine cGI dd132_102 rfl rfl rfl rfl ?_
        refine zGo_s (pc' := 106) (st' := [.int (1 : Int32), .int (u2.1 1007 15), .ref 1007, .ref x2]) dd132_105 rfl ?_
        refine zGo_s (pc' := 107) (st' := [.int ((u2.1 1007 15) + (1 : Int32)), .ref 1007, .ref x2]) dd132_106 rfl ?_
        refine zGo_s (pc' := 108) (st' := [.int ((u2.1 1007 15) + (1 : Int32)), .ref 1007, .int ((u2.1 1007 15) + (1 : Int32)), .ref x2]) dd132_107 rfl ?_
        obtain ⟨u3, e_u3, h⟩ := olet h
        refine cPI dd132_108 rfl rfl rfl rfl rfl rfl e_u3 ?_
        obtain ⟨u4, e_u4, h⟩ := olet h
        refine cPI dd132_111 rfl (ck8_s c_n).1 (ck8_s c_n).2 rfl rfl rfl e_u4 ?_
        refine zGo_s (pc' := 115) (st' := [.ref x2]) dd132_114 rfl ?_
        refine zGo_s (pc' := 116) (st' := [.ref x2, .ref x2]) dd132_115 rfl ?_
        refine cGI dd132_116 rfl (ck8_s c_n).1 (ck8_s c_n).2 rfl ?_
        refine zGo_s (pc' := 120) (st' := [.int (4 : Int32), .int (u4.1 x2 3), .ref x2]) dd132_119 rfl ?_
        rcases oite h with ⟨hc, h⟩ | ⟨hc, h⟩
        · refine zIF dd132_120 (kNeF hc) ?_
          refine zGo_s (pc' := 124) (st' := [.int (2 : Int32), .ref x2]) dd132_123 rfl ?_
          refine zGo_s (pc' := 128) (st' := [.int (2 : Int32), .ref x2]) dd132_124 rfl ?_
          exact zGo_lv (lv := [(0, .ref 1007), (1, .int x1), (2, .ref x2), (3, .int v1)]) ⟨by simp, by simp, by simp⟩ (f132_128_ok hd hr2 c_n c_n h)
        · refine zIT dd132_120 rfl (kNeT hc) ?_
          refine zGo_s (pc' := 128) (st' := [.int (1 : Int32), .ref x2]) dd132_127 rfl ?_
          exact zGo_lv (lv := [(0, .ref 1007), (1, .int x1), (2, .ref x2), (3, .int v1)]) ⟨by simp, by simp, by simp⟩ (f132_128_ok hd hr2 c_n c_n h)
def f132_2 (n : Nat) : Nat → Int32 → zσ → Option zσ
  | 0, _, _ => none
  | j + 1, x1, s =>
    if (8 : Int32) < x1 then
    some s
    else f132_12 n (f132_2 n j) n x1 0 (0 : Int32) s
set_option maxRecDepth 20000 in
theorem f132_2_ok {n d : Nat} (hd : 4 ≤ d) : ∀ (j : Nat) (x1 : Int32) (s : zσ) (s2 : zσ), f132_2 n j x1 s = some s2 → ∀ {w : zσ} {fz : Bool} {L : Nat} {xs : Nat → Int32}, zGo (zX fz L xs) d q_132 (2, [(0, .ref 1007), (1, .int x1)], [], zmk s w, 0, 0) (none, zmk s2 w, 0, 0) := by
  obtain ⟨d, rfl⟩ : ∃ d0, d = d0 + 1 := ⟨d - 1, by omega⟩
  intro j
  induction j with
  | zero => intro x1 s s2 h; cases h
  | succ j ih =>
    intro x1 s s2 h w fz L xs
    rw [f132_2] at h
    refine zGo_s (pc' := 3) (st' := [.int x1]) dd132_2 rfl ?_
    refine zGo_s (pc' := 5) (st' := [.int (8 : Int32), .int x1]) dd132_3 rfl ?_
    rcases oite h with ⟨hc, h⟩ | ⟨hc, h⟩
    · refine zIT dd132_5 rfl (kGtT hc) ?_
      obtain rfl := ore0 h
      exact zGo_ret dd132_143 rfl rfl
    · refine zIF dd132_5 (kGtF hc) ?_
      refine zGo_s (pc' := 9) (st' := [.null]) dd132_8 rfl ?_
      refine zGo_s (pc' := 10) (st' := []) (lv' := [(2, .null), (0, .ref 1007), (1, .int x1)]) dd132_9 rfl ?_
      refine zGo_s (pc' := 11) (st' := [.int (0 : Int32)]) dd132_10 rfl ?_
      refine zGo_s (pc' := 12) (st' := []) (lv' := [(3, .int (0 : Int32)), (2, .null), (0, .ref 1007), (1, .int x1)]) dd132_11 rfl ?_
      rw [show (Value.null) = znl 0 from rfl]
      exact zGo_lv (lv := [(0, .ref 1007), (1, .int x1), (2, (znl 0)), (3, .int (0 : Int32))]) ⟨by simp, by simp, by simp⟩ (f132_12_ok hd ih _ _ _ _ _ _ h)
def f132 (n : Nat) (s : zσ) : Option zσ :=
    f132_2 n n (0 : Int32) s
set_option maxRecDepth 20000 in
theorem f132_ok {n d : Nat} {s : zσ} {s2 : zσ} (hd : 4 ≤ d) (h : f132 n s = some s2) {w : zσ} {fz : Bool} {L : Nat} {xs : Nat → Int32} : zGo (zX fz L xs) d q_132 (0, [(0, .ref 1007)], [], zmk s w, 0, 0) (none, zmk s2 w, 0, 0) := by
  obtain ⟨d, rfl⟩ : ∃ d0, d = d0 + 1 := ⟨d - 1, by omega⟩
  unfold f132 at h
  refine zGo_s (pc' := 1) (st' := [.int (0 : Int32)]) dd132_0 rfl ?_
  refine zGo_s (pc' := 2) (st' := []) (lv' := [(1, .int (0 : Int32)), (0, .ref 1007)]) dd132_1 rfl ?_
  exact zGo_lv (lv := [(0, .ref 1007), (1, .int (0 : Int32))]) ⟨by simp, by simp, by simp⟩ (f132_2_ok hd _ _ _ _ h)
