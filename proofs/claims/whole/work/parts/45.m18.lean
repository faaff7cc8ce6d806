/-! PHModel.called(I)V -/
theorem dd199_0 : decode cX13_called 0 = .ok (.aload_n 0, 1) := by decide +kernel
theorem dd199_1 : decode cX13_called 1 = .ok (.getfield 24, 3) := by decide +kernel
theorem dd199_4 : decode cX13_called 4 = .ok (.astore_n 2, 1) := by decide +kernel
theorem dd199_5 : decode cX13_called 5 = .ok (.aload_n 0, 1) := by decide +kernel
theorem dd199_6 : decode cX13_called 6 = .ok (.bipush 7, 2) := by decide +kernel
theorem dd199_8 : decode cX13_called 8 = .ok (.invokevirtual 333, 3) := by decide +kernel
theorem dd199_11 : decode cX13_called 11 = .ok (.istore_n 3, 1) := by decide +kernel
theorem dd199_12 : decode cX13_called 12 = .ok (.aload_n 2, 1) := by decide +kernel
theorem dd199_13 : decode cX13_called 13 = .ok (.getfield 444, 3) := by decide +kernel
theorem dd199_16 : decode cX13_called 16 = .ok (.iload_n 1, 1) := by decide +kernel
theorem dd199_17 : decode cX13_called 17 = .ok (.iload_n 3, 1) := by decide +kernel
theorem dd199_18 : decode cX13_called 18 = .ok (.iastore, 1) := by decide +kernel
theorem dd199_19 : decode cX13_called 19 = .ok (.aload_n 0, 1) := by decide +kernel
theorem dd199_20 : decode cX13_called 20 = .ok (.bipush 40, 2) := by decide +kernel
theorem dd199_22 : decode cX13_called 22 = .ok (.invokevirtual 341, 3) := by decide +kernel
theorem dd199_25 : decode cX13_called 25 = .ok (.iconst 0, 1) := by decide +kernel
theorem dd199_26 : decode cX13_called 26 = .ok (.istore 4, 2) := by decide +kernel
theorem dd199_28 : decode cX13_called 28 = .ok (.aload_n 0, 1) := by decide +kernel
theorem dd199_29 : decode cX13_called 29 = .ok (.invokevirtual 223, 3) := by decide +kernel
theorem dd199_32 : decode cX13_called 32 = .ok (.ifCond .eq 16, 3) := by decide +kernel
theorem dd199_35 : decode cX13_called 35 = .ok (.aload_n 0, 1) := by decide +kernel
theorem dd199_36 : decode cX13_called 36 = .ok (.bipush 41, 2) := by decide +kernel
theorem dd199_38 : decode cX13_called 38 = .ok (.invokevirtual 227, 3) := by decide +kernel
theorem dd199_41 : decode cX13_called 41 = .ok (.ifCond .ne 7, 3) := by decide +kernel
theorem dd199_44 : decode cX13_called 44 = .ok (.iconst 1, 1) := by decide +kernel
theorem dd199_45 : decode cX13_called 45 = .ok (.goto 4, 3) := by decide +kernel
theorem dd199_48 : decode cX13_called 48 = .ok (.iconst 0, 1) := by decide +kernel
theorem dd199_49 : decode cX13_called 49 = .ok (.istore 5, 2) := by decide +kernel
theorem dd199_51 : decode cX13_called 51 = .ok (.iload 5, 2) := by decide +kernel
theorem dd199_53 : decode cX13_called 53 = .ok (.ifCond .eq 94, 3) := by decide +kernel
theorem dd199_56 : decode cX13_called 56 = .ok (.iload 4, 2) := by decide +kernel
theorem dd199_58 : decode cX13_called 58 = .ok (.iconst 3, 1) := by decide +kernel
theorem dd199_59 : decode cX13_called 59 = .ok (.if_icmp .ne 35, 3) := by decide +kernel
theorem dd199_62 : decode cX13_called 62 = .ok (.aload_n 0, 1) := by decide +kernel
theorem dd199_63 : decode cX13_called 63 = .ok (.getfield 179, 3) := by decide +kernel
theorem dd199_66 : decode cX13_called 66 = .ok (.iconst 4, 1) := by decide +kernel
theorem dd199_67 : decode cX13_called 67 = .ok (.if_icmp .eq 10, 3) := by decide +kernel
theorem dd199_70 : decode cX13_called 70 = .ok (.aload_n 0, 1) := by decide +kernel
theorem dd199_71 : decode cX13_called 71 = .ok (.invokevirtual 479, 3) := by decide +kernel
theorem dd199_74 : decode cX13_called 74 = .ok (.ifCond .ne 10, 3) := by decide +kernel
theorem dd199_77 : decode cX13_called 77 = .ok (.aload_n 0, 1) := by decide +kernel
theorem dd199_78 : decode cX13_called 78 = .ok (.invokevirtual 234, 3) := by decide +kernel
theorem dd199_81 : decode cX13_called 81 = .ok (.goto 12, 3) := by decide +kernel
theorem dd199_84 : decode cX13_called 84 = .ok (.aload_n 0, 1) := by decide +kernel
theorem dd199_85 : decode cX13_called 85 = .ok (.iconst 3, 1) := by decide +kernel
theorem dd199_86 : decode cX13_called 86 = .ok (.aload_n 0, 1) := by decide +kernel
theorem dd199_87 : decode cX13_called 87 = .ok (.getfield 176, 3) := by decide +kernel
theorem dd199_90 : decode cX13_called 90 = .ok (.invokevirtual 215, 3) := by decide +kernel
theorem dd199_93 : decode cX13_called 93 = .ok (.return_, 1) := by decide +kernel
theorem dd199_94 : decode cX13_called 94 = .ok (.aload_n 2, 1) := by decide +kernel
theorem dd199_95 : decode cX13_called 95 = .ok (.getfield 469, 3) := by decide +kernel
theorem dd199_98 : decode cX13_called 98 = .ok (.iconst 4, 1) := by decide +kernel
theorem dd199_99 : decode cX13_called 99 = .ok (.iload_n 1, 1) := by decide +kernel
theorem dd199_100 : decode cX13_called 100 = .ok (.imul, 1) := by decide +kernel
theorem dd199_101 : decode cX13_called 101 = .ok (.iload 4, 2) := by decide +kernel
theorem dd199_103 : decode cX13_called 103 = .ok (.iadd, 1) := by decide +kernel
theorem dd199_104 : decode cX13_called 104 = .ok (.aload_n 0, 1) := by decide +kernel
theorem dd199_105 : decode cX13_called 105 = .ok (.invokevirtual 472, 3) := by decide +kernel
theorem dd199_108 : decode cX13_called 108 = .ok (.iastore, 1) := by decide +kernel
theorem dd199_109 : decode cX13_called 109 = .ok (.iinc 4 1, 3) := by decide +kernel
theorem dd199_112 : decode cX13_called 112 = .ok (.aload_n 0, 1) := by decide +kernel
theorem dd199_113 : decode cX13_called 113 = .ok (.invokevirtual 223, 3) := by decide +kernel
theorem dd199_116 : decode cX13_called 116 = .ok (.ifCond .eq 16, 3) := by decide +kernel
theorem dd199_119 : decode cX13_called 119 = .ok (.aload_n 0, 1) := by decide +kernel
theorem dd199_120 : decode cX13_called 120 = .ok (.bipush 44, 2) := by decide +kernel
theorem dd199_122 : decode cX13_called 122 = .ok (.invokevirtual 227, 3) := by decide +kernel
theorem dd199_125 : decode cX13_called 125 = .ok (.ifCond .eq 7, 3) := by decide +kernel
theorem dd199_128 : decode cX13_called 128 = .ok (.iconst 1, 1) := by decide +kernel
theorem dd199_129 : decode cX13_called 129 = .ok (.goto 4, 3) := by decide +kernel
theorem dd199_132 : decode cX13_called 132 = .ok (.iconst 0, 1) := by decide +kernel
theorem dd199_133 : decode cX13_called 133 = .ok (.istore 5, 2) := by decide +kernel
theorem dd199_135 : decode cX13_called 135 = .ok (.iload 5, 2) := by decide +kernel
theorem dd199_137 : decode cX13_called 137 = .ok (.ifCond .eq (-86), 3) := by decide +kernel
theorem dd199_140 : decode cX13_called 140 = .ok (.aload_n 0, 1) := by decide +kernel
theorem dd199_141 : decode cX13_called 141 = .ok (.invokevirtual 231, 3) := by decide +kernel
theorem dd199_144 : decode cX13_called 144 = .ok (.goto (-93), 3) := by decide +kernel
theorem dd199_147 : decode cX13_called 147 = .ok (.aload_n 0, 1) := by decide +kernel
theorem dd199_148 : decode cX13_called 148 = .ok (.bipush 41, 2) := by decide +kernel
theorem dd199_150 : decode cX13_called 150 = .ok (.invokevirtual 341, 3) := by decide +kernel
theorem dd199_153 : decode cX13_called 153 = .ok (.aload_n 2, 1) := by decide +kernel
theorem dd199_154 : decode cX13_called 154 = .ok (.getfield 450, 3) := by decide +kernel
theorem dd199_157 : decode cX13_called 157 = .ok (.iload_n 1, 1) := by decide +kernel
theorem dd199_158 : decode cX13_called 158 = .ok (.iload 4, 2) := by decide +kernel
theorem dd199_160 : decode cX13_called 160 = .ok (.iastore, 1) := by decide +kernel
theorem dd199_161 : decode cX13_called 161 = .ok (.aload_n 0, 1) := by decide +kernel
theorem dd199_162 : decode cX13_called 162 = .ok (.invokevirtual 223, 3) := by decide +kernel
theorem dd199_165 : decode cX13_called 165 = .ok (.ifCond .eq 11, 3) := by decide +kernel
theorem dd199_168 : decode cX13_called 168 = .ok (.aload_n 2, 1) := by decide +kernel
theorem dd199_169 : decode cX13_called 169 = .ok (.getfield 267, 3) := by decide +kernel
theorem dd199_172 : decode cX13_called 172 = .ok (.iload_n 3, 1) := by decide +kernel
theorem dd199_173 : decode cX13_called 173 = .ok (.iload 4, 2) := by decide +kernel
theorem dd199_175 : decode cX13_called 175 = .ok (.iastore, 1) := by decide +kernel
theorem dd199_176 : decode cX13_called 176 = .ok (.return_, 1) := by decide +kernel
def f199_133 (n : Nat) (r51 : Int32 → Nat → Int32 → Int32 → Int32 → zσ → Option zσ) (x1 : Int32) (x2 : Nat) (x3 : Int32) (x4 : Int32) (y0 : Int32) (s : zσ) : Option zσ :=
    if y0 = (0 : Int32) then
    r51 x1 x2 x3 x4 y0 s
    else yb0 (f164 n s) fun u1 =>
    r51 x1 x2 x3 x4 y0 u1
set_option maxRecDepth 20000 in
theorem f199_133_ok {n d : Nat} {r51 : Int32 → Nat → Int32 → Int32 → Int32 → zσ → Option zσ} {x1 : Int32} {x2 : Nat} {x3 : Int32} {x4 : Int32} {y0 : Int32} {s : zσ} {s2 : zσ} (hd : 139 ≤ d) (hr51 : ∀ (x1 : Int32) (x2 : Nat) (x3 : Int32) (x4 : Int32) (x5 : Int32) (s : zσ) (s2 : zσ), zck 12 x2 = true → r51 x1 x2 x3 x4 x5 s = some s2 → ∀ {w : zσ} {fz : Bool} {L : Nat} {xs : Nat → Int32}, zGo (zX fz L xs) d q_199 (51, [(0, .ref 1132), (1, .int x1), (2, .ref x2), (3, .int x3), (4, .int x4), (5, .int x5)], [], zmk w s, 0, 0) (none, zmk w s2, 0, 0)) (hx2 : zck 12 x2 = true) (h : f199_133 n r51 x1 x2 x3 x4 y0 s = some s2) {w : zσ} {fz : Bool} {L : Nat} {xs : Nat → Int32} : zGo (zX fz L xs) d q_199 (133, [(0, .ref 1132), (1, .int x1), (2, .ref x2), (3, .int x3), (4, .int x4)], [.int y0], zmk w s, 0, 0) (none, zmk w s2, 0, 0) := by
  obtain ⟨d, rfl⟩ : ∃ d0, d = d0 + 1 := ⟨d - 1, by omega⟩
  unfold f199_133 at h
  refine zGo_s (pc' := 135) (st' := []) (lv' := [(5, .int y0), (0, .ref 1132), (1, .int x1), (2, .ref x2), (3, .int x3), (4, .int x4)]) dd199_133 rfl ?_
  refine zGo_s (pc' := 137) (st' := [.int y0]) dd199_135 rfl ?_
  rcases oite h with ⟨hc, h⟩ | ⟨hc, h⟩
  · refine zUT dd199_137 rfl (kEqT hc) ?_
    exact zGo_lv (lv := [(0, .ref 1132), (1, .int x1), (2, .ref x2), (3, .int x3), (4, .int x4), (5, .int y0)]) ⟨by simp, by simp, by simp⟩ (hr51 _ _ _ _ _ _ _ hx2 h)
  · refine zUF dd199_137 (kEqF hc) ?_
    refine zGo_s (pc' := 141) (st' := [.ref 1132]) dd199_140 rfl ?_
    obtain ⟨u1, hq, h⟩ := obn0 h
    refine zCV0 (As := []) (rest := []) (b := 1132) (q' := q_164) dd199_141 rfl rfl (rcv_m rfl rfl (by decide)) rfl rfl rfl (f164_ok (d := d) (by omega)  hq) ?_
    refine zGo_s (pc' := 51) (st' := []) dd199_144 rfl ?_
    exact zGo_lv (lv := [(0, .ref 1132), (1, .int x1), (2, .ref x2), (3, .int x3), (4, .int x4), (5, .int y0)]) ⟨by simp, by simp, by simp⟩ (hr51 _ _ _ _ _ _ _ hx2 h)
def f199_132 (n : Nat) (r51 : Int32 → Nat → Int32 → Int32 → Int32 → zσ → Option zσ) (x1 : Int32) (x2 : Nat) (x3 : Int32) (x4 : Int32) (s : zσ) : Option zσ :=
    f199_133 n r51 x1 x2 x3 x4 (0 : Int32) s
set_option maxRecDepth 20000 in
theorem f199_132_ok {n d : Nat} {r51 : Int32 → Nat → Int32 → Int32 → Int32 → zσ → Option zσ} {x1 : Int32} {x2 : Nat} {x3 : Int32} {x4 : Int32} {s : zσ} {s2 : zσ} (hd : 139 ≤ d) (hr51 : ∀ (x1 : Int32) (x2 : Nat) (x3 : Int32) (x4 : Int32) (x5 : Int32) (s : zσ) (s2 : zσ), zck 12 x2 = true → r51 x1 x2 x3 x4 x5 s = some s2 → ∀ {w : zσ} {fz : Bool} {L : Nat} {xs : Nat → Int32}, zGo (zX fz L xs) d q_199 (51, [(0, .ref 1132), (1, .int x1), (2, .ref x2), (3, .int x3), (4, .int x4), (5, .int x5)], [], zmk w s, 0, 0) (none, zmk w s2, 0, 0)) (hx2 : zck 12 x2 = true) (h : f199_132 n r51 x1 x2 x3 x4 s = some s2) {w : zσ} {fz : Bool} {L : Nat} {xs : Nat → Int32} : zGo (zX fz L xs) d q_199 (132, [(0, .ref 1132), (1, .int x1), (2, .ref x2), (3, .int x3), (4, .int x4)], [], zmk w s, 0, 0) (none, zmk w s2, 0, 0) := by
  obtain ⟨d, rfl⟩ : ∃ d0, d = d0 + 1 := ⟨d - 1, by omega⟩
  unfold f199_132 at h
  refine zGo_s (pc' := 133) (st' := [.int (0 : Int32)]) dd199_132 rfl ?_
  exact f199_133_ok hd hr51 hx2 h
def f199_77 (n : Nat) (s : zσ) : Option zσ :=
    yb0 (f172 n s) fun u1 =>
    some u1
set_option maxRecDepth 20000 in
theorem f199_77_ok {n d : Nat} {s : zσ} {s2 : zσ} (hd : 139 ≤ d) (h : f199_77 n s = some s2) {w : zσ} {fz : Bool} {L : Nat} {xs : Nat → Int32} : zGo (zX fz L xs) d q_199 (77, [(0, .ref 1132)], [], zmk w s, 0, 0) (none, zmk w s2, 0, 0) := by
  obtain ⟨d, rfl⟩ : ∃ d0, d = d0 + 1 := ⟨d - 1, by omega⟩
  unfold f199_77 at h
  refine zGo_s (pc' := 78) (st' := [.ref 1132]) dd199_77 rfl ?_
  obtain ⟨u1, hq, h⟩ := obn0 h
  refine zCV0 (As := []) (rest := []) (b := 1132) (q' := q_172) dd199_78 rfl rfl (rcv_m rfl rfl (by decide)) rfl rfl rfl (f172_ok (d := d) (by omega)  hq) ?_
  refine zGo_s (pc' := 93) (st' := []) dd199_81 rfl ?_
  obtain rfl := ore0 h
  exact zGo_ret dd199_93 rfl rfl
def f199_51 (n : Nat) : Nat → Int32 → Nat → Int32 → Int32 → Int32 → zσ → Option zσ
  | 0, _, _, _, _, _, _ => none
  | j + 1, x1, x2, x3, x4, x5, s =>
    if x5 = (0 : Int32) then
    yb0 (f179 n (41 : Int32) s) fun u1 =>
    if zin? x1 200 = true then
    zlet (sI u1 (x2 + 20) (nx x1) x4) fun u2 =>
    yb1 (f167 n u2) fun v4 u3 =>
    if v4 = (0 : Int32) then
    some u3
    else if zin? x3 1400 = true then
    zlet (sI u3 (x2 + 35) (nx x3) x4) fun u5 =>
    some u5
    else none
    else none
    else if x4 = (3 : Int32) then
    if (s.1 1132 3) = (4 : Int32) then
    f199_77 n s
    else yb1 (f200 n s) fun v14 u13 =>
    if v14 = (0 : Int32) then
    f199_77 n u13
    else yb0 (f173 n (3 : Int32) (u13.1 1132 4) u13) fun u15 =>
    some u15
    else yb1 (f190 n s) fun v7 u6 =>
    if zin? (((4 : Int32) * x1) + x4) 800 = true then
    zlet (sI u6 (x2 + 22) (nx (((4 : Int32) * x1) + x4)) v7) fun u8 =>
    yb1 (f167 n u8) fun v10 u9 =>
    if v10 = (0 : Int32) then
    f199_132 n (f199_51 n j) x1 x2 x3 (x4 + (1 : Int32)) u9
    else yb1 (f177 n (44 : Int32) u9) fun v12 u11 =>
    if v12 = (0 : Int32) then
    f199_132 n (f199_51 n j) x1 x2 x3 (x4 + (1 : Int32)) u11
    else f199_133 n (f199_51 n j) x1 x2 x3 (x4 + (1 : Int32)) (1 : Int32) u11
    else none
set_option maxRecDepth 20000 in
theorem f199_51_ok {n d : Nat} (hd : 139 ≤ d) : ∀ (j : Nat) (x1 : Int32) (x2 : Nat) (x3 : Int32) (x4 : Int32) (x5 : Int32) (s : zσ) (s2 : zσ), zck 12 x2 = true → f199_51 n j x1 x2 x3 x4 x5 s = some s2 → ∀ {w : zσ} {fz : Bool} {L : Nat} {xs : Nat → Int32}, zGo (zX fz L xs) d q_199 (51, [(0, .ref 1132), (1, .int x1), (2, .ref x2), (3, .int x3), (4, .int x4), (5, .int x5)], [], zmk w s, 0, 0) (none, zmk w s2, 0, 0) := by
  obtain ⟨d, rfl⟩ : ∃ d0, d = d0 + 1 := ⟨d - 1, by omega⟩
  intro j
  induction j with
  | zero => intro x1 x2 x3 x4 x5 s s2 hx2 h; cases h
  | succ j ih =>
    intro x1 x2 x3 x4 x5 s s2 hx2 h w fz L xs
    rw [f199_51] at h
    refine zGo_s (pc' := 53) (st' := [.int x5]) dd199_51 rfl ?_
    rcases oite h with ⟨hc, h⟩ | ⟨hc, h⟩
    · refine zUT dd199_53 rfl (kEqT hc) ?_
      refine zGo_s (pc' := 148) (st' := [.ref 1132]) dd199_147 rfl ?_
      refine zGo_s (pc' := 150) (st' := [.int (41 : Int32), .ref 1132]) dd199_148 rfl ?_
      obtain ⟨u1, hq, h⟩ := obn0 h
      refine zCV0 (As := [.int (41 : Int32)]) (rest := []) (b := 1132) (q' := q_179) dd199_150 rfl rfl (rcv_m rfl rfl (by decide)) rfl rfl rfl (f179_ok (d := d) (by omega)  hq) ?_
      refine zGo_s (pc' := 154) (st' := [.ref x2]) dd199_153 rfl ?_
      refine mGF (e := (x2 + 20)) dd199_154 rfl (ck12_s hx2).1 (ck12_s hx2).2 rfl (cf12_22 hx2).1 ?_
      refine zGo_s (pc' := 158) (st' := [.int x1, .ref (x2 + 20)]) dd199_157 rfl ?_
      refine zGo_s (pc' := 160) (st' := [.int x4, .int x1, .ref (x2 + 20)]) dd199_158 rfl ?_
      obtain ⟨hi, h⟩ := ochk h
      obtain ⟨u2, e_u2, h⟩ := olet h
      refine mIS dd199_160 (cf12_22 hx2).2.1 (cf12_22 hx2).2.2 hi e_u2 ?_
      refine zGo_s (pc' := 162) (st' := [.ref 1132]) dd199_161 rfl ?_
      obtain ⟨v4, u3, hq, h⟩ := obnd h
      refine zCV1 (As := []) (rest := []) (b := 1132) (q' := q_167) dd199_162 rfl rfl (rcv_m rfl rfl (by decide)) rfl rfl rfl (f167_ok (d := d) (by omega)  hq) ?_
      rcases oite h with ⟨hc, h⟩ | ⟨hc, h⟩
      · refine zUT dd199_165 rfl (kEqT hc) ?_
        obtain rfl := ore0 h
        exact zGo_ret dd199_176 rfl rfl
      · refine zUF dd199_165 (kEqF hc) ?_
        refine zGo_s (pc' := 169) (st' := [.ref x2]) dd199_168 rfl ?_
        refine mGF (e := (x2 + 35)) dd199_169 rfl (ck12_s hx2).1 (ck12_s hx2).2 rfl (cf12_41 hx2).1 ?_
        refine zGo_s (pc' := 173) (st' := [.int x3, .ref (x2 + 35)]) dd199_172 rfl ?_
        refine zGo_s (pc' := 175) (st' := [.int x4, .int x3, .ref (x2 + 35)]) dd199_173 rfl ?_
        obtain ⟨hi, h⟩ := ochk h
        obtain ⟨u5, e_u5, h⟩ := olet h
        refine mIS dd199_175 (cf12_41 hx2).2.1 (cf12_41 hx2).2.2 hi e_u5 ?_
        obtain rfl := ore0 h
        exact zGo_ret dd199_176 rfl rfl
    · refine zUF dd199_53 (kEqF hc) ?_
      refine zGo_s (pc' := 58) (st' := [.int x4]) dd199_56 rfl ?_
      refine zGo_s (pc' := 59) (st' := [.int (3 : Int32), .int x4]) dd199_58 rfl ?_
      rcases oite h with ⟨hc, h⟩ | ⟨hc, h⟩
      · refine zIF dd199_59 (kNeF hc) ?_
        refine zGo_s (pc' := 63) (st' := [.ref 1132]) dd199_62 rfl ?_
        refine mGI dd199_63 rfl rfl rfl rfl ?_
        refine zGo_s (pc' := 67) (st' := [.int (4 : Int32), .int (s.1 1132 3)]) dd199_66 rfl ?_
        rcases oite h with ⟨hc, h⟩ | ⟨hc, h⟩
        · refine zIT dd199_67 rfl (kEqT hc) ?_
          exact zGo_lv (lv := [(0, .ref 1132)]) ⟨by simp, by simp, by simp⟩ (f199_77_ok hd h)
        · refine zIF dd199_67 (kEqF hc) ?_
          refine zGo_s (pc' := 71) (st' := [.ref 1132]) dd199_70 rfl ?_
          obtain ⟨v14, u13, hq, h⟩ := obnd h
          refine zCV1 (As := []) (rest := []) (b := 1132) (q' := q_200) dd199_71 rfl rfl (rcv_m rfl rfl (by decide)) rfl rfl rfl (f200_ok (d := d) (by omega)  hq) ?_
          rcases oite h with ⟨hc, h⟩ | ⟨hc, h⟩
          · refine zUF dd199_74 (kNeF hc) ?_
            exact zGo_lv (lv := [(0, .ref 1132)]) ⟨by simp, by simp, by simp⟩ (f199_77_ok hd h)
          · refine zUT dd199_74 rfl (kNeT hc) ?_
            refine zGo_s (pc' := 85) (st' := [.ref 1132]) dd199_84 rfl ?_
            refine zGo_s (pc' := 86) (st' := [.int (3 : Int32), .ref 1132]) dd199_85 rfl ?_
            refine zGo_s (pc' := 87) (st' := [.ref 1132, .int (3 : Int32), .ref 1132]) dd199_86 rfl ?_
            refine mGI dd199_87 rfl rfl rfl rfl ?_
            obtain ⟨u15, hq, h⟩ := obn0 h
            refine zCV0 (As := [.int (3 : Int32), .int (u13.1 1132 4)]) (rest := []) (b := 1132) (q' := q_173) dd199_90 rfl rfl (rcv_m rfl rfl (by decide)) rfl rfl rfl (f173_ok (d := d) (by omega)  hq) ?_
            obtain rfl := ore0 h
            exact zGo_ret dd199_93 rfl rfl
      · refine zIT dd199_59 rfl (kNeT hc) ?_
        refine zGo_s (pc' := 95) (st' := [.ref x2]) dd199_94 rfl ?_
        refine mGF (e := (x2 + 22)) dd199_95 rfl (ck12_s hx2).1 (ck12_s hx2).2 rfl (cf12_24 hx2).1 ?_
        refine zGo_s (pc' := 99) (st' := [.int (4 : Int32), .ref (x2 + 22)]) dd199_98 rfl ?_
        refine zGo_s (pc' := 100) (st' := [.int x1, .int (4 : Int32), .ref (x2 + 22)]) dd199_99 rfl ?_
        refine zGo_s (pc' := 101) (st' := [.int ((4 : Int32) * x1), .ref (x2 + 22)]) dd199_100 rfl ?_
        refine zGo_s (pc' := 103) (st' := [.int x4, .int ((4 : Int32) * x1), .ref (x2 + 22)]) dd199_101 rfl ?_
        refine zGo_s (pc' := 104) (st' := [.int (((4 : Int32) * x1) + x4), .ref (x2 + 22)]) dd199_103 rfl ?_
        refine zGo_s (pc' := 105) (st' := [.ref 1132, .int (((4 : Int32) * x1) + x4), .ref (x2 + 22)]) dd199_104 rfl ?_
        obtain ⟨v7, u6, hq, h⟩ := obnd h
        refine zCV1 (As := []) (rest := [.int (((4 : Int32) * x1) + x4), .ref (x2 + 22)]) (b := 1132) (q' := q_190) dd199_105 rfl rfl (rcv_m rfl rfl (by decide)) rfl rfl rfl (f190_ok (d := d) (by omega)  hq) ?_
        obtain ⟨hi, h⟩ := ochk h
        obtain ⟨u8, e_u8, h⟩ := olet h
        refine mIS dd199_108 (cf12_24 hx2).2.1 (cf12_24 hx2).2.2 hi e_u8 ?_
        refine zGo_s (pc' := 112) (st' := []) (lv' := [(4, .int (x4 + (1 : Int32))), (0, .ref 1132), (1, .int x1), (2, .ref x2), (3, .int x3), (5, .int x5)]) dd199_109 rfl ?_
        refine zGo_s (pc' := 113) (st' := [.ref 1132]) dd199_112 rfl ?_
        obtain ⟨v10, u9, hq, h⟩ := obnd h
        refine zCV1 (As := []) (rest := []) (b := 1132) (q' := q_167) dd199_113 rfl rfl (rcv_m rfl rfl (by decide)) rfl rfl rfl (f167_ok (d := d) (by omega)  hq) ?_
        rcases oite h with ⟨hc, h⟩ | ⟨hc, h⟩
        · refine zUT dd199_116 rfl (kEqT hc) ?_
          exact zGo_lv (lv := [(0, .ref 1132), (1, .int x1), (2, .ref x2), (3, .int x3), (4, .int (x4 + (1 : Int32)))]) ⟨by simp, by simp, by simp⟩ (f199_132_ok hd ih hx2 h)
        · refine zUF dd199_116 (kEqF hc) ?_
          refine zGo_s (pc' := 120) (st' := [.ref 1132]) dd199_119 rfl ?_
          refine zGo_s (pc' := 122) (st' := [.int (44 : Int32), .ref 1132]) dd199_120 rfl ?_
          obtain ⟨v12, u11, hq, h⟩ := obnd h
          refine zCV1 (As := [.int (44 : Int32)]) (rest := []) (b := 1132) (q' := q_177) dd199_122 rfl rfl (rcv_m rfl rfl (by decide)) rfl rfl rfl (f177_ok (d := d) (by omega)  hq) ?_
          rcases oite h with ⟨hc, h⟩ | ⟨hc, h⟩
          · refine zUT dd199_125 rfl (kEqT hc) ?_
            exact zGo_lv (lv := [(0, .ref 1132), (1, .int x1), (2, .ref x2), (3, .int x3), (4, .int (x4 + (1 : Int32)))]) ⟨by simp, by simp, by simp⟩ (f199_132_ok hd ih hx2 h)
          · refine zUF dd199_125 (kEqF hc) ?_
            refine zGo_s (pc' := 129) (st' := [.int (1 : Int32)]) dd199_128 rfl ?_
            refine zGo_s (pc' := 133) (st' := [.int (1 : Int32)]) dd199_129 rfl ?_
            exact zGo_lv (lv := [(0, .ref 1132), (1, .int x1), (2, .ref x2), (3, .int x3), (4, .int (x4 + (1 : Int32)))]) ⟨by simp, by simp, by simp⟩ (f199_133_ok hd ih hx2 h)
def f199_49 (n : Nat) (x1 : Int32) (x2 : Nat) (x3 : Int32) (x4 : Int32) (y0 : Int32) (s : zσ) : Option zσ :=
    f199_51 n n x1 x2 x3 x4 y0 s
set_option maxRecDepth 20000 in
theorem f199_49_ok {n d : Nat} {x1 : Int32} {x2 : Nat} {x3 : Int32} {x4 : Int32} {y0 : Int32} {s : zσ} {s2 : zσ} (hd : 139 ≤ d) (hx2 : zck 12 x2 = true) (h : f199_49 n x1 x2 x3 x4 y0 s = some s2) {w : zσ} {fz : Bool} {L : Nat} {xs : Nat → Int32} : zGo (zX fz L xs) d q_199 (49, [(0, .ref 1132), (1, .int x1), (2, .ref x2), (3, .int x3), (4, .int x4)], [.int y0], zmk w s, 0, 0) (none, zmk w s2, 0, 0) := by
  obtain ⟨d, rfl⟩ : ∃ d0, d = d0 + 1 := ⟨d - 1, by omega⟩
  unfold f199_49 at h
  refine zGo_s (pc' := 51) (st' := []) (lv' := [(5, .int y0), (0, .ref 1132), (1, .int x1), (2, .ref x2), (3, .int x3), (4, .int x4)]) dd199_49 rfl ?_
  exact zGo_lv (lv := [(0, .ref 1132), (1, .int x1), (2, .ref x2), (3, .int x3), (4, .int x4), (5, .int y0)]) ⟨by simp, by simp, by simp⟩ (f199_51_ok hd _ _ _ _ _ _ _ _ hx2 h)
def f199_48 (n : Nat) (x1 : Int32) (x2 : Nat) (x3 : Int32) (x4 : Int32) (s : zσ) : Option zσ :=
    f199_49 n x1 x2 x3 x4 (0 : Int32) s
set_option maxRecDepth 20000 in
theorem f199_48_ok {n d : Nat} {x1 : Int32} {x2 : Nat} {x3 : Int32} {x4 : Int32} {s : zσ} {s2 : zσ} (hd : 139 ≤ d) (hx2 : zck 12 x2 = true) (h : f199_48 n x1 x2 x3 x4 s = some s2) {w : zσ} {fz : Bool} {L : Nat} {xs : Nat → Int32} : zGo (zX fz L xs) d q_199 (48, [(0, .ref 1132), (1, .int x1), (2, .ref x2), (3, .int x3), (4, .int x4)], [], zmk w s, 0, 0) (none, zmk w s2, 0, 0) := by
  obtain ⟨d, rfl⟩ : ∃ d0, d = d0 + 1 := ⟨d - 1, by omega⟩
  unfold f199_48 at h
  refine zGo_s (pc' := 49) (st' := [.int (0 : Int32)]) dd199_48 rfl ?_
  exact f199_49_ok hd hx2 h
def f199 (n : Nat) (x1 : Int32) (s : zσ) : Option zσ :=
    zrd 12 (s.2.2 1132 12) fun a1 =>
    yb1 (f189 n (7 : Int32) s) fun v3 u2 =>
    if zin? x1 200 = true then
    zlet (sI u2 (a1 + 18) (nx x1) v3) fun u4 =>
    yb0 (f179 n (40 : Int32) u4) fun u5 =>
    yb1 (f167 n u5) fun v7 u6 =>
    if v7 = (0 : Int32) then
    f199_48 n x1 a1 v3 (0 : Int32) u6
    else yb1 (f177 n (41 : Int32) u6) fun v9 u8 =>
    if v9 = (0 : Int32) then
    f199_49 n x1 a1 v3 (0 : Int32) (1 : Int32) u8
    else f199_48 n x1 a1 v3 (0 : Int32) u8
    else none
set_option maxRecDepth 20000 in
theorem f199_ok {n d : Nat} {x1 : Int32} {s : zσ} {s2 : zσ} (hd : 139 ≤ d) (h : f199 n x1 s = some s2) {w : zσ} {fz : Bool} {L : Nat} {xs : Nat → Int32} : zGo (zX fz L xs) d q_199 (0, [(0, .ref 1132), (1, .int x1)], [], zmk w s, 0, 0) (none, zmk w s2, 0, 0) := by
  obtain ⟨d, rfl⟩ : ∃ d0, d = d0 + 1 := ⟨d - 1, by omega⟩
  unfold f199 at h
  refine zGo_s (pc' := 1) (st' := [.ref 1132]) dd199_0 rfl ?_
  obtain ⟨a1, e_a1, c_a1, h⟩ := ordd h
  refine mGR dd199_1 rfl rfl rfl rfl e_a1 ?_
  refine zGo_s (pc' := 5) (st' := []) (lv' := [(2, .ref a1), (0, .ref 1132), (1, .int x1)]) dd199_4 rfl ?_
  refine zGo_s (pc' := 6) (st' := [.ref 1132]) dd199_5 rfl ?_
  refine zGo_s (pc' := 8) (st' := [.int (7 : Int32), .ref 1132]) dd199_6 rfl ?_
  obtain ⟨v3, u2, hq, h⟩ := obnd h
  refine zCV1 (As := [.int (7 : Int32)]) (rest := []) (b := 1132) (q' := q_189) dd199_8 rfl rfl (rcv_m rfl rfl (by decide)) rfl rfl rfl (f189_ok (d := d) (by omega)  hq) ?_
  refine zGo_s (pc' := 12) (st' := []) (lv' := [(3, .int v3), (2, .ref a1), (0, .ref 1132), (1, .int x1)]) dd199_11 rfl ?_
  refine zGo_s (pc' := 13) (st' := [.ref a1]) dd199_12 rfl ?_
  refine mGF (e := (a1 + 18)) dd199_13 rfl (ck12_s c_a1).1 (ck12_s c_a1).2 rfl (cf12_20 c_a1).1 ?_
  refine zGo_s (pc' := 17) (st' := [.int x1, .ref (a1 + 18)]) dd199_16 rfl ?_
  refine zGo_s (pc' := 18) (st' := [.int v3, .int x1, .ref (a1 + 18)]) dd199_17 rfl ?_
  obtain ⟨hi, h⟩ := ochk h
  obtain ⟨u4, e_u4, h⟩ := olet h
  refine mIS dd199_18 (cf12_20 c_a1).2.1 (cf12_20 c_a1).2.2 hi e_u4 ?_
  refine zGo_s (pc' := 20) (st' := [.ref 1132]) dd199_19 rfl ?_
  refine zGo_s (pc' := 22) (st' := [.int (40 : Int32), .ref 1132]) dd199_20 rfl ?_
  obtain ⟨u5, hq, h⟩ := obn0 h
  refine zCV0 (As := [.int (40 : Int32)]) (rest := []) (b := 1132) (q' := q_179) dd199_22 rfl rfl (rcv_m rfl rfl (by decide)) rfl rfl rfl (f179_ok (d := d) (by omega)  hq) ?_
  refine zGo_s (pc' := 26) (st' := [.int (0 : Int32)]) dd199_25 rfl ?_
  refine zGo_s (pc' := 28) (st' := []) (lv' := [(4, .int (0 : Int32)), (3, .int v3), (2, .ref a1), (0, .ref 1132), (1, .int x1)]) dd199_26 rfl ?_
  refine zGo_s (pc' := 29) (st' := [.ref 1132]) dd199_28 rfl ?_
  obtain ⟨v7, u6, hq, h⟩ := obnd h
  refine zCV1 (As := []) (rest := []) (b := 1132) (q' := q_167) dd199_29 rfl rfl (rcv_m rfl rfl (by decide)) rfl rfl rfl (f167_ok (d := d) (by omega)  hq) ?_
  rcases oite h with ⟨hc, h⟩ | ⟨hc, h⟩
  · refine zUT dd199_32 rfl (kEqT hc) ?_
    exact zGo_lv (lv := [(0, .ref 1132), (1, .int x1), (2, .ref a1), (3, .int v3), (4, .int (0 : Int32))]) ⟨by simp, by simp, by simp⟩ (f199_48_ok hd c_a1 h)
  · refine zUF dd199_32 (kEqF hc) ?_
    refine zGo_s (pc' := 36) (st' := [.ref 1132]) dd199_35 rfl ?_
    refine zGo_s (pc' := 38) (st' := [.int (41 : Int32), .ref 1132]) dd199_36 rfl ?_
    obtain ⟨v9, u8, hq, h⟩ := obnd h
    refine zCV1 (As := [.int (41 : Int32)]) (rest := []) (b := 1132) (q' := q_177) dd199_38 rfl rfl (rcv_m rfl rfl (by decide)) rfl rfl rfl (f177_ok (d := d) (by omega)  hq) ?_
    rcases oite h with ⟨hc, h⟩ | ⟨hc, h⟩
    · refine zUF dd199_41 (kNeF hc) ?_
      refine zGo_s (pc' := 45) (st' := [.int (1 : Int32)]) dd199_44 rfl ?_
      refine zGo_s (pc' := 49) (st' := [.int (1 : Int32)]) dd199_45 rfl ?_
      exact zGo_lv (lv := [(0, .ref 1132), (1, .int x1), (2, .ref a1), (3, .int v3), (4, .int (0 : Int32))]) ⟨by simp, by simp, by simp⟩ (f199_49_ok hd c_a1 h)
    · refine zUT dd199_41 rfl (kNeT hc) ?_
      exact zGo_lv (lv := [(0, .ref 1132), (1, .int x1), (2, .ref a1), (3, .int v3), (4, .int (0 : Int32))]) ⟨by simp, by simp, by simp⟩ (f199_48_ok hd c_a1 h)
/-! PHModel.given(I)V -/
theorem dd198_0 : decode cX13_given 0 = .ok (.aload_n 0, 1) := by decide +kernel
theorem dd198_1 : decode cX13_given 1 = .ok (.getfield 24, 3) := by decide +kernel
theorem dd198_4 : decode cX13_given 4 = .ok (.astore_n 2, 1) := by decide +kernel
theorem dd198_5 : decode cX13_given 5 = .ok (.aload_n 2, 1) := by decide +kernel
theorem dd198_6 : decode cX13_given 6 = .ok (.getfield 459, 3) := by decide +kernel
theorem dd198_9 : decode cX13_given 9 = .ok (.iload_n 1, 1) := by decide +kernel
theorem dd198_10 : decode cX13_given 10 = .ok (.iconst 1, 1) := by decide +kernel
theorem dd198_11 : decode cX13_given 11 = .ok (.iastore, 1) := by decide +kernel
theorem dd198_12 : decode cX13_given 12 = .ok (.aload_n 0, 1) := by decide +kernel
theorem dd198_13 : decode cX13_given 13 = .ok (.bipush 10, 2) := by decide +kernel
theorem dd198_15 : decode cX13_given 15 = .ok (.invokevirtual 333, 3) := by decide +kernel
theorem dd198_18 : decode cX13_given 18 = .ok (.istore_n 3, 1) := by decide +kernel
theorem dd198_19 : decode cX13_given 19 = .ok (.aload_n 2, 1) := by decide +kernel
theorem dd198_20 : decode cX13_given 20 = .ok (.getfield 441, 3) := by decide +kernel
theorem dd198_23 : decode cX13_given 23 = .ok (.iload_n 1, 1) := by decide +kernel
theorem dd198_24 : decode cX13_given 24 = .ok (.iload_n 3, 1) := by decide +kernel
theorem dd198_25 : decode cX13_given 25 = .ok (.iastore, 1) := by decide +kernel
theorem dd198_26 : decode cX13_given 26 = .ok (.aload_n 0, 1) := by decide +kernel
theorem dd198_27 : decode cX13_given 27 = .ok (.invokevirtual 223, 3) := by decide +kernel
theorem dd198_30 : decode cX13_given 30 = .ok (.ifCond .eq 90, 3) := by decide +kernel
theorem dd198_33 : decode cX13_given 33 = .ok (.aload_n 0, 1) := by decide +kernel
theorem dd198_34 : decode cX13_given 34 = .ok (.bipush 91, 2) := by decide +kernel
theorem dd198_36 : decode cX13_given 36 = .ok (.invokevirtual 227, 3) := by decide +kernel
theorem dd198_39 : decode cX13_given 39 = .ok (.ifCond .eq 81, 3) := by decide +kernel
theorem dd198_42 : decode cX13_given 42 = .ok (.aload_n 2, 1) := by decide +kernel
theorem dd198_43 : decode cX13_given 43 = .ok (.getfield 258, 3) := by decide +kernel
theorem dd198_46 : decode cX13_given 46 = .ok (.iload_n 3, 1) := by decide +kernel
theorem dd198_47 : decode cX13_given 47 = .ok (.iconst 1, 1) := by decide +kernel
theorem dd198_48 : decode cX13_given 48 = .ok (.iastore, 1) := by decide +kernel
theorem dd198_49 : decode cX13_given 49 = .ok (.aload_n 2, 1) := by decide +kernel
theorem dd198_50 : decode cX13_given 50 = .ok (.getfield 459, 3) := by decide +kernel
theorem dd198_53 : decode cX13_given 53 = .ok (.iload_n 1, 1) := by decide +kernel
theorem dd198_54 : decode cX13_given 54 = .ok (.iconst 2, 1) := by decide +kernel
theorem dd198_55 : decode cX13_given 55 = .ok (.iastore, 1) := by decide +kernel
theorem dd198_56 : decode cX13_given 56 = .ok (.aload_n 0, 1) := by decide +kernel
theorem dd198_57 : decode cX13_given 57 = .ok (.invokevirtual 338, 3) := by decide +kernel
theorem dd198_60 : decode cX13_given 60 = .ok (.aload_n 0, 1) := by decide +kernel
theorem dd198_61 : decode cX13_given 61 = .ok (.invokevirtual 223, 3) := by decide +kernel
theorem dd198_64 : decode cX13_given 64 = .ok (.ifCond .eq 35, 3) := by decide +kernel
theorem dd198_67 : decode cX13_given 67 = .ok (.aload_n 0, 1) := by decide +kernel
theorem dd198_68 : decode cX13_given 68 = .ok (.invokevirtual 231, 3) := by decide +kernel
theorem dd198_71 : decode cX13_given 71 = .ok (.aload_n 2, 1) := by decide +kernel
theorem dd198_72 : decode cX13_given 72 = .ok (.getfield 469, 3) := by decide +kernel
theorem dd198_75 : decode cX13_given 75 = .ok (.iconst 4, 1) := by decide +kernel
theorem dd198_76 : decode cX13_given 76 = .ok (.iload_n 1, 1) := by decide +kernel
theorem dd198_77 : decode cX13_given 77 = .ok (.imul, 1) := by decide +kernel
theorem dd198_78 : decode cX13_given 78 = .ok (.aload_n 0, 1) := by decide +kernel
theorem dd198_79 : decode cX13_given 79 = .ok (.invokevirtual 472, 3) := by decide +kernel
theorem dd198_82 : decode cX13_given 82 = .ok (.iastore, 1) := by decide +kernel
theorem dd198_83 : decode cX13_given 83 = .ok (.aload_n 0, 1) := by decide +kernel
theorem dd198_84 : decode cX13_given 84 = .ok (.bipush 93, 2) := by decide +kernel
theorem dd198_86 : decode cX13_given 86 = .ok (.invokevirtual 341, 3) := by decide +kernel
theorem dd198_89 : decode cX13_given 89 = .ok (.aload_n 0, 1) := by decide +kernel
theorem dd198_90 : decode cX13_given 90 = .ok (.dup, 1) := by decide +kernel
theorem dd198_91 : decode cX13_given 91 = .ok (.getfield 243, 3) := by decide +kernel
theorem dd198_94 : decode cX13_given 94 = .ok (.iconst 1, 1) := by decide +kernel
theorem dd198_95 : decode cX13_given 95 = .ok (.isub, 1) := by decide +kernel
theorem dd198_96 : decode cX13_given 96 = .ok (.putfield 243, 3) := by decide +kernel
theorem dd198_99 : decode cX13_given 99 = .ok (.aload_n 0, 1) := by decide +kernel
theorem dd198_100 : decode cX13_given 100 = .ok (.bipush 61, 2) := by decide +kernel
theorem dd198_102 : decode cX13_given 102 = .ok (.invokevirtual 341, 3) := by decide +kernel
theorem dd198_105 : decode cX13_given 105 = .ok (.aload_n 2, 1) := by decide +kernel
theorem dd198_106 : decode cX13_given 106 = .ok (.getfield 469, 3) := by decide +kernel
theorem dd198_109 : decode cX13_given 109 = .ok (.iconst 4, 1) := by decide +kernel
theorem dd198_110 : decode cX13_given 110 = .ok (.iload_n 1, 1) := by decide +kernel
theorem dd198_111 : decode cX13_given 111 = .ok (.imul, 1) := by decide +kernel
theorem dd198_112 : decode cX13_given 112 = .ok (.iconst 1, 1) := by decide +kernel
theorem dd198_113 : decode cX13_given 113 = .ok (.iadd, 1) := by decide +kernel
theorem dd198_114 : decode cX13_given 114 = .ok (.aload_n 0, 1) := by decide +kernel
theorem dd198_115 : decode cX13_given 115 = .ok (.invokevirtual 472, 3) := by decide +kernel
theorem dd198_118 : decode cX13_given 118 = .ok (.iastore, 1) := by decide +kernel
theorem dd198_119 : decode cX13_given 119 = .ok (.return_, 1) := by decide +kernel
theorem dd198_120 : decode cX13_given 120 = .ok (.aload_n 0, 1) := by decide +kernel
theorem dd198_121 : decode cX13_given 121 = .ok (.bipush 61, 2) := by decide +kernel
theorem dd198_123 : decode cX13_given 123 = .ok (.invokevirtual 341, 3) := by decide +kernel
theorem dd198_126 : decode cX13_given 126 = .ok (.aload_n 0, 1) := by decide +kernel
theorem dd198_127 : decode cX13_given 127 = .ok (.invokevirtual 223, 3) := by decide +kernel
theorem dd198_130 : decode cX13_given 130 = .ok (.ifCond .eq 32, 3) := by decide +kernel
theorem dd198_133 : decode cX13_given 133 = .ok (.aload_n 0, 1) := by decide +kernel
theorem dd198_134 : decode cX13_given 134 = .ok (.ldc_w 370, 3) := by decide +kernel
theorem dd198_137 : decode cX13_given 137 = .ok (.invokevirtual 328, 3) := by decide +kernel
theorem dd198_140 : decode cX13_given 140 = .ok (.ifCond .eq 22, 3) := by decide +kernel
theorem dd198_143 : decode cX13_given 143 = .ok (.aload_n 2, 1) := by decide +kernel
theorem dd198_144 : decode cX13_given 144 = .ok (.getfield 459, 3) := by decide +kernel
theorem dd198_147 : decode cX13_given 147 = .ok (.iload_n 1, 1) := by decide +kernel
theorem dd198_148 : decode cX13_given 148 = .ok (.iconst 3, 1) := by decide +kernel
theorem dd198_149 : decode cX13_given 149 = .ok (.iastore, 1) := by decide +kernel
theorem dd198_150 : decode cX13_given 150 = .ok (.aload_n 0, 1) := by decide +kernel
theorem dd198_151 : decode cX13_given 151 = .ok (.invokevirtual 231, 3) := by decide +kernel
theorem dd198_154 : decode cX13_given 154 = .ok (.aload_n 0, 1) := by decide +kernel
theorem dd198_155 : decode cX13_given 155 = .ok (.iload_n 1, 1) := by decide +kernel
theorem dd198_156 : decode cX13_given 156 = .ok (.invokevirtual 476, 3) := by decide +kernel
theorem dd198_159 : decode cX13_given 159 = .ok (.goto 15, 3) := by decide +kernel
theorem dd198_162 : decode cX13_given 162 = .ok (.aload_n 2, 1) := by decide +kernel
theorem dd198_163 : decode cX13_given 163 = .ok (.getfield 469, 3) := by decide +kernel
theorem dd198_166 : decode cX13_given 166 = .ok (.iconst 4, 1) := by decide +kernel
theorem dd198_167 : decode cX13_given 167 = .ok (.iload_n 1, 1) := by decide +kernel
theorem dd198_168 : decode cX13_given 168 = .ok (.imul, 1) := by decide +kernel
theorem dd198_169 : decode cX13_given 169 = .ok (.aload_n 0, 1) := by decide +kernel
theorem dd198_170 : decode cX13_given 170 = .ok (.invokevirtual 472, 3) := by decide +kernel
theorem dd198_173 : decode cX13_given 173 = .ok (.iastore, 1) := by decide +kernel
theorem dd198_174 : decode cX13_given 174 = .ok (.return_, 1) := by decide +kernel
def f198_162 (n : Nat) (x1 : Int32) (x2 : Nat) (s : zσ) : Option zσ :=
    yb1 (f190 n s) fun v2 u1 =>
    if zin? ((4 : Int32) * x1) 800 = true then
    zlet (sI u1 (x2 + 22) (nx ((4 : Int32) * x1)) v2) fun u3 =>
    some u3
    else none
set_option maxRecDepth 20000 in
theorem f198_162_ok {n d : Nat} {x1 : Int32} {x2 : Nat} {s : zσ} {s2 : zσ} (hd : 140 ≤ d) (hx2 : zck 12 x2 = true) (h : f198_162 n x1 x2 s = some s2) {w : zσ} {fz : Bool} {L : Nat} {xs : Nat → Int32} : zGo (zX fz L xs) d q_198 (162, [(0, .ref 1132), (1, .int x1), (2, .ref x2)], [], zmk w s, 0, 0) (none, zmk w s2, 0, 0) := by
  obtain ⟨d, rfl⟩ : ∃ d0, d = d0 + 1 := ⟨d - 1, by omega⟩
  unfold f198_162 at h
  refine zGo_s (pc' := 163) (st' := [.ref x2]) dd198_162 rfl ?_
  refine mGF (e := (x2 + 22)) dd198_163 rfl (ck12_s hx2).1 (ck12_s hx2).2 rfl (cf12_24 hx2).1 ?_
  refine zGo_s (pc' := 167) (st' := [.int (4 : Int32), .ref (x2 + 22)]) dd198_166 rfl ?_
  refine zGo_s (pc' := 168) (st' := [.int x1, .int (4 : Int32), .ref (x2 + 22)]) dd198_167 rfl ?_
  refine zGo_s (pc' := 169) (st' := [.int ((4 : Int32) * x1), .ref (x2 + 22)]) dd198_168 rfl ?_
  refine zGo_s (pc' := 170) (st' := [.ref 1132, .int ((4 : Int32) * x1), .ref (x2 + 22)]) dd198_169 rfl ?_
  obtain ⟨v2, u1, hq, h⟩ := obnd h
  refine zCV1 (As := []) (rest := [.int ((4 : Int32) * x1), .ref (x2 + 22)]) (b := 1132) (q' := q_190) dd198_170 rfl rfl (rcv_m rfl rfl (by decide)) rfl rfl rfl (f190_ok (d := d) (by omega)  hq) ?_
  obtain ⟨hi, h⟩ := ochk h
  obtain ⟨u3, e_u3, h⟩ := olet h
  refine mIS dd198_173 (cf12_24 hx2).2.1 (cf12_24 hx2).2.2 hi e_u3 ?_
  obtain rfl := ore0 h
  exact zGo_ret dd198_174 rfl rfl
def f198_120 (n : Nat) (x1 : Int32) (x2 : Nat) (s : zσ) : Option zσ :=
    yb0 (f179 n (61 : Int32) s) fun u1 =>
    yb1 (f167 n u1) fun v3 u2 =>
    if v3 = (0 : Int32) then
    f198_162 n x1 x2 u2
    else yb1 (f170 n 19 u2) fun v5 u4 =>
    if v5 = (0 : Int32) then
    f198_162 n x1 x2 u4
    else if zin? x1 200 = true then
    zlet (sI u4 (x2 + 15) (nx x1) (3 : Int32)) fun u6 =>
    yb0 (f164 n u6) fun u7 =>
    yb0 (f199 n x1 u7) fun u8 =>
    some u8
    else none
set_option maxRecDepth 20000 in
theorem f198_120_ok {n d : Nat} {x1 : Int32} {x2 : Nat} {s : zσ} {s2 : zσ} (hd : 140 ≤ d) (hx2 : zck 12 x2 = true) (h : f198_120 n x1 x2 s = some s2) {w : zσ} {fz : Bool} {L : Nat} {xs : Nat → Int32} : zGo (zX fz L xs) d q_198 (120, [(0, .ref 1132), (1, .int x1), (2, .ref x2)], [], zmk w s, 0, 0) (none, zmk w s2, 0, 0) := by
  obtain ⟨d, rfl⟩ : ∃ d0, d = d0 + 1 := ⟨d - 1, by omega⟩
  unfold f198_120 at h
  refine zGo_s (pc' := 121) (st' := [.ref 1132]) dd198_120 rfl ?_
  refine zGo_s (pc' := 123) (st' := [.int (61 : Int32), .ref 1132]) dd198_121 rfl ?_
  obtain ⟨u1, hq, h⟩ := obn0 h
  refine zCV0 (As := [.int (61 : Int32)]) (rest := []) (b := 1132) (q' := q_179) dd198_123 rfl rfl (rcv_m rfl rfl (by decide)) rfl rfl rfl (f179_ok (d := d) (by omega)  hq) ?_
  refine zGo_s (pc' := 127) (st' := [.ref 1132]) dd198_126 rfl ?_
  obtain ⟨v3, u2, hq, h⟩ := obnd h
  refine zCV1 (As := []) (rest := []) (b := 1132) (q' := q_167) dd198_127 rfl rfl (rcv_m rfl rfl (by decide)) rfl rfl rfl (f167_ok (d := d) (by omega)  hq) ?_
  rcases oite h with ⟨hc, h⟩ | ⟨hc, h⟩
  · refine zUT dd198_130 rfl (kEqT hc) ?_
    exact f198_162_ok hd hx2 h
  · refine zUF dd198_130 (kEqF hc) ?_
    refine zGo_s (pc' := 134) (st' := [.ref 1132]) dd198_133 rfl ?_
    refine zGo_s (pc' := 137) (st' := [.ref 19, .ref 1132]) dd198_134 rfl ?_
    obtain ⟨v5, u4, hq, h⟩ := obnd h
    refine zCV1 (As := [.ref 19]) (rest := []) (b := 1132) (q' := q_170) dd198_137 rfl rfl (rcv_m rfl rfl (by decide)) rfl rfl rfl (f170_ok (d := d) (by omega) (by decide) hq) ?_
    rcases oite h with ⟨hc, h⟩ | ⟨hc, h⟩
    · refine zUT dd198_140 rfl (kEqT hc) ?_
      exact f198_162_ok hd hx2 h
    · refine zUF dd198_140 (kEqF hc) ?_
      refine zGo_s (pc' := 144) (st' := [.ref x2]) dd198_143 rfl ?_
      refine mGF (e := (x2 + 15)) dd198_144 rfl (ck12_s hx2).1 (ck12_s hx2).2 rfl (cf12_17 hx2).1 ?_
      refine zGo_s (pc' := 148) (st' := [.int x1, .ref (x2 + 15)]) dd198_147 rfl ?_
      refine zGo_s (pc' := 149) (st' := [.int (3 : Int32), .int x1, .ref (x2 + 15)]) dd198_148 rfl ?_
      obtain ⟨hi, h⟩ := ochk h
      obtain ⟨u6, e_u6, h⟩ := olet h
      refine mIS dd198_149 (cf12_17 hx2).2.1 (cf12_17 hx2).2.2 hi e_u6 ?_
      refine zGo_s (pc' := 151) (st' := [.ref 1132]) dd198_150 rfl ?_
      obtain ⟨u7, hq, h⟩ := obn0 h
      refine zCV0 (As := []) (rest := []) (b := 1132) (q' := q_164) dd198_151 rfl rfl (rcv_m rfl rfl (by decide)) rfl rfl rfl (f164_ok (d := d) (by omega)  hq) ?_
      refine zGo_s (pc' := 155) (st' := [.ref 1132]) dd198_154 rfl ?_
      refine zGo_s (pc' := 156) (st' := [.int x1, .ref 1132]) dd198_155 rfl ?_
      obtain ⟨u8, hq, h⟩ := obn0 h
      refine zCV0 (As := [.int x1]) (rest := []) (b := 1132) (q' := q_199) dd198_156 rfl rfl (rcv_m rfl rfl (by decide)) rfl rfl rfl (f199_ok (d := d) (by omega)  hq) ?_
      refine zGo_s (pc' := 174) (st' := []) dd198_159 rfl ?_
      obtain rfl := ore0 h
      exact zGo_ret dd198_174 rfl rfl
def f198_99 (n : Nat) (x1 : Int32) (x2 : Nat) (s : zσ) : Option zσ :=
    yb0 (f179 n (61 : Int32) s) fun u1 =>
    yb1 (f190 n u1) fun v3 u2 =>
    if zin? (((4 : Int32) * x1) + (1 : Int32)) 800 = true then
    zlet (sI u2 (x2 + 22) (nx (((4 : Int32) * x1) + (1 : Int32))) v3) fun u4 =>
    some u4
    else none
set_option maxRecDepth 20000 in
theorem f198_99_ok {n d : Nat} {x1 : Int32} {x2 : Nat} {s : zσ} {s2 : zσ} (hd : 140 ≤ d) (hx2 : zck 12 x2 = true) (h : f198_99 n x1 x2 s = some s2) {w : zσ} {fz : Bool} {L : Nat} {xs : Nat → Int32} : zGo (zX fz L xs) d q_198 (99, [(0, .ref 1132), (1, .int x1), (2, .ref x2)], [], zmk w s, 0, 0) (none, zmk w s2, 0, 0) := by
  obtain ⟨d, rfl⟩ : ∃ d0, d = d0 + 1 := ⟨d - 1, by omega⟩
  unfold f198_99 at h
  refine zGo_s (pc' := 100) (st' := [.ref 1132]) dd198_99 rfl ?_
  refine zGo_s (pc' := 102) (st' := [.int (61 : Int32), .ref 1132]) dd198_100 rfl ?_
  obtain ⟨u1, hq, h⟩ := obn0 h
  refine zCV0 (As := [.int (61 : Int32)]) (rest := []) (b := 1132) (q' := q_179) dd198_102 rfl rfl (rcv_m rfl rfl (by decide)) rfl rfl rfl (f179_ok (d := d) (by omega)  hq) ?_
  refine zGo_s (pc' := 106) (st' := [.ref x2]) dd198_105 rfl ?_
  refine mGF (e := (x2 + 22)) dd198_106 rfl (ck12_s hx2).1 (ck12_s hx2).2 rfl (cf12_24 hx2).1 ?_
  refine zGo_s (pc' := 110) (st' := [.int (4 : Int32), .ref (x2 + 22)]) dd198_109 rfl ?_
  refine zGo_s (pc' := 111) (st' := [.int x1, .int (4 : Int32), .ref (x2 + 22)]) dd198_110 rfl ?_
  refine zGo_s (pc' := 112) (st' := [.int ((4 : Int32) * x1), .ref (x2 + 22)]) dd198_111 rfl ?_
  refine zGo_s (pc' := 113) (st' := [.int (1 : Int32), .int ((4 : Int32) * x1), .ref (x2 + 22)]) dd198_112 rfl ?_
  refine zGo_s (pc' := 114) (st' := [.int (((4 : Int32) * x1) + (1 : Int32)), .ref (x2 + 22)]) dd198_113 rfl ?_
  refine zGo_s (pc' := 115) (st' := [.ref 1132, .int (((4 : Int32) * x1) + (1 : Int32)), .ref (x2 + 22)]) dd198_114 rfl ?_
  obtain ⟨v3, u2, hq, h⟩ := obnd h
  refine zCV1 (As := []) (rest := [.int (((4 : Int32) * x1) + (1 : Int32)), .ref (x2 + 22)]) (b := 1132) (q' := q_190) dd198_115 rfl rfl (rcv_m rfl rfl (by decide)) rfl rfl rfl (f190_ok (d := d) (by omega)  hq) ?_
  obtain ⟨hi, h⟩ := ochk h
  obtain ⟨u4, e_u4, h⟩ := olet h
  refine mIS dd198_118 (cf12_24 hx2).2.1 (cf12_24 hx2).2.2 hi e_u4 ?_
  obtain rfl := ore0 h
  exact zGo_ret dd198_119 rfl rfl
def f198 (n : Nat) (x1 : Int32) (s : zσ) : Option zσ :=
    zrd 12 (s.2.2 1132 12) fun a1 =>
    if zin? x1 200 = true then
    zlet (sI s (a1 + 15) (nx x1) (1 : Int32)) fun u2 =>
    yb1 (f189 n (10 : Int32) u2) fun v4 u3 =>
    if zin? x1 200 = true then
    zlet (sI u3 (a1 + 17) (nx x1) v4) fun u5 =>
    yb1 (f167 n u5) fun v7 u6 =>
    if v7 = (0 : Int32) then
    f198_120 n x1 a1 u6
    else yb1 (f177 n (91 : Int32) u6) fun v9 u8 =>
    if v9 = (0 : Int32) then
    f198_120 n x1 a1 u8
    else if zin? v4 1400 = true then
    zlet (sI u8 (a1 + 31) (nx v4) (1 : Int32)) fun u10 =>
    if zin? x1 200 = true then
    zlet (sI u10 (a1 + 15) (nx x1) (2 : Int32)) fun u11 =>
    yb0 (f182 n u11) fun u12 =>
    yb1 (f167 n u12) fun v14 u13 =>
    if v14 = (0 : Int32) then
    f198_99 n x1 a1 u13
    else yb0 (f164 n u13) fun u15 =>
    yb1 (f190 n u15) fun v17 u16 =>
    if zin? ((4 : Int32) * x1) 800 = true then
    zlet (sI u16 (a1 + 22) (nx ((4 : Int32) * x1)) v17) fun u18 =>
    yb0 (f179 n (93 : Int32) u18) fun u19 =>
    zlet (sI u19 1132 14 ((u19.1 1132 14) - (1 : Int32))) fun u20 =>
    f198_99 n x1 a1 u20
    else none
    else none
    else none
    else none
    else none
set_option maxRecDepth 20000 in
theorem f198_ok {n d : Nat} {x1 : Int32} {s : zσ} {s2 : zσ} (hd : 140 ≤ d) (h : f198 n x1 s = some s2) {w : zσ} {fz : Bool} {L : Nat} {xs : Nat → Int32} : zGo (zX fz L xs) d q_198 (0, [(0, .ref 1132), (1, .int x1)], [], zmk w s, 0, 0) (none, zmk w s2, 0, 0) := by
  obtain ⟨d, rfl⟩ : ∃ d0, d = d0 + 1 := ⟨d - 1, by omega⟩
  unfold f198 at h
  refine zGo_s (pc' := 1) (st' := [.ref 1132]) dd198_0 rfl ?_
  obtain ⟨a1, e_a1, c_a1, h⟩ := ordd h
  refine mGR dd198_1 rfl rfl rfl rfl e_a1 ?_
  refine zGo_s (pc' := 5) (st' := []) (lv' := [(2, .ref a1), (0, .ref 1132), (1, .int x1)]) dd198_4 rfl ?_
  refine zGo_s (pc' := 6) (st' := [.ref a1]) dd198_5 rfl ?_
  refine mGF (e := (a1 + 15)) dd198_6 rfl (ck12_s c_a1).1 (ck12_s c_a1).2 rfl (cf12_17 c_a1).1 ?_
  refine zGo_s (pc' := 10) (st' := [.int x1, .ref (a1 + 15)]) dd198_9 rfl ?_
  refine zGo_s (pc' := 11) (st' := [.int (1 : Int32), .int x1, .ref (a1 + 15)]) dd198_10 rfl ?_
  obtain ⟨hi, h⟩ := ochk h
  obtain ⟨u2, e_u2, h⟩ := olet h
  refine mIS dd198_11 (cf12_17 c_a1).2.1 (cf12_17 c_a1).2.2 hi e_u2 ?_
  refine zGo_s (pc' := 13) (st' := [.ref 1132]) dd198_12 rfl ?_
  refine zGo_s (pc' := 15) (st' := [.int (10 : Int32), .ref 1132]) dd198_13 rfl ?_
  obtain ⟨v4, u3, hq, h⟩ := obnd h
  refine zCV1 (As := [.int (10 : Int32)]) (rest := []) (b := 1132) (q' := q_189) dd198_15 rfl rfl (rcv_m rfl rfl (by decide)) rfl rfl rfl (f189_ok (d := d) (by omega)  hq) ?_
  refine zGo_s (pc' := 19) (st' := []) (lv' := [(3, .int v4), (2, .ref a1), (0, .ref 1132), (1, .int x1)]) dd198_18 rfl ?_
  refine zGo_s (pc' := 20) (st' := [.ref a1]) dd198_19 rfl ?_
  refine mGF (e := (a1 + 17)) dd198_20 rfl (ck12_s c_a1).1 (ck12_s c_a1).2 rfl (cf12_19 c_a1).1 ?_
  refine zGo_s (pc' := 24) (st' := [.int x1, .ref (a1 + 17)]) dd198_23 rfl ?_
  refine zGo_s (pc' := 25) (st' := [.int v4, .int x1, .ref (a1 + 17)]) dd198_24 rfl ?_
  obtain ⟨hi, h⟩ := ochk h
  obtain ⟨u5, e_u5, h⟩ := olet h
  refine mIS dd198_25 (cf12_19 c_a1).2.1 (cf12_19 c_a1).2.2 hi e_u5 ?_
  refine zGo_s (pc' := 27) (st' := [.ref 1132]) dd198_26 rfl ?_
  obtain ⟨v7, u6, hq, h⟩ := obnd h
  refine zCV1 (As := []) (rest := []) (b := 1132) (q' := q_167) dd198_27 rfl rfl (rcv_m rfl rfl (by decide)) rfl rfl rfl (f167_ok (d := d) (by omega)  hq) ?_
  rcases oite h with ⟨hc, h⟩ | ⟨hc, h⟩
  · refine zUT dd198_30 rfl (kEqT hc) ?_
    exact zGo_lv (lv := [(0, .ref 1132), (1, .int x1), (2, .ref a1)]) ⟨by simp, by simp, by simp⟩ (f198_120_ok hd c_a1 h)
  · refine zUF dd198_30 (kEqF hc) ?_
    refine zGo_s (pc' := 34) (st' := [.ref 1132]) dd198_33 rfl ?_
    refine zGo_s (pc' := 36) (st' := [.int (91 : Int32), .ref 1132]) dd198_34 rfl ?_
    obtain ⟨v9, u8, hq, h⟩ := obnd h
    refine zCV1 (As := [.int (91 : Int32)]) (rest := []) (b := 1132) (q' := q_177) dd198_36 rfl rfl (rcv_m rfl rfl (by decide)) rfl rfl rfl (f177_ok (d := d) (by omega)  hq) ?_
    rcases oite h with ⟨hc, h⟩ | ⟨hc, h⟩
    · refine zUT dd198_39 rfl (kEqT hc) ?_
      exact zGo_lv (lv := [(0, .ref 1132), (1, .int x1), (2, .ref a1)]) ⟨by simp, by simp, by simp⟩ (f198_120_ok hd c_a1 h)
    · refine zUF dd198_39 (kEqF hc) ?_
      refine zGo_s (pc' := 43) (st' := [.ref a1]) dd198_42 rfl ?_
      refine mGF (e := (a1 + 31)) dd198_43 rfl (ck12_s c_a1).1 (ck12_s c_a1).2 rfl (cf12_37 c_a1).1 ?_
      refine zGo_s (pc' := 47) (st' := [.int v4, .ref (a1 + 31)]) dd198_46 rfl ?_
      refine zGo_s (pc' := 48) (st' := [.int (1 : Int32), .int v4, .ref (a1 + 31)]) dd198_47 rfl ?_
      obtain ⟨hi, h⟩ := ochk h
      obtain ⟨u10, e_u10, h⟩ := olet h
      refine mIS dd198_48 (cf12_37 c_a1).2.1 (cf12_37 c_a1).2.2 hi e_u10 ?_
      refine zGo_s (pc' := 50) (st' := [.ref a1]) dd198_49 rfl ?_
      refine mGF (e := (a1 + 15)) dd198_50 rfl (ck12_s c_a1).1 (ck12_s c_a1).2 rfl (cf12_17 c_a1).1 ?_
      refine zGo_s (pc' := 54) (st' := [.int x1, .ref (a1 + 15)]) dd198_53 rfl ?_
      refine zGo_s (pc' := 55) (st' := [.int (2 : Int32), .int x1, .ref (a1 + 15)]) dd198_54 rfl ?_
      obtain ⟨hi, h⟩ := ochk h
      obtain ⟨u11, e_u11, h⟩ := olet h
      refine mIS dd198_55 (cf12_17 c_a1).2.1 (cf12_17 c_a1).2.2 hi e_u11 ?_
      refine zGo_s (pc' := 57) (st' := [.ref 1132]) dd198_56 rfl ?_
      obtain ⟨u12, hq, h⟩ := obn0 h
      refine zCV0 (As := []) (rest := []) (b := 1132) (q' := q_182) dd198_57 rfl rfl (rcv_m rfl rfl (by decide)) rfl rfl rfl (f182_ok (d := d) (by omega)  hq) ?_
      refine zGo_s (pc' := 61) (st' := [.ref 1132]) dd198_60 rfl ?_
      obtain ⟨v14, u13, hq, h⟩ := obnd h
      refine zCV1 (As := []) (rest := []) (b := 1132) (q' := q_167) dd198_61 rfl rfl (rcv_m rfl rfl (by decide)) rfl rfl rfl (f167_ok (d := d) (by omega)  hq) ?_
      rcases oite h with ⟨hc, h⟩ | ⟨hc, h⟩
      · refine zUT dd198_64 rfl (kEqT hc) ?_
        exact zGo_lv (lv := [(0, .ref 1132), (1, .int x1), (2, .ref a1)]) ⟨by simp, by simp, by simp⟩ (f198_99_ok hd c_a1 h)
      · refine zUF dd198_64 (kEqF hc) ?_
        refine zGo_s (pc' := 68) (st' := [.ref 1132]) dd198_67 rfl ?_
        obtain ⟨u15, hq, h⟩ := obn0 h
        refine zCV0 (As := []) (rest := []) (b := 1132) (q' := q_164) dd198_68 rfl rfl (rcv_m rfl rfl (by decide)) rfl rfl rfl (f164_ok (d := d) (by omega)  hq) ?_
        refine zGo_s (pc' := 72) (st' := [.ref a1]) dd198_71 rfl ?_
        refine mGF (e := (a1 + 22)) dd198_72 rfl (ck12_s c_a1).1 (ck12_s c_a1).2 rfl (cf12_24 c_a1).1 ?_
        refine zGo_s (pc' := 76) (st' := [.int (4 : Int32), .ref (a1 + 22)]) dd198_75 rfl ?_
        refine zGo_s (pc' := 77) (st' := [.int x1, .int (4 : Int32), .ref (a1 + 22)]) dd198_76 rfl ?_
        refine zGo_s (pc' := 78) (st' := [.int ((4 : Int32) * x1), .ref (a1 + 22)]) dd198_77 rfl ?_
        refine zGo_s (pc' := 79) (st' := [.ref 1132, .int ((4 : Int32) * x1), .ref (a1 + 22)]) dd198_78 rfl ?_
        obtain ⟨v17, u16, hq, h⟩ := obnd h
        refine zCV1 (As := []) (rest := [.int ((4 : Int32) * x1), .ref (a1 + 22)]) (b := 1132) (q' := q_190) dd198_79 rfl rfl (rcv_m rfl rfl (by decide)) rfl rfl rfl (f190_ok (d := d) (by omega)  hq) ?_
        obtain ⟨hi, h⟩ := ochk h
        obtain ⟨u18, e_u18, h⟩ := olet h
        refine mIS dd198_82 (cf12_24 c_a1).2.1 (cf12_24 c_a1).2.2 hi e_u18 ?_
        refine zGo_s (pc' := 84) (st' := [.ref 1132]) dd198_83 rfl ?_
        refine zGo_s (pc' := 86) (st' := [.int (93 : Int32), .ref 1132]) dd198_84 rfl ?_
        obtain ⟨u19, hq, h⟩ := obn0 h
        refine zCV0 (As := [.int (93 : Int32)]) (rest := []) (b := 1132) (q' := q_179) dd198_86 rfl rfl (rcv_m rfl rfl (by decide)) rfl rfl rfl (f179_ok (d := d) (by omega)  hq) ?_
        refine zGo_s (pc' := 90) (st' := [.ref 1132]) dd198_89 rfl ?_
        refine zGo_s (pc' := 91) (st' := [.ref 1132, .ref 1132]) dd198_90 rfl ?_
        refine mGI dd198_91 rfl rfl rfl rfl ?_
        refine zGo_s (pc' := 95) (st' := [.int (1 : Int32), .int (u19.1 1132 14), .ref 1132]) dd198_94 rfl ?_
        refine zGo_s (pc' := 96) (st' := [.int ((u19.1 1132 14) - (1 : Int32)), .ref 1132]) dd198_95 rfl ?_
        obtain ⟨u20, e_u20, h⟩ := olet h
        refine mPI dd198_96 rfl rfl rfl rfl rfl rfl e_u20 ?_
        exact zGo_lv (lv := [(0, .ref 1132), (1, .int x1), (2, .ref a1)]) ⟨by simp, by simp, by simp⟩ (f198_99_ok hd c_a1 h)
/-! PHModel.semas(I)V -/
theorem dd202_0 : decode cX13_semas 0 = .ok (.aload_n 0, 1) := by decide +kernel
theorem dd202_1 : decode cX13_semas 1 = .ok (.getfield 24, 3) := by decide +kernel
theorem dd202_4 : decode cX13_semas 4 = .ok (.astore_n 2, 1) := by decide +kernel
theorem dd202_5 : decode cX13_semas 5 = .ok (.iconst 0, 1) := by decide +kernel
theorem dd202_6 : decode cX13_semas 6 = .ok (.istore_n 3, 1) := by decide +kernel
theorem dd202_7 : decode cX13_semas 7 = .ok (.iconst 1, 1) := by decide +kernel
theorem dd202_8 : decode cX13_semas 8 = .ok (.istore 4, 2) := by decide +kernel
theorem dd202_10 : decode cX13_semas 10 = .ok (.iload 4, 2) := by decide +kernel
theorem dd202_12 : decode cX13_semas 12 = .ok (.ifCond .eq 85, 3) := by decide +kernel
theorem dd202_15 : decode cX13_semas 15 = .ok (.iload_n 3, 1) := by decide +kernel
theorem dd202_16 : decode cX13_semas 16 = .ok (.iconst 4, 1) := by decide +kernel
theorem dd202_17 : decode cX13_semas 17 = .ok (.if_icmp .ne 27, 3) := by decide +kernel
theorem dd202_20 : decode cX13_semas 20 = .ok (.aload_n 0, 1) := by decide +kernel
theorem dd202_21 : decode cX13_semas 21 = .ok (.invokevirtual 246, 3) := by decide +kernel
theorem dd202_24 : decode cX13_semas 24 = .ok (.ifCond .eq 15, 3) := by decide +kernel
theorem dd202_27 : decode cX13_semas 27 = .ok (.aload_n 0, 1) := by decide +kernel
theorem dd202_28 : decode cX13_semas 28 = .ok (.iconst 3, 1) := by decide +kernel
theorem dd202_29 : decode cX13_semas 29 = .ok (.aload_n 0, 1) := by decide +kernel
theorem dd202_30 : decode cX13_semas 30 = .ok (.getfield 176, 3) := by decide +kernel
theorem dd202_33 : decode cX13_semas 33 = .ok (.invokevirtual 215, 3) := by decide +kernel
theorem dd202_36 : decode cX13_semas 36 = .ok (.goto 7, 3) := by decide +kernel
theorem dd202_39 : decode cX13_semas 39 = .ok (.aload_n 0, 1) := by decide +kernel
theorem dd202_40 : decode cX13_semas 40 = .ok (.invokevirtual 234, 3) := by decide +kernel
theorem dd202_43 : decode cX13_semas 43 = .ok (.return_, 1) := by decide +kernel
theorem dd202_44 : decode cX13_semas 44 = .ok (.aload_n 2, 1) := by decide +kernel
theorem dd202_45 : decode cX13_semas 45 = .ok (.getfield 487, 3) := by decide +kernel
theorem dd202_48 : decode cX13_semas 48 = .ok (.iconst 4, 1) := by decide +kernel
theorem dd202_49 : decode cX13_semas 49 = .ok (.iload_n 1, 1) := by decide +kernel
theorem dd202_50 : decode cX13_semas 50 = .ok (.imul, 1) := by decide +kernel
theorem dd202_51 : decode cX13_semas 51 = .ok (.iload_n 3, 1) := by decide +kernel
theorem dd202_52 : decode cX13_semas 52 = .ok (.iadd, 1) := by decide +kernel
theorem dd202_53 : decode cX13_semas 53 = .ok (.aload_n 0, 1) := by decide +kernel
theorem dd202_54 : decode cX13_semas 54 = .ok (.iconst 2, 1) := by decide +kernel
theorem dd202_55 : decode cX13_semas 55 = .ok (.invokevirtual 333, 3) := by decide +kernel
theorem dd202_58 : decode cX13_semas 58 = .ok (.iastore, 1) := by decide +kernel
theorem dd202_59 : decode cX13_semas 59 = .ok (.iinc 3 1, 3) := by decide +kernel
theorem dd202_62 : decode cX13_semas 62 = .ok (.aload_n 0, 1) := by decide +kernel
theorem dd202_63 : decode cX13_semas 63 = .ok (.invokevirtual 223, 3) := by decide +kernel
theorem dd202_66 : decode cX13_semas 66 = .ok (.ifCond .eq 16, 3) := by decide +kernel
theorem dd202_69 : decode cX13_semas 69 = .ok (.aload_n 0, 1) := by decide +kernel
theorem dd202_70 : decode cX13_semas 70 = .ok (.bipush 44, 2) := by decide +kernel
theorem dd202_72 : decode cX13_semas 72 = .ok (.invokevirtual 227, 3) := by decide +kernel
theorem dd202_75 : decode cX13_semas 75 = .ok (.ifCond .eq 7, 3) := by decide +kernel
theorem dd202_78 : decode cX13_semas 78 = .ok (.iconst 1, 1) := by decide +kernel
theorem dd202_79 : decode cX13_semas 79 = .ok (.goto 4, 3) := by decide +kernel
theorem dd202_82 : decode cX13_semas 82 = .ok (.iconst 0, 1) := by decide +kernel
theorem dd202_83 : decode cX13_semas 83 = .ok (.istore 4, 2) := by decide +kernel
theorem dd202_85 : decode cX13_semas 85 = .ok (.iload 4, 2) := by decide +kernel
theorem dd202_87 : decode cX13_semas 87 = .ok (.ifCond .eq (-77), 3) := by decide +kernel
theorem dd202_90 : decode cX13_semas 90 = .ok (.aload_n 0, 1) := by decide +kernel
theorem dd202_91 : decode cX13_semas 91 = .ok (.invokevirtual 231, 3) := by decide +kernel
theorem dd202_94 : decode cX13_semas 94 = .ok (.goto (-84), 3) := by decide +kernel
theorem dd202_97 : decode cX13_semas 97 = .ok (.aload_n 2, 1) := by decide +kernel
theorem dd202_98 : decode cX13_semas 98 = .ok (.getfield 450, 3) := by decide +kernel
theorem dd202_101 : decode cX13_semas 101 = .ok (.iload_n 1, 1) := by decide +kernel
theorem dd202_102 : decode cX13_semas 102 = .ok (.iload_n 3, 1) := by decide +kernel
theorem dd202_103 : decode cX13_semas 103 = .ok (.iastore, 1) := by decide +kernel
theorem dd202_104 : decode cX13_semas 104 = .ok (.return_, 1) := by decide +kernel
def f202_83 (n : Nat) (r10 : Int32 → Nat → Int32 → Int32 → zσ → Option zσ) (x1 : Int32) (x2 : Nat) (x3 : Int32) (y0 : Int32) (s : zσ) : Option zσ :=
    if y0 = (0 : Int32) then
    r10 x1 x2 x3 y0 s
    else yb0 (f164 n s) fun u1 =>
    r10 x1 x2 x3 y0 u1
set_option maxRecDepth 20000 in
theorem f202_83_ok {n d : Nat} {r10 : Int32 → Nat → Int32 → Int32 → zσ → Option zσ} {x1 : Int32} {x2 : Nat} {x3 : Int32} {y0 : Int32} {s : zσ} {s2 : zσ} (hd : 9 ≤ d) (hr10 : ∀ (x1 : Int32) (x2 : Nat) (x3 : Int32) (x4 : Int32) (s : zσ) (s2 : zσ), zck 12 x2 = true → r10 x1 x2 x3 x4 s = some s2 → ∀ {w : zσ} {fz : Bool} {L : Nat} {xs : Nat → Int32}, zGo (zX fz L xs) d q_202 (10, [(0, .ref 1132), (1, .int x1), (2, .ref x2), (3, .int x3), (4, .int x4)], [], zmk w s, 0, 0) (none, zmk w s2, 0, 0)) (hx2 : zck 12 x2 = true) (h : f202_83 n r10 x1 x2 x3 y0 s = some s2) {w : zσ} {fz : Bool} {L : Nat} {xs : Nat → Int32} : zGo (zX fz L xs) d q_202 (83, [(0, .ref 1132), (1, .int x1), (2, .ref x2), (3, .int x3)], [.int y0], zmk w s, 0, 0) (none, zmk w s2, 0, 0) := by
  obtain ⟨d, rfl⟩ : ∃ d0, d = d0 + 1 := ⟨d - 1, by omega⟩
  unfold f202_83 at h
  refine zGo_s (pc' := 85) (st' := []) (lv' := [(4, .int y0), (0, .ref 1132), (1, .int x1), (2, .ref x2), (3, .int x3)]) dd202_83 rfl ?_
  refine zGo_s (pc' := 87) (st' := [.int y0]) dd202_85 rfl ?_
  rcases oite h with ⟨hc, h⟩ | ⟨hc, h⟩
  · refine zUT dd202_87 rfl (kEqT hc) ?_
    exact zGo_lv (lv := [(0, .ref 1132), (1, .int x1), (2, .ref x2), (3, .int x3), (4, .int y0)]) ⟨by simp, by simp, by simp⟩ (hr10 _ _ _ _ _ _ hx2 h)
  · refine zUF dd202_87 (kEqF hc) ?_
    refine zGo_s (pc' := 91) (st' := [.ref 1132]) dd202_90 rfl ?_
    obtain ⟨u1, hq, h⟩ := obn0 h
    refine zCV0 (As := []) (rest := []) (b := 1132) (q' := q_164) dd202_91 rfl rfl (rcv_m rfl rfl (by decide)) rfl rfl rfl (f164_ok (d := d) (by omega)  hq) ?_
    refine zGo_s (pc' := 10) (st' := []) dd202_94 rfl ?_
    exact zGo_lv (lv := [(0, .ref 1132), (1, .int x1), (2, .ref x2), (3, .int x3), (4, .int y0)]) ⟨by simp, by simp, by simp⟩ (hr10 _ _ _ _ _ _ hx2 h)
def f202_82 (n : Nat) (r10 : Int32 → Nat → Int32 → Int32 → zσ → Option zσ) (x1 : Int32) (x2 : Nat) (x3 : Int32) (s : zσ) : Option zσ :=
    f202_83 n r10 x1 x2 x3 (0 : Int32) s
set_option maxRecDepth 20000 in
theorem f202_82_ok {n d : Nat} {r10 : Int32 → Nat → Int32 → Int32 → zσ → Option zσ} {x1 : Int32} {x2 : Nat} {x3 : Int32} {s : zσ} {s2 : zσ} (hd : 9 ≤ d) (hr10 : ∀ (x1 : Int32) (x2 : Nat) (x3 : Int32) (x4 : Int32) (s : zσ) (s2 : zσ), zck 12 x2 = true → r10 x1 x2 x3 x4 s = some s2 → ∀ {w : zσ} {fz : Bool} {L : Nat} {xs : Nat → Int32}, zGo (zX fz L xs) d q_202 (10, [(0, .ref 1132), (1, .int x1), (2, .ref x2), (3, .int x3), (4, .int x4)], [], zmk w s, 0, 0) (none, zmk w s2, 0, 0)) (hx2 : zck 12 x2 = true) (h : f202_82 n r10 x1 x2 x3 s = some s2) {w : zσ} {fz : Bool} {L : Nat} {xs : Nat → Int32} : zGo (zX fz L xs) d q_202 (82, [(0, .ref 1132), (1, .int x1), (2, .ref x2), (3, .int x3)], [], zmk w s, 0, 0) (none, zmk w s2, 0, 0) := by
  obtain ⟨d, rfl⟩ : ∃ d0, d = d0 + 1 := ⟨d - 1, by omega⟩
  unfold f202_82 at h
  refine zGo_s (pc' := 83) (st' := [.int (0 : Int32)]) dd202_82 rfl ?_
  exact f202_83_ok hd hr10 hx2 h
def f202_10 (n : Nat) : Nat → Int32 → Nat → Int32 → Int32 → zσ → Option zσ
  | 0, _, _, _, _, _ => none
  | j + 1, x1, x2, x3, x4, s =>
    if x4 = (0 : Int32) then
    if zin? x1 200 = true then
    zlet (sI s (x2 + 20) (nx x1) x3) fun u1 =>
    some u1
    else none
    else if x3 = (4 : Int32) then
    yb1 (f175 n s) fun v10 u9 =>
    if v10 = (0 : Int32) then
    yb0 (f172 n u9) fun u11 =>
    some u11
    else yb0 (f173 n (3 : Int32) (u9.1 1132 4) u9) fun u12 =>
    some u12
    else yb1 (f189 n (2 : Int32) s) fun v3 u2 =>
    if zin? (((4 : Int32) * x1) + x3) 800 = true then
    zlet (sI u2 (x2 + 21) (nx (((4 : Int32) * x1) + x3)) v3) fun u4 =>
    yb1 (f167 n u4) fun v6 u5 =>
    if v6 = (0 : Int32) then
    f202_82 n (f202_10 n j) x1 x2 (x3 + (1 : Int32)) u5
    else yb1 (f177 n (44 : Int32) u5) fun v8 u7 =>
    if v8 = (0 : Int32) then
    f202_82 n (f202_10 n j) x1 x2 (x3 + (1 : Int32)) u7
    else f202_83 n (f202_10 n j) x1 x2 (x3 + (1 : Int32)) (1 : Int32) u7
    else none
set_option maxRecDepth 20000 in
theorem f202_10_ok {n d : Nat} (hd : 9 ≤ d) : ∀ (j : Nat) (x1 : Int32) (x2 : Nat) (x3 : Int32) (x4 : Int32) (s : zσ) (s2 : zσ), zck 12 x2 = true → f202_10 n j x1 x2 x3 x4 s = some s2 → ∀ {w : zσ} {fz : Bool} {L : Nat} {xs : Nat → Int32}, zGo (zX fz L xs) d q_202 (10, [(0, .ref 1132), (1, .int x1), (2, .ref x2), (3, .int x3), (4, .int x4)], [], zmk w s, 0, 0) (none, zmk w s2, 0, 0) := by
  obtain ⟨d, rfl⟩ : ∃ d0, d = d0 + 1 := ⟨d - 1, by omega⟩
  intro j
  induction j with
  | zero => intro x1 x2 x3 x4 s s2 hx2 h; cases h
  | succ j ih =>
    intro x1 x2 x3 x4 s s2 hx2 h w fz L xs
    rw [f202_10] at h
    refine zGo_s (pc' := 12) (st' := [.int x4]) dd202_10 rfl ?_
    rcases oite h with ⟨hc, h⟩ | ⟨hc, h⟩
    · refine zUT dd202_12 rfl (kEqT hc) ?_
      refine zGo_s (pc' := 98) (st' := [.ref x2]) dd202_97 rfl ?_
      refine mGF (e := (x2 + 20)) dd202_98 rfl (ck12_s hx2).1 (ck12_s hx2).2 rfl (cf12_22 hx2).1 ?_
      refine zGo_s (pc' := 102) (st' := [.int x1, .ref (x2 + 20)]) dd202_101 rfl ?_
      refine zGo_s (pc' := 103) (st' := [.int x3, .int x1, .ref (x2 + 20)]) dd202_102 rfl ?_
      obtain ⟨hi, h⟩ := ochk h
      obtain ⟨u1, e_u1, h⟩ := olet h
      refine mIS dd202_103 (cf12_22 hx2).2.1 (cf12_22 hx2).2.2 hi e_u1 ?_
      obtain rfl := ore0 h
      exact zGo_ret dd202_104 rfl rfl
    · refine zUF dd202_12 (kEqF hc) ?_
      refine zGo_s (pc' := 16) (st' := [.int x3]) dd202_15 rfl ?_
      refine zGo_s (pc' := 17) (st' := [.int (4 : Int32), .int x3]) dd202_16 rfl ?_
      rcases oite h with ⟨hc, h⟩ | ⟨hc, h⟩
      · refine zIF dd202_17 (kNeF hc) ?_
        refine zGo_s (pc' := 21) (st' := [.ref 1132]) dd202_20 rfl ?_
        obtain ⟨v10, u9, hq, h⟩ := obnd h
        refine zCV1 (As := []) (rest := []) (b := 1132) (q' := q_175) dd202_21 rfl rfl (rcv_m rfl rfl (by decide)) rfl rfl rfl (f175_ok (d := d) (by omega)  hq) ?_
        rcases oite h with ⟨hc, h⟩ | ⟨hc, h⟩
        · refine zUT dd202_24 rfl (kEqT hc) ?_
          refine zGo_s (pc' := 40) (st' := [.ref 1132]) dd202_39 rfl ?_
          obtain ⟨u11, hq, h⟩ := obn0 h
          refine zCV0 (As := []) (rest := []) (b := 1132) (q' := q_172) dd202_40 rfl rfl (rcv_m rfl rfl (by decide)) rfl rfl rfl (f172_ok (d := d) (by omega)  hq) ?_
          obtain rfl := ore0 h
          exact zGo_ret dd202_43 rfl rfl
        · refine zUF dd202_24 (kEqF hc) ?_
          refine zGo_s (pc' := 28) (st' := [.ref 1132]) dd202_27 rfl ?_
          refine zGo_s (pc' := 29) (st' := [.int (3 : Int32), .ref 1132]) dd202_28 rfl ?_
          refine zGo_s (pc' := 30) (st' := [.ref 1132, .int (3 : Int32), .ref 1132]) dd202_29 rfl ?_
          refine mGI dd202_30 rfl rfl rfl rfl ?_
          obtain ⟨u12, hq, h⟩ := obn0 h
          refine zCV0 (As := [.int (3 : Int32), .int (u9.1 1132 4)]) (rest := []) (b := 1132) (q' := q_173) dd202_33 rfl rfl (rcv_m rfl rfl (by decide)) rfl rfl rfl (f173_ok (d := d) (by omega)  hq) ?_
          refine zGo_s (pc' := 43) (st' := []) dd202_36 rfl ?_
          obtain rfl := ore0 h
          exact zGo_ret dd202_43 rfl rfl
      · refine zIT dd202_17 rfl (kNeT hc) ?_
        refine zGo_s (pc' := 45) (st' := [.ref x2]) dd202_44 rfl ?_
        refine mGF (e := (x2 + 21)) dd202_45 rfl (ck12_s hx2).1 (ck12_s hx2).2 rfl (cf12_23 hx2).1 ?_
        refine zGo_s (pc' := 49) (st' := [.int (4 : Int32), .ref (x2 + 21)]) dd202_48 rfl ?_
        refine zGo_s (pc' := 50) (st' := [.int x1, .int (4 : Int32), .ref (x2 + 21)]) dd202_49 rfl ?_
        refine zGo_s (pc' := 51) (st' := [.int ((4 : Int32) * x1), .ref (x2 + 21)]) dd202_50 rfl ?_
        refine zGo_s (pc' := 52) (st' := [.int x3, .int ((4 : Int32) * x1), .ref (x2 + 21)]) dd202_51 rfl ?_
        refine zGo_s (pc' := 53) (st' := [.int (((4 : Int32) * x1) + x3), .ref (x2 + 21)]) dd202_52 rfl ?_
        refine zGo_s (pc' := 54) (st' := [.ref 1132, .int (((4 : Int32) * x1) + x3), .ref (x2 + 21)]) dd202_53 rfl ?_
        refine zGo_s (pc' := 55) (st' := [.int (2 : Int32), .ref 1132, .int (((4 : Int32) * x1) + x3), .ref (x2 + 21)]) dd202_54 rfl ?_
        obtain ⟨v3, u2, hq, h⟩ := obnd h
        refine zCV1 (As := [.int (2 : Int32)]) (rest := [.int (((4 : Int32) * x1) + x3), .ref (x2 + 21)]) (b := 1132) (q' := q_189) dd202_55 rfl rfl (rcv_m rfl rfl (by decide)) rfl rfl rfl (f189_ok (d := d) (by omega)  hq) ?_
        obtain ⟨hi, h⟩ := ochk h
        obtain ⟨u4, e_u4, h⟩ := olet h
        refine mIS dd202_58 (cf12_23 hx2).2.1 (cf12_23 hx2).2.2 hi e_u4 ?_
        refine zGo_s (pc' := 62) (st' := []) (lv' := [(3, .int (x3 + (1 : Int32))), (0, .ref 1132), (1, .int x1), (2, .ref x2), (4, .int x4)]) dd202_59 rfl ?_
        refine zGo_s (pc' := 63) (st' := [.ref 1132]) dd202_62 rfl ?_
        obtain ⟨v6, u5, hq, h⟩ := obnd h
        refine zCV1 (As := []) (rest := []) (b := 1132) (q' := q_167) dd202_63 rfl rfl (rcv_m rfl rfl (by decide)) rfl rfl rfl (f167_ok (d := d) (by omega)  hq) ?_
        rcases oite h with ⟨hc, h⟩ | ⟨hc, h⟩
        · refine zUT dd202_66 rfl (kEqT hc) ?_
          exact zGo_lv (lv := [(0, .ref 1132), (1, .int x1), (2, .ref x2), (3, .int (x3 + (1 : Int32)))]) ⟨by simp, by simp, by simp⟩ (f202_82_ok hd ih hx2 h)
        · refine zUF dd202_66 (kEqF hc) ?_
          refine zGo_s (pc' := 70) (st' := [.ref 1132]) dd202_69 rfl ?_
          refine zGo_s (pc' := 72) (st' := [.int (44 : Int32), .ref 1132]) dd202_70 rfl ?_
          obtain ⟨v8, u7, hq, h⟩ := obnd h
          refine zCV1 (As := [.int (44 : Int32)]) (rest := []) (b := 1132) (q' := q_177) dd202_72 rfl rfl (rcv_m rfl rfl (by decide)) rfl rfl rfl (f177_ok (d := d) (by omega)  hq) ?_
          rcases oite h with ⟨hc, h⟩ | ⟨hc, h⟩
          · refine zUT dd202_75 rfl (kEqT hc) ?_
            exact zGo_lv (lv := [(0, .ref 1132), (1, .int x1), (2, .ref x2), (3, .int (x3 + (1 : Int32)))]) ⟨by simp, by simp, by simp⟩ (f202_82_ok hd ih hx2 h)
          · refine zUF dd202_75 (kEqF hc) ?_
            refine zGo_s (pc' := 79) (st' := [.int (1 : Int32)]) dd202_78 rfl ?_
            refine zGo_s (pc' := 83) (st' := [.int (1 : Int32)]) dd202_79 rfl ?_
            exact zGo_lv (lv := [(0, .ref 1132), (1, .int x1), (2, .ref x2), (3, .int (x3 + (1 : Int32)))]) ⟨by simp, by simp, by simp⟩ (f202_83_ok hd ih hx2 h)
def f202 (n : Nat) (x1 : Int32) (s : zσ) : Option zσ :=
    zrd 12 (s.2.2 1132 12) fun a1 =>
    f202_10 n n x1 a1 (0 : Int32) (1 : Int32) s
set_option maxRecDepth 20000 in
theorem f202_ok {n d : Nat} {x1 : Int32} {s : zσ} {s2 : zσ} (hd : 9 ≤ d) (h : f202 n x1 s = some s2) {w : zσ} {fz : Bool} {L : Nat} {xs : Nat → Int32} : zGo (zX fz L xs) d q_202 (0, [(0, .ref 1132), (1, .int x1)], [], zmk w s, 0, 0) (none, zmk w s2, 0, 0) := by
  obtain ⟨d, rfl⟩ : ∃ d0, d = d0 + 1 := ⟨d - 1, by omega⟩
  unfold f202 at h
  refine zGo_s (pc' := 1) (st' := [.ref 1132]) dd202_0 rfl ?_
  obtain ⟨a1, e_a1, c_a1, h⟩ := ordd h
  refine mGR dd202_1 rfl rfl rfl rfl e_a1 ?_
  refine zGo_s (pc' := 5) (st' := []) (lv' := [(2, .ref a1), (0, .ref 1132), (1, .int x1)]) dd202_4 rfl ?_
  refine zGo_s (pc' := 6) (st' := [.int (0 : Int32)]) dd202_5 rfl ?_
  refine zGo_s (pc' := 7) (st' := []) (lv' := [(3, .int (0 : Int32)), (2, .ref a1), (0, .ref 1132), (1, .int x1)]) dd202_6 rfl ?_
  refine zGo_s (pc' := 8) (st' := [.int (1 : Int32)]) dd202_7 rfl ?_
  refine zGo_s (pc' := 10) (st' := []) (lv' := [(4, .int (1 : Int32)), (3, .int (0 : Int32)), (2, .ref a1), (0, .ref 1132), (1, .int x1)]) dd202_8 rfl ?_
  exact zGo_lv (lv := [(0, .ref 1132), (1, .int x1), (2, .ref a1), (3, .int (0 : Int32)), (4, .int (1 : Int32))]) ⟨by simp, by simp, by simp⟩ (f202_10_ok hd _ _ _ _ _ _ _ c_a1 h)
/-! PHModel.worded(II)V -/
theorem dd201_0 : decode cX13_worded 0 = .ok (.aload_n 0, 1) := by decide +kernel
theorem dd201_1 : decode cX13_worded 1 = .ok (.getfield 24, 3) := by decide +kernel
theorem dd201_4 : decode cX13_worded 4 = .ok (.astore_n 3, 1) := by decide +kernel
theorem dd201_5 : decode cX13_worded 5 = .ok (.iload_n 2, 1) := by decide +kernel
theorem dd201_6 : decode cX13_worded 6 = .ok (.tableswitch 416 3 28 #[118, 126, 141, 141, 202, 228, 253, 267, 267, 275, 275, 275, 275, 322, 322, 289, 322, 337, 322, 126, 364, 389, 416, 416, 416, 126], 118) := by decide +kernel
theorem dd201_124 : decode cX13_worded 124 = .ok (.aload_n 0, 1) := by decide +kernel
theorem dd201_125 : decode cX13_worded 125 = .ok (.iload_n 1, 1) := by decide +kernel
theorem dd201_126 : decode cX13_worded 126 = .ok (.invokevirtual 476, 3) := by decide +kernel
theorem dd201_129 : decode cX13_worded 129 = .ok (.goto 304, 3) := by decide +kernel
theorem dd201_132 : decode cX13_worded 132 = .ok (.aload_n 3, 1) := by decide +kernel
theorem dd201_133 : decode cX13_worded 133 = .ok (.getfield 469, 3) := by decide +kernel
theorem dd201_136 : decode cX13_worded 136 = .ok (.iconst 4, 1) := by decide +kernel
theorem dd201_137 : decode cX13_worded 137 = .ok (.iload_n 1, 1) := by decide +kernel
theorem dd201_138 : decode cX13_worded 138 = .ok (.imul, 1) := by decide +kernel
theorem dd201_139 : decode cX13_worded 139 = .ok (.aload_n 0, 1) := by decide +kernel
theorem dd201_140 : decode cX13_worded 140 = .ok (.invokevirtual 472, 3) := by decide +kernel
theorem dd201_143 : decode cX13_worded 143 = .ok (.iastore, 1) := by decide +kernel
theorem dd201_144 : decode cX13_worded 144 = .ok (.goto 289, 3) := by decide +kernel
theorem dd201_147 : decode cX13_worded 147 = .ok (.aload_n 3, 1) := by decide +kernel
theorem dd201_148 : decode cX13_worded 148 = .ok (.getfield 469, 3) := by decide +kernel
theorem dd201_151 : decode cX13_worded 151 = .ok (.iconst 4, 1) := by decide +kernel
theorem dd201_152 : decode cX13_worded 152 = .ok (.iload_n 1, 1) := by decide +kernel
theorem dd201_153 : decode cX13_worded 153 = .ok (.imul, 1) := by decide +kernel
theorem dd201_154 : decode cX13_worded 154 = .ok (.aload_n 0, 1) := by decide +kernel
theorem dd201_155 : decode cX13_worded 155 = .ok (.invokevirtual 472, 3) := by decide +kernel
theorem dd201_158 : decode cX13_worded 158 = .ok (.iastore, 1) := by decide +kernel
theorem dd201_159 : decode cX13_worded 159 = .ok (.aload_n 3, 1) := by decide +kernel
theorem dd201_160 : decode cX13_worded 160 = .ok (.getfield 453, 3) := by decide +kernel
theorem dd201_163 : decode cX13_worded 163 = .ok (.iload_n 1, 1) := by decide +kernel
theorem dd201_164 : decode cX13_worded 164 = .ok (.aload_n 0, 1) := by decide +kernel
theorem dd201_165 : decode cX13_worded 165 = .ok (.invokevirtual 367, 3) := by decide +kernel
theorem dd201_168 : decode cX13_worded 168 = .ok (.iastore, 1) := by decide +kernel
theorem dd201_169 : decode cX13_worded 169 = .ok (.aload_n 0, 1) := by decide +kernel
theorem dd201_170 : decode cX13_worded 170 = .ok (.invokevirtual 223, 3) := by decide +kernel
theorem dd201_173 : decode cX13_worded 173 = .ok (.ifCond .eq 260, 3) := by decide +kernel
theorem dd201_176 : decode cX13_worded 176 = .ok (.iload_n 2, 1) := by decide +kernel
theorem dd201_177 : decode cX13_worded 177 = .ok (.iconst 5, 1) := by decide +kernel
theorem dd201_178 : decode cX13_worded 178 = .ok (.if_icmp .ne 255, 3) := by decide +kernel
theorem dd201_181 : decode cX13_worded 181 = .ok (.aload_n 0, 1) := by decide +kernel
theorem dd201_182 : decode cX13_worded 182 = .ok (.ldc_w 482, 3) := by decide +kernel
theorem dd201_185 : decode cX13_worded 185 = .ok (.invokevirtual 328, 3) := by decide +kernel
theorem dd201_188 : decode cX13_worded 188 = .ok (.ifCond .eq 245, 3) := by decide +kernel
theorem dd201_191 : decode cX13_worded 191 = .ok (.aload_n 0, 1) := by decide +kernel
theorem dd201_192 : decode cX13_worded 192 = .ok (.invokevirtual 231, 3) := by decide +kernel
theorem dd201_195 : decode cX13_worded 195 = .ok (.aload_n 3, 1) := by decide +kernel
theorem dd201_196 : decode cX13_worded 196 = .ok (.getfield 456, 3) := by decide +kernel
theorem dd201_199 : decode cX13_worded 199 = .ok (.iload_n 1, 1) := by decide +kernel
theorem dd201_200 : decode cX13_worded 200 = .ok (.aload_n 0, 1) := by decide +kernel
theorem dd201_201 : decode cX13_worded 201 = .ok (.invokevirtual 367, 3) := by decide +kernel
theorem dd201_204 : decode cX13_worded 204 = .ok (.iastore, 1) := by decide +kernel
theorem dd201_205 : decode cX13_worded 205 = .ok (.goto 228, 3) := by decide +kernel
theorem dd201_208 : decode cX13_worded 208 = .ok (.aload_n 3, 1) := by decide +kernel
theorem dd201_209 : decode cX13_worded 209 = .ok (.getfield 441, 3) := by decide +kernel
theorem dd201_212 : decode cX13_worded 212 = .ok (.iload_n 1, 1) := by decide +kernel
theorem dd201_213 : decode cX13_worded 213 = .ok (.aload_n 0, 1) := by decide +kernel
theorem dd201_214 : decode cX13_worded 214 = .ok (.iconst 1, 1) := by decide +kernel
theorem dd201_215 : decode cX13_worded 215 = .ok (.invokevirtual 333, 3) := by decide +kernel
theorem dd201_218 : decode cX13_worded 218 = .ok (.iastore, 1) := by decide +kernel
theorem dd201_219 : decode cX13_worded 219 = .ok (.aload_n 3, 1) := by decide +kernel
theorem dd201_220 : decode cX13_worded 220 = .ok (.getfield 469, 3) := by decide +kernel
theorem dd201_223 : decode cX13_worded 223 = .ok (.iconst 4, 1) := by decide +kernel
theorem dd201_224 : decode cX13_worded 224 = .ok (.iload_n 1, 1) := by decide +kernel
theorem dd201_225 : decode cX13_worded 225 = .ok (.imul, 1) := by decide +kernel
theorem dd201_226 : decode cX13_worded 226 = .ok (.aload_n 0, 1) := by decide +kernel
theorem dd201_227 : decode cX13_worded 227 = .ok (.invokevirtual 472, 3) := by decide +kernel
theorem dd201_230 : decode cX13_worded 230 = .ok (.iastore, 1) := by decide +kernel
theorem dd201_231 : decode cX13_worded 231 = .ok (.goto 202, 3) := by decide +kernel
theorem dd201_234 : decode cX13_worded 234 = .ok (.aload_n 3, 1) := by decide +kernel
theorem dd201_235 : decode cX13_worded 235 = .ok (.getfield 441, 3) := by decide +kernel
theorem dd201_238 : decode cX13_worded 238 = .ok (.iload_n 1, 1) := by decide +kernel
theorem dd201_239 : decode cX13_worded 239 = .ok (.aload_n 0, 1) := by decide +kernel
theorem dd201_240 : decode cX13_worded 240 = .ok (.iconst 1, 1) := by decide +kernel
theorem dd201_241 : decode cX13_worded 241 = .ok (.invokevirtual 333, 3) := by decide +kernel
theorem dd201_244 : decode cX13_worded 244 = .ok (.iastore, 1) := by decide +kernel
theorem dd201_245 : decode cX13_worded 245 = .ok (.aload_n 3, 1) := by decide +kernel
theorem dd201_246 : decode cX13_worded 246 = .ok (.getfield 444, 3) := by decide +kernel
theorem dd201_249 : decode cX13_worded 249 = .ok (.iload_n 1, 1) := by decide +kernel
theorem dd201_250 : decode cX13_worded 250 = .ok (.aload_n 0, 1) := by decide +kernel
theorem dd201_251 : decode cX13_worded 251 = .ok (.iconst 1, 1) := by decide +kernel
theorem dd201_252 : decode cX13_worded 252 = .ok (.invokevirtual 333, 3) := by decide +kernel
theorem dd201_255 : decode cX13_worded 255 = .ok (.iastore, 1) := by decide +kernel
theorem dd201_256 : decode cX13_worded 256 = .ok (.goto 177, 3) := by decide +kernel
theorem dd201_259 : decode cX13_worded 259 = .ok (.aload_n 3, 1) := by decide +kernel
theorem dd201_260 : decode cX13_worded 260 = .ok (.getfield 441, 3) := by decide +kernel
theorem dd201_263 : decode cX13_worded 263 = .ok (.iload_n 1, 1) := by decide +kernel
theorem dd201_264 : decode cX13_worded 264 = .ok (.aload_n 0, 1) := by decide +kernel
theorem dd201_265 : decode cX13_worded 265 = .ok (.iconst 1, 1) := by decide +kernel
theorem dd201_266 : decode cX13_worded 266 = .ok (.invokevirtual 333, 3) := by decide +kernel
theorem dd201_269 : decode cX13_worded 269 = .ok (.iastore, 1) := by decide +kernel
theorem dd201_270 : decode cX13_worded 270 = .ok (.goto 163, 3) := by decide +kernel
theorem dd201_273 : decode cX13_worded 273 = .ok (.aload_n 0, 1) := by decide +kernel
theorem dd201_274 : decode cX13_worded 274 = .ok (.iload_n 1, 1) := by decide +kernel
theorem dd201_275 : decode cX13_worded 275 = .ok (.invokevirtual 484, 3) := by decide +kernel
theorem dd201_278 : decode cX13_worded 278 = .ok (.goto 155, 3) := by decide +kernel
theorem dd201_281 : decode cX13_worded 281 = .ok (.aload_n 3, 1) := by decide +kernel
theorem dd201_282 : decode cX13_worded 282 = .ok (.getfield 441, 3) := by decide +kernel
theorem dd201_285 : decode cX13_worded 285 = .ok (.iload_n 1, 1) := by decide +kernel
theorem dd201_286 : decode cX13_worded 286 = .ok (.aload_n 0, 1) := by decide +kernel
theorem dd201_287 : decode cX13_worded 287 = .ok (.iconst 3, 1) := by decide +kernel
theorem dd201_288 : decode cX13_worded 288 = .ok (.invokevirtual 333, 3) := by decide +kernel
theorem dd201_291 : decode cX13_worded 291 = .ok (.iastore, 1) := by decide +kernel
theorem dd201_292 : decode cX13_worded 292 = .ok (.goto 141, 3) := by decide +kernel
theorem dd201_295 : decode cX13_worded 295 = .ok (.aload_n 3, 1) := by decide +kernel
theorem dd201_296 : decode cX13_worded 296 = .ok (.getfield 441, 3) := by decide +kernel
theorem dd201_299 : decode cX13_worded 299 = .ok (.iload_n 1, 1) := by decide +kernel
theorem dd201_300 : decode cX13_worded 300 = .ok (.aload_n 0, 1) := by decide +kernel
theorem dd201_301 : decode cX13_worded 301 = .ok (.invokevirtual 223, 3) := by decide +kernel
theorem dd201_304 : decode cX13_worded 304 = .ok (.ifCond .eq 19, 3) := by decide +kernel
theorem dd201_307 : decode cX13_worded 307 = .ok (.aload_n 0, 1) := by decide +kernel
theorem dd201_308 : decode cX13_worded 308 = .ok (.invokevirtual 246, 3) := by decide +kernel
theorem dd201_311 : decode cX13_worded 311 = .ok (.ifCond .eq 12, 3) := by decide +kernel
theorem dd201_314 : decode cX13_worded 314 = .ok (.aload_n 0, 1) := by decide +kernel
theorem dd201_315 : decode cX13_worded 315 = .ok (.bipush 8, 2) := by decide +kernel
theorem dd201_317 : decode cX13_worded 317 = .ok (.invokevirtual 333, 3) := by decide +kernel
theorem dd201_320 : decode cX13_worded 320 = .ok (.goto 4, 3) := by decide +kernel
theorem dd201_323 : decode cX13_worded 323 = .ok (.iconst (-1), 1) := by decide +kernel
theorem dd201_324 : decode cX13_worded 324 = .ok (.iastore, 1) := by decide +kernel
theorem dd201_325 : decode cX13_worded 325 = .ok (.goto 108, 3) := by decide +kernel
theorem dd201_328 : decode cX13_worded 328 = .ok (.aload_n 3, 1) := by decide +kernel
theorem dd201_329 : decode cX13_worded 329 = .ok (.getfield 441, 3) := by decide +kernel
theorem dd201_332 : decode cX13_worded 332 = .ok (.iload_n 1, 1) := by decide +kernel
theorem dd201_333 : decode cX13_worded 333 = .ok (.aload_n 0, 1) := by decide +kernel
theorem dd201_334 : decode cX13_worded 334 = .ok (.bipush 8, 2) := by decide +kernel
theorem dd201_336 : decode cX13_worded 336 = .ok (.invokevirtual 333, 3) := by decide +kernel
theorem dd201_339 : decode cX13_worded 339 = .ok (.iastore, 1) := by decide +kernel
theorem dd201_340 : decode cX13_worded 340 = .ok (.goto 93, 3) := by decide +kernel
theorem dd201_343 : decode cX13_worded 343 = .ok (.aload_n 3, 1) := by decide +kernel
theorem dd201_344 : decode cX13_worded 344 = .ok (.getfield 441, 3) := by decide +kernel
theorem dd201_347 : decode cX13_worded 347 = .ok (.iload_n 1, 1) := by decide +kernel
theorem dd201_348 : decode cX13_worded 348 = .ok (.aload_n 0, 1) := by decide +kernel
theorem dd201_349 : decode cX13_worded 349 = .ok (.bipush 8, 2) := by decide +kernel
theorem dd201_351 : decode cX13_worded 351 = .ok (.invokevirtual 333, 3) := by decide +kernel
theorem dd201_354 : decode cX13_worded 354 = .ok (.iastore, 1) := by decide +kernel
theorem dd201_355 : decode cX13_worded 355 = .ok (.aload_n 3, 1) := by decide +kernel
theorem dd201_356 : decode cX13_worded 356 = .ok (.getfield 469, 3) := by decide +kernel
theorem dd201_359 : decode cX13_worded 359 = .ok (.iconst 4, 1) := by decide +kernel
theorem dd201_360 : decode cX13_worded 360 = .ok (.iload_n 1, 1) := by decide +kernel
theorem dd201_361 : decode cX13_worded 361 = .ok (.imul, 1) := by decide +kernel
theorem dd201_362 : decode cX13_worded 362 = .ok (.aload_n 0, 1) := by decide +kernel
theorem dd201_363 : decode cX13_worded 363 = .ok (.invokevirtual 472, 3) := by decide +kernel
theorem dd201_366 : decode cX13_worded 366 = .ok (.iastore, 1) := by decide +kernel
theorem dd201_367 : decode cX13_worded 367 = .ok (.goto 66, 3) := by decide +kernel
theorem dd201_370 : decode cX13_worded 370 = .ok (.aload_n 3, 1) := by decide +kernel
theorem dd201_371 : decode cX13_worded 371 = .ok (.getfield 441, 3) := by decide +kernel
theorem dd201_374 : decode cX13_worded 374 = .ok (.iload_n 1, 1) := by decide +kernel
theorem dd201_375 : decode cX13_worded 375 = .ok (.aload_n 0, 1) := by decide +kernel
theorem dd201_376 : decode cX13_worded 376 = .ok (.iconst 5, 1) := by decide +kernel
theorem dd201_377 : decode cX13_worded 377 = .ok (.invokevirtual 333, 3) := by decide +kernel
theorem dd201_380 : decode cX13_worded 380 = .ok (.iastore, 1) := by decide +kernel
theorem dd201_381 : decode cX13_worded 381 = .ok (.aload_n 3, 1) := by decide +kernel
theorem dd201_382 : decode cX13_worded 382 = .ok (.getfield 444, 3) := by decide +kernel
theorem dd201_385 : decode cX13_worded 385 = .ok (.iload_n 1, 1) := by decide +kernel
theorem dd201_386 : decode cX13_worded 386 = .ok (.aload_n 0, 1) := by decide +kernel
theorem dd201_387 : decode cX13_worded 387 = .ok (.iconst 0, 1) := by decide +kernel
theorem dd201_388 : decode cX13_worded 388 = .ok (.invokevirtual 333, 3) := by decide +kernel
theorem dd201_391 : decode cX13_worded 391 = .ok (.iastore, 1) := by decide +kernel
theorem dd201_392 : decode cX13_worded 392 = .ok (.goto 41, 3) := by decide +kernel
theorem dd201_395 : decode cX13_worded 395 = .ok (.aload_n 3, 1) := by decide +kernel
theorem dd201_396 : decode cX13_worded 396 = .ok (.getfield 441, 3) := by decide +kernel
theorem dd201_399 : decode cX13_worded 399 = .ok (.iload_n 1, 1) := by decide +kernel
theorem dd201_400 : decode cX13_worded 400 = .ok (.aload_n 0, 1) := by decide +kernel
theorem dd201_401 : decode cX13_worded 401 = .ok (.bipush 6, 2) := by decide +kernel
theorem dd201_403 : decode cX13_worded 403 = .ok (.invokevirtual 333, 3) := by decide +kernel
theorem dd201_406 : decode cX13_worded 406 = .ok (.iastore, 1) := by decide +kernel
theorem dd201_407 : decode cX13_worded 407 = .ok (.aload_n 3, 1) := by decide +kernel
theorem dd201_408 : decode cX13_worded 408 = .ok (.getfield 469, 3) := by decide +kernel
theorem dd201_411 : decode cX13_worded 411 = .ok (.iconst 4, 1) := by decide +kernel
theorem dd201_412 : decode cX13_worded 412 = .ok (.iload_n 1, 1) := by decide +kernel
theorem dd201_413 : decode cX13_worded 413 = .ok (.imul, 1) := by decide +kernel
theorem dd201_414 : decode cX13_worded 414 = .ok (.aload_n 0, 1) := by decide +kernel
theorem dd201_415 : decode cX13_worded 415 = .ok (.invokevirtual 472, 3) := by decide +kernel
theorem dd201_418 : decode cX13_worded 418 = .ok (.iastore, 1) := by decide +kernel
theorem dd201_419 : decode cX13_worded 419 = .ok (.goto 14, 3) := by decide +kernel
theorem dd201_422 : decode cX13_worded 422 = .ok (.aload_n 3, 1) := by decide +kernel
theorem dd201_423 : decode cX13_worded 423 = .ok (.getfield 441, 3) := by decide +kernel
theorem dd201_426 : decode cX13_worded 426 = .ok (.iload_n 1, 1) := by decide +kernel
theorem dd201_427 : decode cX13_worded 427 = .ok (.aload_n 0, 1) := by decide +kernel
theorem dd201_428 : decode cX13_worded 428 = .ok (.iconst 4, 1) := by decide +kernel
theorem dd201_429 : decode cX13_worded 429 = .ok (.invokevirtual 333, 3) := by decide +kernel
theorem dd201_432 : decode cX13_worded 432 = .ok (.iastore, 1) := by decide +kernel
theorem dd201_433 : decode cX13_worded 433 = .ok (.return_, 1) := by decide +kernel
def f201_422 (n : Nat) (g : zσ → Option (Int32 × zσ)) (x1 : Int32) (x3 : Nat) (s : zσ) : Option zσ :=
    yb1 (f189 n (4 : Int32) s) fun v2 u1 =>
    if zin? x1 200 = true then
    zlet (sI u1 (x3 + 17) (nx x1) v2) fun u3 =>
    some u3
    else none
set_option maxRecDepth 20000 in
theorem f201_422_ok {n d : Nat} {Df : Nat} {g : zσ → Option (Int32 × zσ)} {x1 : Int32} {x3 : Nat} {s : zσ} {s2 : zσ} (hd : Df + 1 ≤ d ∧ 140 ≤ Df) (hg : ∀ (s : zσ) (v : Int32) (s2 : zσ), g s = some (v, s2) → ∀ {d : Nat}, Df ≤ d → ∀ {w : zσ} {fz : Bool} {L : Nat} {xs : Nat → Int32}, zGo (zX fz L xs) d q_181 (0, [(0, .ref 1132)], [], zmk w s, 0, 0) (some (.int v), zmk w s2, 0, 0)) (hx3 : zck 12 x3 = true) (h : f201_422 n g x1 x3 s = some s2) {w : zσ} {fz : Bool} {L : Nat} {xs : Nat → Int32} : zGo (zX fz L xs) d q_201 (422, [(0, .ref 1132), (1, .int x1), (3, .ref x3)], [], zmk w s, 0, 0) (none, zmk w s2, 0, 0) := by
  obtain ⟨d, rfl⟩ : ∃ d0, d = d0 + 1 := ⟨d - 1, by omega⟩
  unfold f201_422 at h
  refine zGo_s (pc' := 423) (st' := [.ref x3]) dd201_422 rfl ?_
  refine mGF (e := (x3 + 17)) dd201_423 rfl (ck12_s hx3).1 (ck12_s hx3).2 rfl (cf12_19 hx3).1 ?_
  refine zGo_s (pc' := 427) (st' := [.int x1, .ref (x3 + 17)]) dd201_426 rfl ?_
  refine zGo_s (pc' := 428) (st' := [.ref 1132, .int x1, .ref (x3 + 17)]) dd201_427 rfl ?_
  refine zGo_s (pc' := 429) (st' := [.int (4 : Int32), .ref 1132, .int x1, .ref (x3 + 17)]) dd201_428 rfl ?_
  obtain ⟨v2, u1, hq, h⟩ := obnd h
  refine zCV1 (As := [.int (4 : Int32)]) (rest := [.int x1, .ref (x3 + 17)]) (b := 1132) (q' := q_189) dd201_429 rfl rfl (rcv_m rfl rfl (by decide)) rfl rfl rfl (f189_ok (d := d) (by omega)  hq) ?_
  obtain ⟨hi, h⟩ := ochk h
  obtain ⟨u3, e_u3, h⟩ := olet h
  refine mIS dd201_432 (cf12_19 hx3).2.1 (cf12_19 hx3).2.2 hi e_u3 ?_
  obtain rfl := ore0 h
  exact zGo_ret dd201_433 rfl rfl
def f201_328 (n : Nat) (g : zσ → Option (Int32 × zσ)) (x1 : Int32) (x3 : Nat) (s : zσ) : Option zσ :=
    yb1 (f189 n (8 : Int32) s) fun v2 u1 =>
    if zin? x1 200 = true then
    zlet (sI u1 (x3 + 17) (nx x1) v2) fun u3 =>
    some u3
    else none
set_option maxRecDepth 20000 in
theorem f201_328_ok {n d : Nat} {Df : Nat} {g : zσ → Option (Int32 × zσ)} {x1 : Int32} {x3 : Nat} {s : zσ} {s2 : zσ} (hd : Df + 1 ≤ d ∧ 140 ≤ Df) (hg : ∀ (s : zσ) (v : Int32) (s2 : zσ), g s = some (v, s2) → ∀ {d : Nat}, Df ≤ d → ∀ {w : zσ} {fz : Bool} {L : Nat} {xs : Nat → Int32}, zGo (zX fz L xs) d q_181 (0, [(0, .ref 1132)], [], zmk w s, 0, 0) (some (.int v), zmk w s2, 0, 0)) (hx3 : zck 12 x3 = true) (h : f201_328 n g x1 x3 s = some s2) {w : zσ} {fz : Bool} {L : Nat} {xs : Nat → Int32} : zGo (zX fz L xs) d q_201 (328, [(0, .ref 1132), (1, .int x1), (3, .ref x3)], [], zmk w s, 0, 0) (none, zmk w s2, 0, 0) := by
  obtain ⟨d, rfl⟩ : ∃ d0, d = d0 + 1 := ⟨d - 1, by omega⟩
  unfold f201_328 at h
  refine zGo_s (pc' := 329) (st' := [.ref x3]) dd201_328 rfl ?_
  refine mGF (e := (x3 + 17)) dd201_329 rfl (ck12_s hx3).1 (ck12_s hx3).2 rfl (cf12_19 hx3).1 ?_
  refine zGo_s (pc' := 333) (st' := [.int x1, .ref (x3 + 17)]) dd201_332 rfl ?_
  refine zGo_s (pc' := 334) (st' := [.ref 1132, .int x1, .ref (x3 + 17)]) dd201_333 rfl ?_
  refine zGo_s (pc' := 336) (st' := [.int (8 : Int32), .ref 1132, .int x1, .ref (x3 + 17)]) dd201_334 rfl ?_
  obtain ⟨v2, u1, hq, h⟩ := obnd h
  refine zCV1 (As := [.int (8 : Int32)]) (rest := [.int x1, .ref (x3 + 17)]) (b := 1132) (q' := q_189) dd201_336 rfl rfl (rcv_m rfl rfl (by decide)) rfl rfl rfl (f189_ok (d := d) (by omega)  hq) ?_
  obtain ⟨hi, h⟩ := ochk h
  obtain ⟨u3, e_u3, h⟩ := olet h
  refine mIS dd201_339 (cf12_19 hx3).2.1 (cf12_19 hx3).2.2 hi e_u3 ?_
  refine zGo_s (pc' := 433) (st' := []) dd201_340 rfl ?_
  obtain rfl := ore0 h
  exact zGo_ret dd201_433 rfl rfl
def f201_324 (n : Nat) (g : zσ → Option (Int32 × zσ)) (y0 : Int32) (y1 : Int32) (y2 : Nat) (s : zσ) : Option zσ :=
    if zin? y1 200 = true then
    zlet (sI s y2 (nx y1) y0) fun u1 =>
    some u1
    else none
set_option maxRecDepth 20000 in
theorem f201_324_ok {n d : Nat} {Df : Nat} {g : zσ → Option (Int32 × zσ)} {y0 : Int32} {y1 : Int32} {y2 : Nat} {s : zσ} {s2 : zσ} (hd : Df + 1 ≤ d ∧ 140 ≤ Df) (hg : ∀ (s : zσ) (v : Int32) (s2 : zσ), g s = some (v, s2) → ∀ {d : Nat}, Df ≤ d → ∀ {w : zσ} {fz : Bool} {L : Nat} {xs : Nat → Int32}, zGo (zX fz L xs) d q_181 (0, [(0, .ref 1132)], [], zmk w s, 0, 0) (some (.int v), zmk w s2, 0, 0)) (hy2c : zms y2 = true) (hy2s : zsh y2 = (1, 0, 200)) (h : f201_324 n g y0 y1 y2 s = some s2) {w : zσ} {fz : Bool} {L : Nat} {xs : Nat → Int32} : zGo (zX fz L xs) d q_201 (324, [], [.int y0, .int y1, .ref y2], zmk w s, 0, 0) (none, zmk w s2, 0, 0) := by
  obtain ⟨d, rfl⟩ : ∃ d0, d = d0 + 1 := ⟨d - 1, by omega⟩
  unfold f201_324 at h
  obtain ⟨hi, h⟩ := ochk h
  obtain ⟨u1, e_u1, h⟩ := olet h
  refine mIS dd201_324 hy2c hy2s hi e_u1 ?_
  refine zGo_s (pc' := 433) (st' := []) dd201_325 rfl ?_
  obtain rfl := ore0 h
  exact zGo_ret dd201_433 rfl rfl
def f201_323 (n : Nat) (g : zσ → Option (Int32 × zσ)) (y0 : Int32) (y1 : Nat) (s : zσ) : Option zσ :=
    f201_324 n g (-1 : Int32) y0 y1 s
set_option maxRecDepth 20000 in
theorem f201_323_ok {n d : Nat} {Df : Nat} {g : zσ → Option (Int32 × zσ)} {y0 : Int32} {y1 : Nat} {s : zσ} {s2 : zσ} (hd : Df + 1 ≤ d ∧ 140 ≤ Df) (hg : ∀ (s : zσ) (v : Int32) (s2 : zσ), g s = some (v, s2) → ∀ {d : Nat}, Df ≤ d → ∀ {w : zσ} {fz : Bool} {L : Nat} {xs : Nat → Int32}, zGo (zX fz L xs) d q_181 (0, [(0, .ref 1132)], [], zmk w s, 0, 0) (some (.int v), zmk w s2, 0, 0)) (hy1c : zms y1 = true) (hy1s : zsh y1 = (1, 0, 200)) (h : f201_323 n g y0 y1 s = some s2) {w : zσ} {fz : Bool} {L : Nat} {xs : Nat → Int32} : zGo (zX fz L xs) d q_201 (323, [], [.int y0, .ref y1], zmk w s, 0, 0) (none, zmk w s2, 0, 0) := by
  obtain ⟨d, rfl⟩ : ∃ d0, d = d0 + 1 := ⟨d - 1, by omega⟩
  unfold f201_323 at h
  refine zGo_s (pc' := 324) (st' := [.int (-1 : Int32), .int y0, .ref y1]) dd201_323 rfl ?_
  exact f201_324_ok hd hg hy1c hy1s h
def f201_281 (n : Nat) (g : zσ → Option (Int32 × zσ)) (x1 : Int32) (x3 : Nat) (s : zσ) : Option zσ :=
    yb1 (f189 n (3 : Int32) s) fun v2 u1 =>
    if zin? x1 200 = true then
    zlet (sI u1 (x3 + 17) (nx x1) v2) fun u3 =>
    some u3
    else none
set_option maxRecDepth 20000 in
theorem f201_281_ok {n d : Nat} {Df : Nat} {g : zσ → Option (Int32 × zσ)} {x1 : Int32} {x3 : Nat} {s : zσ} {s2 : zσ} (hd : Df + 1 ≤ d ∧ 140 ≤ Df) (hg : ∀ (s : zσ) (v : Int32) (s2 : zσ), g s = some (v, s2) → ∀ {d : Nat}, Df ≤ d → ∀ {w : zσ} {fz : Bool} {L : Nat} {xs : Nat → Int32}, zGo (zX fz L xs) d q_181 (0, [(0, .ref 1132)], [], zmk w s, 0, 0) (some (.int v), zmk w s2, 0, 0)) (hx3 : zck 12 x3 = true) (h : f201_281 n g x1 x3 s = some s2) {w : zσ} {fz : Bool} {L : Nat} {xs : Nat → Int32} : zGo (zX fz L xs) d q_201 (281, [(0, .ref 1132), (1, .int x1), (3, .ref x3)], [], zmk w s, 0, 0) (none, zmk w s2, 0, 0) := by
  obtain ⟨d, rfl⟩ : ∃ d0, d = d0 + 1 := ⟨d - 1, by omega⟩
  unfold f201_281 at h
  refine zGo_s (pc' := 282) (st' := [.ref x3]) dd201_281 rfl ?_
  refine mGF (e := (x3 + 17)) dd201_282 rfl (ck12_s hx3).1 (ck12_s hx3).2 rfl (cf12_19 hx3).1 ?_
  refine zGo_s (pc' := 286) (st' := [.int x1, .ref (x3 + 17)]) dd201_285 rfl ?_
  refine zGo_s (pc' := 287) (st' := [.ref 1132, .int x1, .ref (x3 + 17)]) dd201_286 rfl ?_
  refine zGo_s (pc' := 288) (st' := [.int (3 : Int32), .ref 1132, .int x1, .ref (x3 + 17)]) dd201_287 rfl ?_
  obtain ⟨v2, u1, hq, h⟩ := obnd h
  refine zCV1 (As := [.int (3 : Int32)]) (rest := [.int x1, .ref (x3 + 17)]) (b := 1132) (q' := q_189) dd201_288 rfl rfl (rcv_m rfl rfl (by decide)) rfl rfl rfl (f189_ok (d := d) (by omega)  hq) ?_
  obtain ⟨hi, h⟩ := ochk h
  obtain ⟨u3, e_u3, h⟩ := olet h
  refine mIS dd201_291 (cf12_19 hx3).2.1 (cf12_19 hx3).2.2 hi e_u3 ?_
  refine zGo_s (pc' := 433) (st' := []) dd201_292 rfl ?_
  obtain rfl := ore0 h
  exact zGo_ret dd201_433 rfl rfl
def f201_273 (n : Nat) (g : zσ → Option (Int32 × zσ)) (x1 : Int32) (s : zσ) : Option zσ :=
    yb0 (f202 n x1 s) fun u1 =>
    some u1
set_option maxRecDepth 20000 in
theorem f201_273_ok {n d : Nat} {Df : Nat} {g : zσ → Option (Int32 × zσ)} {x1 : Int32} {s : zσ} {s2 : zσ} (hd : Df + 1 ≤ d ∧ 140 ≤ Df) (hg : ∀ (s : zσ) (v : Int32) (s2 : zσ), g s = some (v, s2) → ∀ {d : Nat}, Df ≤ d → ∀ {w : zσ} {fz : Bool} {L : Nat} {xs : Nat → Int32}, zGo (zX fz L xs) d q_181 (0, [(0, .ref 1132)], [], zmk w s, 0, 0) (some (.int v), zmk w s2, 0, 0)) (h : f201_273 n g x1 s = some s2) {w : zσ} {fz : Bool} {L : Nat} {xs : Nat → Int32} : zGo (zX fz L xs) d q_201 (273, [(0, .ref 1132), (1, .int x1)], [], zmk w s, 0, 0) (none, zmk w s2, 0, 0) := by
  obtain ⟨d, rfl⟩ : ∃ d0, d = d0 + 1 := ⟨d - 1, by omega⟩
  unfold f201_273 at h
  refine zGo_s (pc' := 274) (st' := [.ref 1132]) dd201_273 rfl ?_
  refine zGo_s (pc' := 275) (st' := [.int x1, .ref 1132]) dd201_274 rfl ?_
  obtain ⟨u1, hq, h⟩ := obn0 h
  refine zCV0 (As := [.int x1]) (rest := []) (b := 1132) (q' := q_202) dd201_275 rfl rfl (rcv_m rfl rfl (by decide)) rfl rfl rfl (f202_ok (d := d) (by omega)  hq) ?_
  refine zGo_s (pc' := 433) (st' := []) dd201_278 rfl ?_
  obtain rfl := ore0 h
  exact zGo_ret dd201_433 rfl rfl
def f201_147 (n : Nat) (g : zσ → Option (Int32 × zσ)) (x1 : Int32) (x2 : Int32) (x3 : Nat) (s : zσ) : Option zσ :=
    yb1 (f190 n s) fun v2 u1 =>
    if zin? ((4 : Int32) * x1) 800 = true then
    zlet (sI u1 (x3 + 22) (nx ((4 : Int32) * x1)) v2) fun u3 =>
    yb1 (g u3) fun v5 u4 =>
    if zin? x1 200 = true then
    zlet (sI u4 (x3 + 23) (nx x1) v5) fun u6 =>
    yb1 (f167 n u6) fun v8 u7 =>
    if v8 = (0 : Int32) then
    some u7
    else if x2 = (5 : Int32) then
    yb1 (f170 n 49 u7) fun v10 u9 =>
    if v10 = (0 : Int32) then
    some u9
    else yb0 (f164 n u9) fun u11 =>
    yb1 (g u11) fun v13 u12 =>
    if zin? x1 200 = true then
    zlet (sI u12 (x3 + 24) (nx x1) v13) fun u14 =>
    some u14
    else none
    else some u7
    else none
    else none
set_option maxRecDepth 20000 in
theorem f201_147_ok {n d : Nat} {Df : Nat} {g : zσ → Option (Int32 × zσ)} {x1 : Int32} {x2 : Int32} {x3 : Nat} {s : zσ} {s2 : zσ} (hd : Df + 1 ≤ d ∧ 140 ≤ Df) (hg : ∀ (s : zσ) (v : Int32) (s2 : zσ), g s = some (v, s2) → ∀ {d : Nat}, Df ≤ d → ∀ {w : zσ} {fz : Bool} {L : Nat} {xs : Nat → Int32}, zGo (zX fz L xs) d q_181 (0, [(0, .ref 1132)], [], zmk w s, 0, 0) (some (.int v), zmk w s2, 0, 0)) (hx3 : zck 12 x3 = true) (h : f201_147 n g x1 x2 x3 s = some s2) {w : zσ} {fz : Bool} {L : Nat} {xs : Nat → Int32} : zGo (zX fz L xs) d q_201 (147, [(0, .ref 1132), (1, .int x1), (2, .int x2), (3, .ref x3)], [], zmk w s, 0, 0) (none, zmk w s2, 0, 0) := by
  obtain ⟨d, rfl⟩ : ∃ d0, d = d0 + 1 := ⟨d - 1, by omega⟩
  unfold f201_147 at h
  refine zGo_s (pc' := 148) (st' := [.ref x3]) dd201_147 rfl ?_
  refine mGF (e := (x3 + 22)) dd201_148 rfl (ck12_s hx3).1 (ck12_s hx3).2 rfl (cf12_24 hx3).1 ?_
  refine zGo_s (pc' := 152) (st' := [.int (4 : Int32), .ref (x3 + 22)]) dd201_151 rfl ?_
  refine zGo_s (pc' := 153) (st' := [.int x1, .int (4 : Int32), .ref (x3 + 22)]) dd201_152 rfl ?_
  refine zGo_s (pc' := 154) (st' := [.int ((4 : Int32) * x1), .ref (x3 + 22)]) dd201_153 rfl ?_
  refine zGo_s (pc' := 155) (st' := [.ref 1132, .int ((4 : Int32) * x1), .ref (x3 + 22)]) dd201_154 rfl ?_
  obtain ⟨v2, u1, hq, h⟩ := obnd h
  refine zCV1 (As := []) (rest := [.int ((4 : Int32) * x1), .ref (x3 + 22)]) (b := 1132) (q' := q_190) dd201_155 rfl rfl (rcv_m rfl rfl (by decide)) rfl rfl rfl (f190_ok (d := d) (by omega)  hq) ?_
  obtain ⟨hi, h⟩ := ochk h
  obtain ⟨u3, e_u3, h⟩ := olet h
  refine mIS dd201_158 (cf12_24 hx3).2.1 (cf12_24 hx3).2.2 hi e_u3 ?_
  refine zGo_s (pc' := 160) (st' := [.ref x3]) dd201_159 rfl ?_
  refine mGF (e := (x3 + 23)) dd201_160 rfl (ck12_s hx3).1 (ck12_s hx3).2 rfl (cf12_25 hx3).1 ?_
  refine zGo_s (pc' := 164) (st' := [.int x1, .ref (x3 + 23)]) dd201_163 rfl ?_
  refine zGo_s (pc' := 165) (st' := [.ref 1132, .int x1, .ref (x3 + 23)]) dd201_164 rfl ?_
  obtain ⟨v5, u4, hq, h⟩ := obnd h
  refine zCV1 (As := []) (rest := [.int x1, .ref (x3 + 23)]) (b := 1132) (q' := q_181) dd201_165 rfl rfl (rcv_m rfl rfl (by decide)) rfl rfl rfl (hg _ _ _  hq (by omega)) ?_
  obtain ⟨hi, h⟩ := ochk h
  obtain ⟨u6, e_u6, h⟩ := olet h
  refine mIS dd201_168 (cf12_25 hx3).2.1 (cf12_25 hx3).2.2 hi e_u6 ?_
  refine zGo_s (pc' := 170) (st' := [.ref 1132]) dd201_169 rfl ?_
  obtain ⟨v8, u7, hq, h⟩ := obnd h
  refine zCV1 (As := []) (rest := []) (b := 1132) (q' := q_167) dd201_170 rfl rfl (rcv_m rfl rfl (by decide)) rfl rfl rfl (f167_ok (d := d) (by omega)  hq) ?_
  rcases oite h with ⟨hc, h⟩ | ⟨hc, h⟩
  · refine zUT dd201_173 rfl (kEqT hc) ?_
    obtain rfl := ore0 h
    exact zGo_ret dd201_433 rfl rfl
  · refine zUF dd201_173 (kEqF hc) ?_
    refine zGo_s (pc' := 177) (st' := [.int x2]) dd201_176 rfl ?_
    refine zGo_s (pc' := 178) (st' := [.int (5 : Int32), .int x2]) dd201_177 rfl ?_
    rcases oite h with ⟨hc, h⟩ | ⟨hc, h⟩
    · refine zIF dd201_178 (kNeF hc) ?_
      refine zGo_s (pc' := 182) (st' := [.ref 1132]) dd201_181 rfl ?_
      refine zGo_s (pc' := 185) (st' := [.ref 49, .ref 1132]) dd201_182 rfl ?_
      obtain ⟨v10, u9, hq, h⟩ := obnd h
      refine zCV1 (As := [.ref 49]) (rest := []) (b := 1132) (q' := q_170) dd201_185 rfl rfl (rcv_m rfl rfl (by decide)) rfl rfl rfl (f170_ok (d := d) (by omega) (by decide) hq) ?_
      rcases oite h with ⟨hc, h⟩ | ⟨hc, h⟩
      · refine zUT dd201_188 rfl (kEqT hc) ?_
        obtain rfl := ore0 h
        exact zGo_ret dd201_433 rfl rfl
      · refine zUF dd201_188 (kEqF hc) ?_
        refine zGo_s (pc' := 192) (st' := [.ref 1132]) dd201_191 rfl ?_
        obtain ⟨u11, hq, h⟩ := obn0 h
        refine zCV0 (As := []) (rest := []) (b := 1132) (q' := q_164) dd201_192 rfl rfl (rcv_m rfl rfl (by decide)) rfl rfl rfl (f164_ok (d := d) (by omega)  hq) ?_
        refine zGo_s (pc' := 196) (st' := [.ref x3]) dd201_195 rfl ?_
        refine mGF (e := (x3 + 24)) dd201_196 rfl (ck12_s hx3).1 (ck12_s hx3).2 rfl (cf12_26 hx3).1 ?_
        refine zGo_s (pc' := 200) (st' := [.int x1, .ref (x3 + 24)]) dd201_199 rfl ?_
        refine zGo_s (pc' := 201) (st' := [.ref 1132, .int x1, .ref (x3 + 24)]) dd201_200 rfl ?_
        obtain ⟨v13, u12, hq, h⟩ := obnd h
        refine zCV1 (As := []) (rest := [.int x1, .ref (x3 + 24)]) (b := 1132) (q' := q_181) dd201_201 rfl rfl (rcv_m rfl rfl (by decide)) rfl rfl rfl (hg _ _ _  hq (by omega)) ?_
        obtain ⟨hi, h⟩ := ochk h
        obtain ⟨u14, e_u14, h⟩ := olet h
        refine mIS dd201_204 (cf12_26 hx3).2.1 (cf12_26 hx3).2.2 hi e_u14 ?_
        refine zGo_s (pc' := 433) (st' := []) dd201_205 rfl ?_
        obtain rfl := ore0 h
        exact zGo_ret dd201_433 rfl rfl
    · refine zIT dd201_178 rfl (kNeT hc) ?_
      obtain rfl := ore0 h
      exact zGo_ret dd201_433 rfl rfl
def f201_132 (n : Nat) (g : zσ → Option (Int32 × zσ)) (x1 : Int32) (x3 : Nat) (s : zσ) : Option zσ :=
    yb1 (f190 n s) fun v2 u1 =>
    if zin? ((4 : Int32) * x1) 800 = true then
    zlet (sI u1 (x3 + 22) (nx ((4 : Int32) * x1)) v2) fun u3 =>
    some u3
    else none
set_option maxRecDepth 20000 in
theorem f201_132_ok {n d : Nat} {Df : Nat} {g : zσ → Option (Int32 × zσ)} {x1 : Int32} {x3 : Nat} {s : zσ} {s2 : zσ} (hd : Df + 1 ≤ d ∧ 140 ≤ Df) (hg : ∀ (s : zσ) (v : Int32) (s2 : zσ), g s = some (v, s2) → ∀ {d : Nat}, Df ≤ d → ∀ {w : zσ} {fz : Bool} {L : Nat} {xs : Nat → Int32}, zGo (zX fz L xs) d q_181 (0, [(0, .ref 1132)], [], zmk w s, 0, 0) (some (.int v), zmk w s2, 0, 0)) (hx3 : zck 12 x3 = true) (h : f201_132 n g x1 x3 s = some s2) {w : zσ} {fz : Bool} {L : Nat} {xs : Nat → Int32} : zGo (zX fz L xs) d q_201 (132, [(0, .ref 1132), (1, .int x1), (3, .ref x3)], [], zmk w s, 0, 0) (none, zmk w s2, 0, 0) := by
  obtain ⟨d, rfl⟩ : ∃ d0, d = d0 + 1 := ⟨d - 1, by omega⟩
  unfold f201_132 at h
  refine zGo_s (pc' := 133) (st' := [.ref x3]) dd201_132 rfl ?_
  refine mGF (e := (x3 + 22)) dd201_133 rfl (ck12_s hx3).1 (ck12_s hx3).2 rfl (cf12_24 hx3).1 ?_
  refine zGo_s (pc' := 137) (st' := [.int (4 : Int32), .ref (x3 + 22)]) dd201_136 rfl ?_
  refine zGo_s (pc' := 138) (st' := [.int x1, .int (4 : Int32), .ref (x3 + 22)]) dd201_137 rfl ?_
  refine zGo_s (pc' := 139) (st' := [.int ((4 : Int32) * x1), .ref (x3 + 22)]) dd201_138 rfl ?_
  refine zGo_s (pc' := 140) (st' := [.ref 1132, .int ((4 : Int32) * x1), .ref (x3 + 22)]) dd201_139 rfl ?_
  obtain ⟨v2, u1, hq, h⟩ := obnd h
  refine zCV1 (As := []) (rest := [.int ((4 : Int32) * x1), .ref (x3 + 22)]) (b := 1132) (q' := q_190) dd201_140 rfl rfl (rcv_m rfl rfl (by decide)) rfl rfl rfl (f190_ok (d := d) (by omega)  hq) ?_
  obtain ⟨hi, h⟩ := ochk h
  obtain ⟨u3, e_u3, h⟩ := olet h
  refine mIS dd201_143 (cf12_24 hx3).2.1 (cf12_24 hx3).2.2 hi e_u3 ?_
  refine zGo_s (pc' := 433) (st' := []) dd201_144 rfl ?_
  obtain rfl := ore0 h
  exact zGo_ret dd201_433 rfl rfl
def f201 (n : Nat) (g : zσ → Option (Int32 × zσ)) (x1 : Int32) (x2 : Int32) (s : zσ) : Option zσ :=
    zrd 12 (s.2.2 1132 12) fun a1 =>
    if x2 = (3 : Int32) then
    yb0 (f199 n x1 s) fun u2 =>
    some u2
    else if x2 = (4 : Int32) then
    f201_132 n g x1 a1 s
    else if x2 = (5 : Int32) then
    f201_147 n g x1 x2 a1 s
    else if x2 = (6 : Int32) then
    f201_147 n g x1 x2 a1 s
    else if x2 = (7 : Int32) then
    yb1 (f189 n (1 : Int32) s) fun v4 u3 =>
    if zin? x1 200 = true then
    zlet (sI u3 (a1 + 17) (nx x1) v4) fun u5 =>
    yb1 (f190 n u5) fun v7 u6 =>
    if zin? ((4 : Int32) * x1) 800 = true then
    zlet (sI u6 (a1 + 22) (nx ((4 : Int32) * x1)) v7) fun u8 =>
    some u8
    else none
    else none
    else if x2 = (8 : Int32) then
    yb1 (f189 n (1 : Int32) s) fun v10 u9 =>
    if zin? x1 200 = true then
    zlet (sI u9 (a1 + 17) (nx x1) v10) fun u11 =>
    yb1 (f189 n (1 : Int32) u11) fun v13 u12 =>
    if zin? x1 200 = true then
    zlet (sI u12 (a1 + 18) (nx x1) v13) fun u14 =>
    some u14
    else none
    else none
    else if x2 = (9 : Int32) then
    yb1 (f189 n (1 : Int32) s) fun v16 u15 =>
    if zin? x1 200 = true then
    zlet (sI u15 (a1 + 17) (nx x1) v16) fun u17 =>
    some u17
    else none
    else if x2 = (10 : Int32) then
    f201_273 n g x1 s
    else if x2 = (11 : Int32) then
    f201_273 n g x1 s
    else if x2 = (12 : Int32) then
    f201_281 n g x1 a1 s
    else if x2 = (13 : Int32) then
    f201_281 n g x1 a1 s
    else if x2 = (14 : Int32) then
    f201_281 n g x1 a1 s
    else if x2 = (15 : Int32) then
    f201_281 n g x1 a1 s
    else if x2 = (16 : Int32) then
    f201_328 n g x1 a1 s
    else if x2 = (17 : Int32) then
    f201_328 n g x1 a1 s
    else if x2 = (18 : Int32) then
    yb1 (f167 n s) fun v19 u18 =>
    if v19 = (0 : Int32) then
    f201_323 n g x1 (a1 + 17) u18
    else yb1 (f175 n u18) fun v21 u20 =>
    if v21 = (0 : Int32) then
    f201_323 n g x1 (a1 + 17) u20
    else yb1 (f189 n (8 : Int32) u20) fun v23 u22 =>
    f201_324 n g v23 x1 (a1 + 17) u22
    else if x2 = (19 : Int32) then
    f201_328 n g x1 a1 s
    else if x2 = (20 : Int32) then
    yb1 (f189 n (8 : Int32) s) fun v25 u24 =>
    if zin? x1 200 = true then
    zlet (sI u24 (a1 + 17) (nx x1) v25) fun u26 =>
    yb1 (f190 n u26) fun v28 u27 =>
    if zin? ((4 : Int32) * x1) 800 = true then
    zlet (sI u27 (a1 + 22) (nx ((4 : Int32) * x1)) v28) fun u29 =>
    some u29
    else none
    else none
    else if x2 = (21 : Int32) then
    f201_328 n g x1 a1 s
    else if x2 = (22 : Int32) then
    f201_132 n g x1 a1 s
    else if x2 = (23 : Int32) then
    yb1 (f189 n (5 : Int32) s) fun v31 u30 =>
    if zin? x1 200 = true then
    zlet (sI u30 (a1 + 17) (nx x1) v31) fun u32 =>
    yb1 (f189 n (0 : Int32) u32) fun v34 u33 =>
    if zin? x1 200 = true then
    zlet (sI u33 (a1 + 18) (nx x1) v34) fun u35 =>
    some u35
    else none
    else none
    else if x2 = (24 : Int32) then
    yb1 (f189 n (6 : Int32) s) fun v37 u36 =>
    if zin? x1 200 = true then
    zlet (sI u36 (a1 + 17) (nx x1) v37) fun u38 =>
    yb1 (f190 n u38) fun v40 u39 =>
    if zin? ((4 : Int32) * x1) 800 = true then
    zlet (sI u39 (a1 + 22) (nx ((4 : Int32) * x1)) v40) fun u41 =>
    some u41
    else none
    else none
    else if x2 = (28 : Int32) then
    f201_132 n g x1 a1 s
    else f201_422 n g x1 a1 s
set_option maxRecDepth 20000 in
theorem f201_ok {n d : Nat} {Df : Nat} {g : zσ → Option (Int32 × zσ)} {x1 : Int32} {x2 : Int32} {s : zσ} {s2 : zσ} (hd : Df + 1 ≤ d ∧ 140 ≤ Df) (hg : ∀ (s : zσ) (v : Int32) (s2 : zσ), g s = some (v, s2) → ∀ {d : Nat}, Df ≤ d → ∀ {w : zσ} {fz : Bool} {L : Nat} {xs : Nat → Int32}, zGo (zX fz L xs) d q_181 (0, [(0, .ref 1132)], [], zmk w s, 0, 0) (some (.int v), zmk w s2, 0, 0)) (h : f201 n g x1 x2 s = some s2) {w : zσ} {fz : Bool} {L : Nat} {xs : Nat → Int32} : zGo (zX fz L xs) d q_201 (0, [(0, .ref 1132), (1, .int x1), (2, .int x2)], [], zmk w s, 0, 0) (none, zmk w s2, 0, 0) := by
  obtain ⟨d, rfl⟩ : ∃ d0, d = d0 + 1 := ⟨d - 1, by omega⟩
  unfold f201 at h
  refine zGo_s (pc' := 1) (st' := [.ref 1132]) dd201_0 rfl ?_
  obtain ⟨a1, e_a1, c_a1, h⟩ := ordd h
  refine mGR dd201_1 rfl rfl rfl rfl e_a1 ?_
  refine zGo_s (pc' := 5) (st' := []) (lv' := [(3, .ref a1), (0, .ref 1132), (1, .int x1), (2, .int x2)]) dd201_4 rfl ?_
  refine zGo_s (pc' := 6) (st' := [.int x2]) dd201_5 rfl ?_
  rcases oite h with ⟨hc, h⟩ | ⟨hn0, h⟩
  · refine zGo_sw dd201_6 (o := 118) (by rw [hc]; decide +kernel) rfl ?_
    refine zGo_s (pc' := 125) (st' := [.ref 1132]) dd201_124 rfl ?_
    refine zGo_s (pc' := 126) (st' := [.int x1, .ref 1132]) dd201_125 rfl ?_
    obtain ⟨u2, hq, h⟩ := obn0 h
    refine zCV0 (As := [.int x1]) (rest := []) (b := 1132) (q' := q_199) dd201_126 rfl rfl (rcv_m rfl rfl (by decide)) rfl rfl rfl (f199_ok (d := d) (by omega)  hq) ?_
    refine zGo_s (pc' := 433) (st' := []) dd201_129 rfl ?_
    obtain rfl := ore0 h
    exact zGo_ret dd201_433 rfl rfl
  rcases oite h with ⟨hc, h⟩ | ⟨hn1, h⟩
  · refine zGo_sw dd201_6 (o := 126) (by rw [hc]; decide +kernel) rfl ?_
    exact zGo_lv (lv := [(0, .ref 1132), (1, .int x1), (3, .ref a1)]) ⟨by simp, by simp, by simp⟩ (f201_132_ok hd hg c_a1 h)
  rcases oite h with ⟨hc, h⟩ | ⟨hn2, h⟩
  · refine zGo_sw dd201_6 (o := 141) (by rw [hc]; decide +kernel) rfl ?_
    exact zGo_lv (lv := [(0, .ref 1132), (1, .int x1), (2, .int x2), (3, .ref a1)]) ⟨by simp, by simp, by simp⟩ (f201_147_ok hd hg c_a1 h)
  rcases oite h with ⟨hc, h⟩ | ⟨hn3, h⟩
  · refine zGo_sw dd201_6 (o := 141) (by rw [hc]; decide +kernel) rfl ?_
    exact zGo_lv (lv := [(0, .ref 1132), (1, .int x1), (2, .int x2), (3, .ref a1)]) ⟨by simp, by simp, by simp⟩ (f201_147_ok hd hg c_a1 h)
  rcases oite h with ⟨hc, h⟩ | ⟨hn4, h⟩
  · refine zGo_sw dd201_6 (o := 202) (by rw [hc]; decide +kernel) rfl ?_
    refine zGo_s (pc' := 209) (st' := [.ref a1]) dd201_208 rfl ?_
    refine mGF (e := (a1 + 17)) dd201_209 rfl (ck12_s c_a1).1 (ck12_s c_a1).2 rfl (cf12_19 c_a1).1 ?_
    refine zGo_s (pc' := 213) (st' := [.int x1, .ref (a1 + 17)]) dd201_212 rfl ?_
    refine zGo_s (pc' := 214) (st' := [.ref 1132, .int x1, .ref (a1 + 17)]) dd201_213 rfl ?_
    refine zGo_s (pc' := 215) (st' := [.int (1 : Int32), .ref 1132, .int x1, .ref (a1 + 17)]) dd201_214 rfl ?_
    obtain ⟨v4, u3, hq, h⟩ := obnd h
    refine zCV1 (As := [.int (1 : Int32)]) (rest := [.int x1, .ref (a1 + 17)]) (b := 1132) (q' := q_189) dd201_215 rfl rfl (rcv_m rfl rfl (by decide)) rfl rfl rfl (f189_ok (d := d) (by omega)  hq) ?_
    obtain ⟨hi, h⟩ := ochk h
    obtain ⟨u5, e_u5, h⟩ := olet h
    refine mIS dd201_218 (cf12_19 c_a1).2.1 (cf12_19 c_a1).2.2 hi e_u5 ?_
    refine zGo_s (pc' := 220) (st' := [.ref a1]) dd201_219 rfl ?_
    refine mGF (e := (a1 + 22)) dd201_220 rfl (ck12_s c_a1).1 (ck12_s c_a1).2 rfl (cf12_24 c_a1).1 ?_
    refine zGo_s (pc' := 224) (st' := [.int (4 : Int32), .ref (a1 + 22)]) dd201_223 rfl ?_
    refine zGo_s (pc' := 225) (st' := [.int x1, .int (4 : Int32), .ref (a1 + 22)]) dd201_224 rfl ?_
    refine zGo_s (pc' := 226) (st' := [.int ((4 : Int32) * x1), .ref (a1 + 22)]) dd201_225 rfl ?_
    refine zGo_s (pc' := 227) (st' := [.ref 1132, .int ((4 : Int32) * x1), .ref (a1 + 22)]) dd201_226 rfl ?_
    obtain ⟨v7, u6, hq, h⟩ := obnd h
    refine zCV1 (As := []) (rest := [.int ((4 : Int32) * x1), .ref (a1 + 22)]) (b := 1132) (q' := q_190) dd201_227 rfl rfl (rcv_m rfl rfl (by decide)) rfl rfl rfl (f190_ok (d := d) (by omega)  hq) ?_
    obtain ⟨hi, h⟩ := ochk h
    obtain ⟨u8, e_u8, h⟩ := olet h
    refine mIS dd201_230 (cf12_24 c_a1).2.1 (cf12_24 c_a1).2.2 hi e_u8 ?_
    refine zGo_s (pc' := 433) (st' := []) dd201_231 rfl ?_
    obtain rfl := ore0 h
    exact zGo_ret dd201_433 rfl rfl
  rcases oite h with ⟨hc, h⟩ | ⟨hn5, h⟩
  · refine zGo_sw dd201_6 (o := 228) (by rw [hc]; decide +kernel) rfl ?_
    refine zGo_s (pc' := 235) (st' := [.ref a1]) dd201_234 rfl ?_
    refine mGF (e := (a1 + 17)) dd201_235 rfl (ck12_s c_a1).1 (ck12_s c_a1).2 rfl (cf12_19 c_a1).1 ?_
    refine zGo_s (pc' := 239) (st' := [.int x1, .ref (a1 + 17)]) dd201_238 rfl ?_
    refine zGo_s (pc' := 240) (st' := [.ref 1132, .int x1, .ref (a1 + 17)]) dd201_239 rfl ?_
    refine zGo_s (pc' := 241) (st' := [.int (1 : Int32), .ref 1132, .int x1, .ref (a1 + 17)]) dd201_240 rfl ?_
    obtain ⟨v10, u9, hq, h⟩ := obnd h
    refine zCV1 (As := [.int (1 : Int32)]) (rest := [.int x1, .ref (a1 + 17)]) (b := 1132) (q' := q_189) dd201_241 rfl rfl (rcv_m rfl rfl (by decide)) rfl rfl rfl (f189_ok (d := d) (by omega)  hq) ?_
    obtain ⟨hi, h⟩ := ochk h
    obtain ⟨u11, e_u11, h⟩ := olet h
    refine mIS dd201_244 (cf12_19 c_a1).2.1 (cf12_19 c_a1).2.2 hi e_u11 ?_
    refine zGo_s (pc' := 246) (st' := [.ref a1]) dd201_245 rfl ?_
    refine mGF (e := (a1 + 18)) dd201_246 rfl (ck12_s c_a1).1 (ck12_s c_a1).2 rfl (cf12_20 c_a1).1 ?_
    refine zGo_s (pc' := 250) (st' := [.int x1, .ref (a1 + 18)]) dd201_249 rfl ?_
    refine zGo_s (pc' := 251) (st' := [.ref 1132, .int x1, .ref (a1 + 18)]) dd201_250 rfl ?_
    refine zGo_s (pc' := 252) (st' := [.int (1 : Int32), .ref 1132, .int x1, .ref (a1 + 18)]) dd201_251 rfl ?_
    obtain ⟨v13, u12, hq, h⟩ := obnd h
    refine zCV1 (As := [.int (1 : Int32)]) (rest := [.int x1, .ref (a1 + 18)]) (b := 1132) (q' := q_189) dd201_252 rfl rfl (rcv_m rfl rfl (by decide)) rfl rfl rfl (f189_ok (d := d) (by omega)  hq) ?_
    obtain ⟨hi, h⟩ := ochk h
    obtain ⟨u14, e_u14, h⟩ := olet h
    refine mIS dd201_255 (cf12_20 c_a1).2.1 (cf12_20 c_a1).2.2 hi e_u14 ?_
    refine zGo_s (pc' := 433) (st' := []) dd201_256 rfl ?_
    obtain rfl := ore0 h
    exact zGo_ret dd201_433 rfl rfl
  rcases oite h with ⟨hc, h⟩ | ⟨hn6, h⟩
  · refine zGo_sw dd201_6 (o := 253) (by rw [hc]; decide +kernel) rfl ?_
    refine zGo_s (pc' := 260) (st' := [.ref a1]) dd201_259 rfl ?_
    refine mGF (e := (a1 + 17)) dd201_260 rfl (ck12_s c_a1).1 (ck12_s c_a1).2 rfl (cf12_19 c_a1).1 ?_
    refine zGo_s (pc' := 264) (st' := [.int x1, .ref (a1 + 17)]) dd201_263 rfl ?_
    refine zGo_s (pc' := 265) (st' := [.ref 1132, .int x1, .ref (a1 + 17)]) dd201_264 rfl ?_
    refine zGo_s (pc' := 266) (st' := [.int (1 : Int32), .ref 1132, .int x1, .ref (a1 + 17)]) dd201_265 rfl ?_
    obtain ⟨v16, u15, hq, h⟩ := obnd h
    refine zCV1 (As := [.int (1 : Int32)]) (rest := [.int x1, .ref (a1 + 17)]) (b := 1132) (q' := q_189) dd201_266 rfl rfl (rcv_m rfl rfl (by decide)) rfl rfl rfl (f189_ok (d := d) (by omega)  hq) ?_
    obtain ⟨hi, h⟩ := ochk h
    obtain ⟨u17, e_u17, h⟩ := olet h
    refine mIS dd201_269 (cf12_19 c_a1).2.1 (cf12_19 c_a1).2.2 hi e_u17 ?_
    refine zGo_s (pc' := 433) (st' := []) dd201_270 rfl ?_
    obtain rfl := ore0 h
    exact zGo_ret dd201_433 rfl rfl
  rcases oite h with ⟨hc, h⟩ | ⟨hn7, h⟩
  · refine zGo_sw dd201_6 (o := 267) (by rw [hc]; decide +kernel) rfl ?_
    exact zGo_lv (lv := [(0, .ref 1132), (1, .int x1)]) ⟨by simp, by simp, by simp⟩ (f201_273_ok hd hg h)
  rcases oite h with ⟨hc, h⟩ | ⟨hn8, h⟩
  · refine zGo_sw dd201_6 (o := 267) (by rw [hc]; decide +kernel) rfl ?_
    exact zGo_lv (lv := [(0, .ref 1132), (1, .int x1)]) ⟨by simp, by simp, by simp⟩ (f201_273_ok hd hg h)
  rcases oite h with ⟨hc, h⟩ | ⟨hn9, h⟩
  · refine zGo_sw dd201_6 (o := 275) (by rw [hc]; decide +kernel) rfl ?_
    exact zGo_lv (lv := [(0, .ref 1132), (1, .int x1), (3, .ref a1)]) ⟨by simp, by simp, by simp⟩ (f201_281_ok hd hg c_a1 h)
  rcases oite h with ⟨hc, h⟩ | ⟨hn10, h⟩
  · refine zGo_sw dd201_6 (o := 275) (by rw [hc]; decide +kernel) rfl ?_
    exact zGo_lv (lv := [(0, .ref 1132), (1, .int x1), (3, .ref a1)]) ⟨by simp, by simp, by simp⟩ (f201_281_ok hd hg c_a1 h)
  rcases oite h with ⟨hc, h⟩ | ⟨hn11, h⟩
  · refine zGo_sw dd201_6 (o := 275) (by rw [hc]; decide +kernel) rfl ?_
    exact zGo_lv (lv := [(0, .ref 1132), (1, .int x1), (3, .ref a1)]) ⟨by simp, by simp, by simp⟩ (f201_281_ok hd hg c_a1 h)
  rcases oite h with ⟨hc, h⟩ | ⟨hn12, h⟩
  · refine zGo_sw dd201_6 (o := 275) (by rw [hc]; decide +kernel) rfl ?_
    exact zGo_lv (lv := [(0, .ref 1132), (1, .int x1), (3, .ref a1)]) ⟨by simp, by simp, by simp⟩ (f201_281_ok hd hg c_a1 h)
  rcases oite h with ⟨hc, h⟩ | ⟨hn13, h⟩
  · refine zGo_sw dd201_6 (o := 322) (by rw [hc]; decide +kernel) rfl ?_
    exact zGo_lv (lv := [(0, .ref 1132), (1, .int x1), (3, .ref a1)]) ⟨by simp, by simp, by simp⟩ (f201_328_ok hd hg c_a1 h)
  rcases oite h with ⟨hc, h⟩ | ⟨hn14, h⟩
  · refine zGo_sw dd201_6 (o := 322) (by rw [hc]; decide +kernel) rfl ?_
    exact zGo_lv (lv := [(0, .ref 1132), (1, .int x1), (3, .ref a1)]) ⟨by simp, by simp, by simp⟩ (f201_328_ok hd hg c_a1 h)
  rcases oite h with ⟨hc, h⟩ | ⟨hn15, h⟩
  · refine zGo_sw dd201_6 (o := 289) (by rw [hc]; decide +kernel) rfl ?_
    refine zGo_s (pc' := 296) (st' := [.ref a1]) dd201_295 rfl ?_
    refine mGF (e := (a1 + 17)) dd201_296 rfl (ck12_s c_a1).1 (ck12_s c_a1).2 rfl (cf12_19 c_a1).1 ?_
    refine zGo_s (pc' := 300) (st' := [.int x1, .ref (a1 + 17)]) dd201_299 rfl ?_
    refine zGo_s (pc' := 301) (st' := [.ref 1132, .int x1, .ref (a1 + 17)]) dd201_300 rfl ?_
    obtain ⟨v19, u18, hq, h⟩ := obnd h
    refine zCV1 (As := []) (rest := [.int x1, .ref (a1 + 17)]) (b := 1132) (q' := q_167) dd201_301 rfl rfl (rcv_m rfl rfl (by decide)) rfl rfl rfl (f167_ok (d := d) (by omega)  hq) ?_
    rcases oite h with ⟨hc, h⟩ | ⟨hc, h⟩
    · refine zUT dd201_304 rfl (kEqT hc) ?_
      exact zGo_lv (lv := []) ⟨by simp, by simp, by simp⟩ (f201_323_ok hd hg (cf12_19 c_a1).2.1 (cf12_19 c_a1).2.2 h)
    · refine zUF dd201_304 (kEqF hc) ?_
      refine zGo_s (pc' := 308) (st' := [.ref 1132, .int x1, .ref (a1 + 17)]) dd201_307 rfl ?_
      obtain ⟨v21, u20, hq, h⟩ := obnd h
      refine zCV1 (As := []) (rest := [.int x1, .ref (a1 + 17)]) (b := 1132) (q' := q_175) dd201_308 rfl rfl (rcv_m rfl rfl (by decide)) rfl rfl rfl (f175_ok (d := d) (by omega)  hq) ?_
      rcases oite h with ⟨hc, h⟩ | ⟨hc, h⟩
      · refine zUT dd201_311 rfl (kEqT hc) ?_
        exact zGo_lv (lv := []) ⟨by simp, by simp, by simp⟩ (f201_323_ok hd hg (cf12_19 c_a1).2.1 (cf12_19 c_a1).2.2 h)
      · refine zUF dd201_311 (kEqF hc) ?_
        refine zGo_s (pc' := 315) (st' := [.ref 1132, .int x1, .ref (a1 + 17)]) dd201_314 rfl ?_
        refine zGo_s (pc' := 317) (st' := [.int (8 : Int32), .ref 1132, .int x1, .ref (a1 + 17)]) dd201_315 rfl ?_
        obtain ⟨v23, u22, hq, h⟩ := obnd h
        refine zCV1 (As := [.int (8 : Int32)]) (rest := [.int x1, .ref (a1 + 17)]) (b := 1132) (q' := q_189) dd201_317 rfl rfl (rcv_m rfl rfl (by decide)) rfl rfl rfl (f189_ok (d := d) (by omega)  hq) ?_
        refine zGo_s (pc' := 324) (st' := [.int v23, .int x1, .ref (a1 + 17)]) dd201_320 rfl ?_
        exact zGo_lv (lv := []) ⟨by simp, by simp, by simp⟩ (f201_324_ok hd hg (cf12_19 c_a1).2.1 (cf12_19 c_a1).2.2 h)
  rcases oite h with ⟨hc, h⟩ | ⟨hn16, h⟩
  · refine zGo_sw dd201_6 (o := 322) (by rw [hc]; decide +kernel) rfl ?_
    exact zGo_lv (lv := [(0, .ref 1132), (1, .int x1), (3, .ref a1)]) ⟨by simp, by simp, by simp⟩ (f201_328_ok hd hg c_a1 h)
  rcases oite h with ⟨hc, h⟩ | ⟨hn17, h⟩
  · refine zGo_sw dd201_6 (o := 337) (by rw [hc]; decide +kernel) rfl ?_
    refine zGo_s (pc' := 344) (st' := [.ref a1]) dd201_343 rfl ?_
    refine mGF (e := (a1 + 17)) dd201_344 rfl (ck12_s c_a1).1 (ck12_s c_a1).2 rfl (cf12_19 c_a1).1 ?_
    refine zGo_s (pc' := 348) (st' := [.int x1, .ref (a1 + 17)]) dd201_347 rfl ?_
    refine zGo_s (pc' := 349) (st' := [.ref 1132, .int x1, .ref (a1 + 17)]) dd201_348 rfl ?_
    refine zGo_s (pc' := 351) (st' := [.int (8 : Int32), .ref 1132, .int x1, .ref (a1 + 17)]) dd201_349 rfl ?_
    obtain ⟨v25, u24, hq, h⟩ := obnd h
    refine zCV1 (As := [.int (8 : Int32)]) (rest := [.int x1, .ref (a1 + 17)]) (b := 1132) (q' := q_189) dd201_351 rfl rfl (rcv_m rfl rfl (by decide)) rfl rfl rfl (f189_ok (d := d) (by omega)  hq) ?_
    obtain ⟨hi, h⟩ := ochk h
    obtain ⟨u26, e_u26, h⟩ := olet h
    refine mIS dd201_354 (cf12_19 c_a1).2.1 (cf12_19 c_a1).2.2 hi e_u26 ?_
    refine zGo_s (pc' := 356) (st' := [.ref a1]) dd201_355 rfl ?_
    refine mGF (e := (a1 + 22)) dd201_356 rfl (ck12_s c_a1).1 (ck12_s c_a1).2 rfl (cf12_24 c_a1).1 ?_
    refine zGo_s (pc' := 360) (st' := [.int (4 : Int32), .ref (a1 + 22)]) dd201_359 rfl ?_
    refine zGo_s (pc' := 361) (st' := [.int x1, .int (4 : Int32), .ref (a1 + 22)]) dd201_360 rfl ?_
    refine zGo_s (pc' := 362) (st' := [.int ((4 : Int32) * x1), .ref (a1 + 22)]) dd201_361 rfl ?_
    refine zGo_s (pc' := 363) (st' := [.ref 1132, .int ((4 : Int32) * x1), .ref (a1 + 22)]) dd201_362 rfl ?_
    obtain ⟨v28, u27, hq, h⟩ := obnd h
    refine zCV1 (As := []) (rest := [.int ((4 : Int32) * x1), .ref (a1 + 22)]) (b := 1132) (q' := q_190) dd201_363 rfl rfl (rcv_m rfl rfl (by decide)) rfl rfl rfl (f190_ok (d := d) (by omega)  hq) ?_
    obtain ⟨hi, h⟩ := ochk h
    obtain ⟨u29, e_u29, h⟩ := olet h
    refine mIS dd201_366 (cf12_24 c_a1).2.1 (cf12_24 c_a1).2.2 hi e_u29 ?_
    refine zGo_s (pc' := 433) (st' := []) dd201_367 rfl ?_
    obtain rfl := ore0 h
    exact zGo_ret dd201_433 rfl rfl
  rcases oite h with ⟨hc, h⟩ | ⟨hn18, h⟩
  · refine zGo_sw dd201_6 (o := 322) (by rw [hc]; decide +kernel) rfl ?_
    exact zGo_lv (lv := [(0, .ref 1132), (1, .int x1), (3, .ref a1)]) ⟨by simp, by simp, by simp⟩ (f201_328_ok hd hg c_a1 h)
  rcases oite h with ⟨hc, h⟩ | ⟨hn19, h⟩
  · refine zGo_sw dd201_6 (o := 126) (by rw [hc]; decide +kernel) rfl ?_
    exact zGo_lv (lv := [(0, .ref 1132), (1, .int x1), (3, .ref a1)]) ⟨by simp, by simp, by simp⟩ (f201_132_ok hd hg c_a1 h)
  rcases oite h with ⟨hc, h⟩ | ⟨hn20, h⟩
  · refine zGo_sw dd201_6 (o := 364) (by rw [hc]; decide +kernel) rfl ?_
    refine zGo_s (pc' := 371) (st' := [.ref a1]) dd201_370 rfl ?_
    refine mGF (e := (a1 + 17)) dd201_371 rfl (ck12_s c_a1).1 (ck12_s c_a1).2 rfl (cf12_19 c_a1).1 ?_
    refine zGo_s (pc' := 375) (st' := [.int x1, .ref (a1 + 17)]) dd201_374 rfl ?_
    refine zGo_s (pc' := 376) (st' := [.ref 1132, .int x1, .ref (a1 + 17)]) dd201_375 rfl ?_
    refine zGo_s (pc' := 377) (st' := [.int (5 : Int32), .ref 1132, .int x1, .ref (a1 + 17)]) dd201_376 rfl ?_
    obtain ⟨v31, u30, hq, h⟩ := obnd h
    refine zCV1 (As := [.int (5 : Int32)]) (rest := [.int x1, .ref (a1 + 17)]) (b := 1132) (q' := q_189) dd201_377 rfl rfl (rcv_m rfl rfl (by decide)) rfl rfl rfl (f189_ok (d := d) (by omega)  hq) ?_
    obtain ⟨hi, h⟩ := ochk h
    obtain ⟨u32, e_u32, h⟩ := olet h
    refine mIS dd201_380 (cf12_19 c_a1).2.1 (cf12_19 c_a1).2.2 hi e_u32 ?_
    refine zGo_s (pc' := 382) (st' := [.ref a1]) dd201_381 rfl ?_
    refine mGF (e := (a1 + 18)) dd201_382 rfl (ck12_s c_a1).1 (ck12_s c_a1).2 rfl (cf12_20 c_a1).1 ?_
    refine zGo_s (pc' := 386) (st' := [.int x1, .ref (a1 + 18)]) dd201_385 rfl ?_
    refine zGo_s (pc' := 387) (st' := [.ref 1132, .int x1, .ref (a1 + 18)]) dd201_386 rfl ?_
    refine zGo_s (pc' := 388) (st' := [.int (0 : Int32), .ref 1132, .int x1, .ref (a1 + 18)]) dd201_387 rfl ?_
    obtain ⟨v34, u33, hq, h⟩ := obnd h
    refine zCV1 (As := [.int (0 : Int32)]) (rest := [.int x1, .ref (a1 + 18)]) (b := 1132) (q' := q_189) dd201_388 rfl rfl (rcv_m rfl rfl (by decide)) rfl rfl rfl (f189_ok (d := d) (by omega)  hq) ?_
    obtain ⟨hi, h⟩ := ochk h
    obtain ⟨u35, e_u35, h⟩ := olet h
    refine mIS dd201_391 (cf12_20 c_a1).2.1 (cf12_20 c_a1).2.2 hi e_u35 ?_
    refine zGo_s (pc' := 433) (st' := []) dd201_392 rfl ?_
    obtain rfl := ore0 h
    exact zGo_ret dd201_433 rfl rfl
  rcases oite h with ⟨hc, h⟩ | ⟨hn21, h⟩
  · refine zGo_sw dd201_6 (o := 389) (by rw [hc]; decide +kernel) rfl ?_
    refine zGo_s (pc' := 396) (st' := [.ref a1]) dd201_395 rfl ?_
    refine mGF (e := (a1 + 17)) dd201_396 rfl (ck12_s c_a1).1 (ck12_s c_a1).2 rfl (cf12_19 c_a1).1 ?_
    refine zGo_s (pc' := 400) (st' := [.int x1, .ref (a1 + 17)]) dd201_399 rfl ?_
    refine zGo_s (pc' := 401) (st' := [.ref 1132, .int x1, .ref (a1 + 17)]) dd201_400 rfl ?_
    refine zGo_s (pc' := 403) (st' := [.int (6 : Int32), .ref 1132, .int x1, .ref (a1 + 17)]) dd201_401 rfl ?_
    obtain ⟨v37, u36, hq, h⟩ := obnd h
    refine zCV1 (As := [.int (6 : Int32)]) (rest := [.int x1, .ref (a1 + 17)]) (b := 1132) (q' := q_189) dd201_403 rfl rfl (rcv_m rfl rfl (by decide)) rfl rfl rfl (f189_ok (d := d) (by omega)  hq) ?_
    obtain ⟨hi, h⟩ := ochk h
    obtain ⟨u38, e_u38, h⟩ := olet h
    refine mIS dd201_406 (cf12_19 c_a1).2.1 (cf12_19 c_a1).2.2 hi e_u38 ?_
    refine zGo_s (pc' := 408) (st' := [.ref a1]) dd201_407 rfl ?_
    refine mGF (e := (a1 + 22)) dd201_408 rfl (ck12_s c_a1).1 (ck12_s c_a1).2 rfl (cf12_24 c_a1).1 ?_
    refine zGo_s (pc' := 412) (st' := [.int (4 : Int32), .ref (a1 + 22)]) dd201_411 rfl ?_
    refine zGo_s (pc' := 413) (st' := [.int x1, .int (4 : Int32), .ref (a1 + 22)]) dd201_412 rfl ?_
    refine zGo_s (pc' := 414) (st' := [.int ((4 : Int32) * x1), .ref (a1 + 22)]) dd201_413 rfl ?_
    refine zGo_s (pc' := 415) (st' := [.ref 1132, .int ((4 : Int32) * x1), .ref (a1 + 22)]) dd201_414 rfl ?_
    obtain ⟨v40, u39, hq, h⟩ := obnd h
    refine zCV1 (As := []) (rest := [.int ((4 : Int32) * x1), .ref (a1 + 22)]) (b := 1132) (q' := q_190) dd201_415 rfl rfl (rcv_m rfl rfl (by decide)) rfl rfl rfl (f190_ok (d := d) (by omega)  hq) ?_
    obtain ⟨hi, h⟩ := ochk h
    obtain ⟨u41, e_u41, h⟩ := olet h
    refine mIS dd201_418 (cf12_24 c_a1).2.1 (cf12_24 c_a1).2.2 hi e_u41 ?_
    refine zGo_s (pc' := 433) (st' := []) dd201_419 rfl ?_
    obtain rfl := ore0 h
    exact zGo_ret dd201_433 rfl rfl
  rcases oite h with ⟨hc, h⟩ | ⟨hn22, h⟩
  · refine zGo_sw dd201_6 (o := 126) (by rw [hc]; decide +kernel) rfl ?_
    exact zGo_lv (lv := [(0, .ref 1132), (1, .int x1), (3, .ref a1)]) ⟨by simp, by simp, by simp⟩ (f201_132_ok hd hg c_a1 h)
  refine zGo_sw dd201_6 (o := 416) (zto_d (by decide) (by decide) fun k hk => ?_) rfl ?_
  · have hk2 : k = 0 ∨ k = 1 ∨ k = 2 ∨ k = 3 ∨ k = 4 ∨ k = 5 ∨ k = 6 ∨ k = 7 ∨ k = 8 ∨ k = 9 ∨ k = 10 ∨ k = 11 ∨ k = 12 ∨ k = 13 ∨ k = 14 ∨ k = 15 ∨ k = 16 ∨ k = 17 ∨ k = 18 ∨ k = 19 ∨ k = 20 ∨ k = 21 ∨ k = 22 ∨ k = 23 ∨ k = 24 ∨ k = 25 := by omega
    rcases hk2 with rfl | rfl | rfl | rfl | rfl | rfl | rfl | rfl | rfl | rfl | rfl | rfl | rfl | rfl | rfl | rfl | rfl | rfl | rfl | rfl | rfl | rfl | rfl | rfl | rfl | rfl
    · exact Or.inr hn0
    · exact Or.inr hn1
    · exact Or.inr hn2
    · exact Or.inr hn3
    · exact Or.inr hn4
    · exact Or.inr hn5
    · exact Or.inr hn6
    · exact Or.inr hn7
    · exact Or.inr hn8
    · exact Or.inr hn9
    · exact Or.inr hn10
    · exact Or.inr hn11
    · exact Or.inr hn12
    · exact Or.inr hn13
    · exact Or.inr hn14
    · exact Or.inr hn15
    · exact Or.inr hn16
    · exact Or.inr hn17
    · exact Or.inr hn18
    · exact Or.inr hn19
    · exact Or.inr hn20
    · exact Or.inr hn21
    · exact Or.inl rfl
    · exact Or.inl rfl
    · exact Or.inl rfl
    · exact Or.inr hn22
  exact zGo_lv (lv := [(0, .ref 1132), (1, .int x1), (3, .ref a1)]) ⟨by simp, by simp, by simp⟩ (f201_422_ok hd hg c_a1 h)
