/-! PH$Reader.statement(I)I -/
theorem dd46_0 : decode cX4_statement 0 = .ok (.aload_n 0, 1) := by decide +kernel
theorem dd46_1 : decode cX4_statement 1 = .ok (.getfield 54, 3) := by decide +kernel
theorem dd46_4 : decode cX4_statement 4 = .ok (.getfield 68, 3) := by decide +kernel
theorem dd46_7 : decode cX4_statement 7 = .ok (.istore_n 2, 1) := by decide +kernel
theorem dd46_8 : decode cX4_statement 8 = .ok (.iload_n 2, 1) := by decide +kernel
theorem dd46_9 : decode cX4_statement 9 = .ok (.sipush 150, 3) := by decide +kernel
theorem dd46_12 : decode cX4_statement 12 = .ok (.if_icmp .ne 16, 3) := by decide +kernel
theorem dd46_15 : decode cX4_statement 15 = .ok (.aload_n 0, 1) := by decide +kernel
theorem dd46_16 : decode cX4_statement 16 = .ok (.getfield 39, 3) := by decide +kernel
theorem dd46_19 : decode cX4_statement 19 = .ok (.ifCond .ne 9, 3) := by decide +kernel
theorem dd46_22 : decode cX4_statement 22 = .ok (.aload_n 0, 1) := by decide +kernel
theorem dd46_23 : decode cX4_statement 23 = .ok (.iconst 2, 1) := by decide +kernel
theorem dd46_24 : decode cX4_statement 24 = .ok (.invokevirtual 73, 3) := by decide +kernel
theorem dd46_27 : decode cX4_statement 27 = .ok (.ireturn, 1) := by decide +kernel
theorem dd46_28 : decode cX4_statement 28 = .ok (.aload_n 0, 1) := by decide +kernel
theorem dd46_29 : decode cX4_statement 29 = .ok (.getfield 27, 3) := by decide +kernel
theorem dd46_32 : decode cX4_statement 32 = .ok (.iload_n 2, 1) := by decide +kernel
theorem dd46_33 : decode cX4_statement 33 = .ok (.iload_n 1, 1) := by decide +kernel
theorem dd46_34 : decode cX4_statement 34 = .ok (.invokevirtual 196, 3) := by decide +kernel
theorem dd46_37 : decode cX4_statement 37 = .ok (.istore_n 3, 1) := by decide +kernel
theorem dd46_38 : decode cX4_statement 38 = .ok (.iload_n 3, 1) := by decide +kernel
theorem dd46_39 : decode cX4_statement 39 = .ok (.iconst (-1), 1) := by decide +kernel
theorem dd46_40 : decode cX4_statement 40 = .ok (.if_icmp .ne 9, 3) := by decide +kernel
theorem dd46_43 : decode cX4_statement 43 = .ok (.aload_n 0, 1) := by decide +kernel
theorem dd46_44 : decode cX4_statement 44 = .ok (.iconst 3, 1) := by decide +kernel
theorem dd46_45 : decode cX4_statement 45 = .ok (.invokevirtual 73, 3) := by decide +kernel
theorem dd46_48 : decode cX4_statement 48 = .ok (.ireturn, 1) := by decide +kernel
theorem dd46_49 : decode cX4_statement 49 = .ok (.iload_n 2, 1) := by decide +kernel
theorem dd46_50 : decode cX4_statement 50 = .ok (.sipush 151, 3) := by decide +kernel
theorem dd46_53 : decode cX4_statement 53 = .ok (.if_icmp .eq 10, 3) := by decide +kernel
theorem dd46_56 : decode cX4_statement 56 = .ok (.iload_n 2, 1) := by decide +kernel
theorem dd46_57 : decode cX4_statement 57 = .ok (.sipush 152, 3) := by decide +kernel
theorem dd46_60 : decode cX4_statement 60 = .ok (.if_icmp .ne 10, 3) := by decide +kernel
theorem dd46_63 : decode cX4_statement 63 = .ok (.aload_n 0, 1) := by decide +kernel
theorem dd46_64 : decode cX4_statement 64 = .ok (.iload_n 3, 1) := by decide +kernel
theorem dd46_65 : decode cX4_statement 65 = .ok (.invokevirtual 197, 3) := by decide +kernel
theorem dd46_68 : decode cX4_statement 68 = .ok (.iload_n 3, 1) := by decide +kernel
theorem dd46_69 : decode cX4_statement 69 = .ok (.ireturn, 1) := by decide +kernel
theorem dd46_70 : decode cX4_statement 70 = .ok (.iload_n 2, 1) := by decide +kernel
theorem dd46_71 : decode cX4_statement 71 = .ok (.iconst 1, 1) := by decide +kernel
theorem dd46_72 : decode cX4_statement 72 = .ok (.if_icmp .ne 11, 3) := by decide +kernel
theorem dd46_75 : decode cX4_statement 75 = .ok (.aload_n 0, 1) := by decide +kernel
theorem dd46_76 : decode cX4_statement 76 = .ok (.iload_n 3, 1) := by decide +kernel
theorem dd46_77 : decode cX4_statement 77 = .ok (.invokevirtual 200, 3) := by decide +kernel
theorem dd46_80 : decode cX4_statement 80 = .ok (.goto 66, 3) := by decide +kernel
theorem dd46_83 : decode cX4_statement 83 = .ok (.iload_n 2, 1) := by decide +kernel
theorem dd46_84 : decode cX4_statement 84 = .ok (.sipush 145, 3) := by decide +kernel
theorem dd46_87 : decode cX4_statement 87 = .ok (.if_icmp .lt 18, 3) := by decide +kernel
theorem dd46_90 : decode cX4_statement 90 = .ok (.iload_n 2, 1) := by decide +kernel
theorem dd46_91 : decode cX4_statement 91 = .ok (.sipush 148, 3) := by decide +kernel
theorem dd46_94 : decode cX4_statement 94 = .ok (.if_icmp .gt 11, 3) := by decide +kernel
theorem dd46_97 : decode cX4_statement 97 = .ok (.aload_n 0, 1) := by decide +kernel
theorem dd46_98 : decode cX4_statement 98 = .ok (.iload_n 3, 1) := by decide +kernel
theorem dd46_99 : decode cX4_statement 99 = .ok (.invokevirtual 203, 3) := by decide +kernel
theorem dd46_102 : decode cX4_statement 102 = .ok (.goto 44, 3) := by decide +kernel
theorem dd46_105 : decode cX4_statement 105 = .ok (.aload_n 0, 1) := by decide +kernel
theorem dd46_106 : decode cX4_statement 106 = .ok (.getfield 54, 3) := by decide +kernel
theorem dd46_109 : decode cX4_statement 109 = .ok (.invokevirtual 104, 3) := by decide +kernel
theorem dd46_112 : decode cX4_statement 112 = .ok (.iload_n 2, 1) := by decide +kernel
theorem dd46_113 : decode cX4_statement 113 = .ok (.sipush 159, 3) := by decide +kernel
theorem dd46_116 : decode cX4_statement 116 = .ok (.if_icmp .eq 10, 3) := by decide +kernel
theorem dd46_119 : decode cX4_statement 119 = .ok (.iload_n 2, 1) := by decide +kernel
theorem dd46_120 : decode cX4_statement 120 = .ok (.sipush 160, 3) := by decide +kernel
theorem dd46_123 : decode cX4_statement 123 = .ok (.if_icmp .ne 11, 3) := by decide +kernel
theorem dd46_126 : decode cX4_statement 126 = .ok (.aload_n 0, 1) := by decide +kernel
theorem dd46_127 : decode cX4_statement 127 = .ok (.iload_n 3, 1) := by decide +kernel
theorem dd46_128 : decode cX4_statement 128 = .ok (.invokevirtual 206, 3) := by decide +kernel
theorem dd46_131 : decode cX4_statement 131 = .ok (.goto 15, 3) := by decide +kernel
theorem dd46_134 : decode cX4_statement 134 = .ok (.iload_n 2, 1) := by decide +kernel
theorem dd46_135 : decode cX4_statement 135 = .ok (.sipush 149, 3) := by decide +kernel
theorem dd46_138 : decode cX4_statement 138 = .ok (.if_icmp .eq 8, 3) := by decide +kernel
theorem dd46_141 : decode cX4_statement 141 = .ok (.aload_n 0, 1) := by decide +kernel
theorem dd46_142 : decode cX4_statement 142 = .ok (.iload_n 3, 1) := by decide +kernel
theorem dd46_143 : decode cX4_statement 143 = .ok (.invokevirtual 209, 3) := by decide +kernel
theorem dd46_146 : decode cX4_statement 146 = .ok (.aload_n 0, 1) := by decide +kernel
theorem dd46_147 : decode cX4_statement 147 = .ok (.getfield 27, 3) := by decide +kernel
theorem dd46_150 : decode cX4_statement 150 = .ok (.getfield 212, 3) := by decide +kernel
theorem dd46_153 : decode cX4_statement 153 = .ok (.iload_n 3, 1) := by decide +kernel
theorem dd46_154 : decode cX4_statement 154 = .ok (.iaload, 1) := by decide +kernel
theorem dd46_155 : decode cX4_statement 155 = .ok (.sipush 149, 3) := by decide +kernel
theorem dd46_158 : decode cX4_statement 158 = .ok (.if_icmp .ne 8, 3) := by decide +kernel
theorem dd46_161 : decode cX4_statement 161 = .ok (.aload_n 0, 1) := by decide +kernel
theorem dd46_162 : decode cX4_statement 162 = .ok (.iload_n 3, 1) := by decide +kernel
theorem dd46_163 : decode cX4_statement 163 = .ok (.invokevirtual 214, 3) := by decide +kernel
theorem dd46_166 : decode cX4_statement 166 = .ok (.aload_n 0, 1) := by decide +kernel
theorem dd46_167 : decode cX4_statement 167 = .ok (.getfield 27, 3) := by decide +kernel
theorem dd46_170 : decode cX4_statement 170 = .ok (.getfield 217, 3) := by decide +kernel
theorem dd46_173 : decode cX4_statement 173 = .ok (.iload_n 3, 1) := by decide +kernel
theorem dd46_174 : decode cX4_statement 174 = .ok (.aload_n 0, 1) := by decide +kernel
theorem dd46_175 : decode cX4_statement 175 = .ok (.getfield 27, 3) := by decide +kernel
theorem dd46_178 : decode cX4_statement 178 = .ok (.getfield 220, 3) := by decide +kernel
theorem dd46_181 : decode cX4_statement 181 = .ok (.iastore, 1) := by decide +kernel
theorem dd46_182 : decode cX4_statement 182 = .ok (.aload_n 0, 1) := by decide +kernel
theorem dd46_183 : decode cX4_statement 183 = .ok (.bipush 59, 2) := by decide +kernel
theorem dd46_185 : decode cX4_statement 185 = .ok (.invokevirtual 125, 3) := by decide +kernel
theorem dd46_188 : decode cX4_statement 188 = .ok (.iload_n 3, 1) := by decide +kernel
theorem dd46_189 : decode cX4_statement 189 = .ok (.ireturn, 1) := by decide +kernel
def f46_166 (n : Nat) (g : Int32 → Int32 → zσ → Option (Int32 × zσ)) (x3 : Int32) (s : zσ) : Option (Int32 × zσ) :=
    zrd 6 (s.2.2 1004 5) fun a1 =>
    zrd 6 (s.2.2 1004 5) fun a2 =>
    if zin? x3 200 = true then
    zlet (sI s (a1 + 5) (nx x3) (s.1 a2 11)) fun u3 =>
    yb0 (f37 n (59 : Int32) u3) fun u4 =>
    some (x3, u4)
    else none
set_option maxRecDepth 20000 in
theorem f46_166_ok {n d : Nat} {Df : Nat} {g : Int32 → Int32 → zσ → Option (Int32 × zσ)} {x3 : Int32} {s : zσ} {v : Int32} {s2 : zσ} (hd : Df + 2 ≤ d ∧ 138 ≤ Df) (hg : ∀ (x1 : Int32) (x2 : Int32) (s : zσ) (v : Int32) (s2 : zσ), g x1 x2 s = some (v, s2) → ∀ {d : Nat}, Df ≤ d → ∀ {w : zσ} {fz : Bool} {L : Nat} {xs : Nat → Int32}, zGo (zX fz L xs) d q_40 (0, [(0, .ref 1004), (1, .int x1), (2, .int x2)], [], zmk s w, 0, 0) (some (.int v), zmk s2 w, 0, 0)) (h : f46_166 n g x3 s = some (v, s2)) {w : zσ} {fz : Bool} {L : Nat} {xs : Nat → Int32} : zGo (zX fz L xs) d q_46 (166, [(0, .ref 1004), (3, .int x3)], [], zmk s w, 0, 0) (some (.int v), zmk s2 w, 0, 0) := by
  obtain ⟨d, rfl⟩ : ∃ d0, d = d0 + 1 := ⟨d - 1, by omega⟩
  unfold f46_166 at h
  refine zGo_s (pc' := 167) (st' := [.ref 1004]) dd46_166 rfl ?_
  obtain ⟨a1, e_a1, c_a1, h⟩ := ordd h
  refine cGR dd46_167 rfl rfl rfl rfl e_a1 ?_
  refine cGF (e := (a1 + 5)) dd46_170 rfl (ck6_s c_a1).1 (ck6_s c_a1).2 rfl (cf6_4 c_a1).1 ?_
  refine zGo_s (pc' := 174) (st' := [.int x3, .ref (a1 + 5)]) dd46_173 rfl ?_
  refine zGo_s (pc' := 175) (st' := [.ref 1004, .int x3, .ref (a1 + 5)]) dd46_174 rfl ?_
  obtain ⟨a2, e_a2, c_a2, h⟩ := ordd h
  refine cGR dd46_175 rfl rfl rfl rfl e_a2 ?_
  refine cGI dd46_178 rfl (ck6_s c_a2).1 (ck6_s c_a2).2 rfl ?_
  obtain ⟨hi, h⟩ := ochk h
  obtain ⟨u3, e_u3, h⟩ := olet h
  refine cIS dd46_181 (cf6_4 c_a1).2.1 (cf6_4 c_a1).2.2 hi e_u3 ?_
  refine zGo_s (pc' := 183) (st' := [.ref 1004]) dd46_182 rfl ?_
  refine zGo_s (pc' := 185) (st' := [.int (59 : Int32), .ref 1004]) dd46_183 rfl ?_
  obtain ⟨u4, hq, h⟩ := obn0 h
  refine zCV0 (As := [.int (59 : Int32)]) (rest := []) (b := 1004) (q' := q_37) dd46_185 rfl rfl (rcv_c rfl rfl (by decide)) rfl rfl rfl (f37_ok (d := d) (by omega)  hq) ?_
  refine zGo_s (pc' := 189) (st' := [.int x3]) dd46_188 rfl ?_
  obtain ⟨rfl, rfl⟩ := oret h
  exact zGo_ret dd46_189 rfl rfl
def f46_146 (n : Nat) (g : Int32 → Int32 → zσ → Option (Int32 × zσ)) (x3 : Int32) (s : zσ) : Option (Int32 × zσ) :=
    zrd 6 (s.2.2 1004 5) fun a1 =>
    if zin? x3 200 = true then
    if (s.1 (a1 + 1) (nx x3)) = (149 : Int32) then
    yb0 (f64 n x3 s) fun u2 =>
    f46_166 n g x3 u2
    else f46_166 n g x3 s
    else none
set_option maxRecDepth 20000 in
theorem f46_146_ok {n d : Nat} {Df : Nat} {g : Int32 → Int32 → zσ → Option (Int32 × zσ)} {x3 : Int32} {s : zσ} {v : Int32} {s2 : zσ} (hd : Df + 2 ≤ d ∧ 138 ≤ Df) (hg : ∀ (x1 : Int32) (x2 : Int32) (s : zσ) (v : Int32) (s2 : zσ), g x1 x2 s = some (v, s2) → ∀ {d : Nat}, Df ≤ d → ∀ {w : zσ} {fz : Bool} {L : Nat} {xs : Nat → Int32}, zGo (zX fz L xs) d q_40 (0, [(0, .ref 1004), (1, .int x1), (2, .int x2)], [], zmk s w, 0, 0) (some (.int v), zmk s2 w, 0, 0)) (h : f46_146 n g x3 s = some (v, s2)) {w : zσ} {fz : Bool} {L : Nat} {xs : Nat → Int32} : zGo (zX fz L xs) d q_46 (146, [(0, .ref 1004), (3, .int x3)], [], zmk s w, 0, 0) (some (.int v), zmk s2 w, 0, 0) := by
  obtain ⟨d, rfl⟩ : ∃ d0, d = d0 + 1 := ⟨d - 1, by omega⟩
  unfold f46_146 at h
  refine zGo_s (pc' := 147) (st' := [.ref 1004]) dd46_146 rfl ?_
  obtain ⟨a1, e_a1, c_a1, h⟩ := ordd h
  refine cGR dd46_147 rfl rfl rfl rfl e_a1 ?_
  refine cGF (e := (a1 + 1)) dd46_150 rfl (ck6_s c_a1).1 (ck6_s c_a1).2 rfl (cf6_0 c_a1).1 ?_
  refine zGo_s (pc' := 154) (st' := [.int x3, .ref (a1 + 1)]) dd46_153 rfl ?_
  obtain ⟨hi, h⟩ := ochk h
  refine cIA dd46_154 (cf6_0 c_a1).2.1 (cf6_0 c_a1).2.2 hi ?_
  refine zGo_s (pc' := 158) (st' := [.int (149 : Int32), .int (s.1 (a1 + 1) (nx x3))]) dd46_155 rfl ?_
  rcases oite h with ⟨hc, h⟩ | ⟨hc, h⟩
  · refine zIF dd46_158 (kNeF hc) ?_
    refine zGo_s (pc' := 162) (st' := [.ref 1004]) dd46_161 rfl ?_
    refine zGo_s (pc' := 163) (st' := [.int x3, .ref 1004]) dd46_162 rfl ?_
    obtain ⟨u2, hq, h⟩ := obn0 h
    refine zCV0 (As := [.int x3]) (rest := []) (b := 1004) (q' := q_64) dd46_163 rfl rfl (rcv_c rfl rfl (by decide)) rfl rfl rfl (f64_ok (d := d) (by omega)  hq) ?_
    exact f46_166_ok hd hg h
  · refine zIT dd46_158 rfl (kNeT hc) ?_
    exact f46_166_ok hd hg h
def f46_126 (n : Nat) (g : Int32 → Int32 → zσ → Option (Int32 × zσ)) (x3 : Int32) (s : zσ) : Option (Int32 × zσ) :=
    yb0 (f61 n x3 s) fun u1 =>
    f46_146 n g x3 u1
set_option maxRecDepth 20000 in
theorem f46_126_ok {n d : Nat} {Df : Nat} {g : Int32 → Int32 → zσ → Option (Int32 × zσ)} {x3 : Int32} {s : zσ} {v : Int32} {s2 : zσ} (hd : Df + 2 ≤ d ∧ 138 ≤ Df) (hg : ∀ (x1 : Int32) (x2 : Int32) (s : zσ) (v : Int32) (s2 : zσ), g x1 x2 s = some (v, s2) → ∀ {d : Nat}, Df ≤ d → ∀ {w : zσ} {fz : Bool} {L : Nat} {xs : Nat → Int32}, zGo (zX fz L xs) d q_40 (0, [(0, .ref 1004), (1, .int x1), (2, .int x2)], [], zmk s w, 0, 0) (some (.int v), zmk s2 w, 0, 0)) (h : f46_126 n g x3 s = some (v, s2)) {w : zσ} {fz : Bool} {L : Nat} {xs : Nat → Int32} : zGo (zX fz L xs) d q_46 (126, [(0, .ref 1004), (3, .int x3)], [], zmk s w, 0, 0) (some (.int v), zmk s2 w, 0, 0) := by
  obtain ⟨d, rfl⟩ : ∃ d0, d = d0 + 1 := ⟨d - 1, by omega⟩
  unfold f46_126 at h
  refine zGo_s (pc' := 127) (st' := [.ref 1004]) dd46_126 rfl ?_
  refine zGo_s (pc' := 128) (st' := [.int x3, .ref 1004]) dd46_127 rfl ?_
  obtain ⟨u1, hq, h⟩ := obn0 h
  refine zCV0 (As := [.int x3]) (rest := []) (b := 1004) (q' := q_61) dd46_128 rfl rfl (rcv_c rfl rfl (by decide)) rfl rfl rfl (f61_ok (d := d) (by omega)  hq) ?_
  refine zGo_s (pc' := 146) (st' := []) dd46_131 rfl ?_
  exact f46_146_ok hd hg h
def f46_105 (n : Nat) (g : Int32 → Int32 → zσ → Option (Int32 × zσ)) (x2 : Int32) (x3 : Int32) (s : zσ) : Option (Int32 × zσ) :=
    yb0 (f26 n s) fun u1 =>
    if x2 = (159 : Int32) then
    f46_126 n g x3 u1
    else if x2 = (160 : Int32) then
    f46_126 n g x3 u1
    else if x2 = (149 : Int32) then
    f46_146 n g x3 u1
    else yb0 (f62 n x3 u1) fun u2 =>
    f46_146 n g x3 u2
set_option maxRecDepth 20000 in
theorem f46_105_ok {n d : Nat} {Df : Nat} {g : Int32 → Int32 → zσ → Option (Int32 × zσ)} {x2 : Int32} {x3 : Int32} {s : zσ} {v : Int32} {s2 : zσ} (hd : Df + 2 ≤ d ∧ 138 ≤ Df) (hg : ∀ (x1 : Int32) (x2 : Int32) (s : zσ) (v : Int32) (s2 : zσ), g x1 x2 s = some (v, s2) → ∀ {d : Nat}, Df ≤ d → ∀ {w : zσ} {fz : Bool} {L : Nat} {xs : Nat → Int32}, zGo (zX fz L xs) d q_40 (0, [(0, .ref 1004), (1, .int x1), (2, .int x2)], [], zmk s w, 0, 0) (some (.int v), zmk s2 w, 0, 0)) (h : f46_105 n g x2 x3 s = some (v, s2)) {w : zσ} {fz : Bool} {L : Nat} {xs : Nat → Int32} : zGo (zX fz L xs) d q_46 (105, [(0, .ref 1004), (2, .int x2), (3, .int x3)], [], zmk s w, 0, 0) (some (.int v), zmk s2 w, 0, 0) := by
  obtain ⟨d, rfl⟩ : ∃ d0, d = d0 + 1 := ⟨d - 1, by omega⟩
  unfold f46_105 at h
  refine zGo_s (pc' := 106) (st' := [.ref 1004]) dd46_105 rfl ?_
  refine cGF (e := 1001) dd46_106 rfl rfl rfl rfl rfl ?_
  obtain ⟨u1, hq, h⟩ := obn0 h
  refine zCV0 (As := []) (rest := []) (b := 1001) (q' := q_26) dd46_109 rfl rfl (rcv_c rfl rfl (by decide)) rfl rfl rfl (f26_ok (d := d) (by omega)  hq) ?_
  refine zGo_s (pc' := 113) (st' := [.int x2]) dd46_112 rfl ?_
  refine zGo_s (pc' := 116) (st' := [.int (159 : Int32), .int x2]) dd46_113 rfl ?_
  rcases oite h with ⟨hc, h⟩ | ⟨hc, h⟩
  · refine zIT dd46_116 rfl (kEqT hc) ?_
    exact zGo_lv (lv := [(0, .ref 1004), (3, .int x3)]) ⟨by simp, by simp, by simp⟩ (f46_126_ok hd hg h)
  · refine zIF dd46_116 (kEqF hc) ?_
    refine zGo_s (pc' := 120) (st' := [.int x2]) dd46_119 rfl ?_
    refine zGo_s (pc' := 123) (st' := [.int (160 : Int32), .int x2]) dd46_120 rfl ?_
    rcases oite h with ⟨hc, h⟩ | ⟨hc, h⟩
    · refine zIF dd46_123 (kNeF hc) ?_
      exact zGo_lv (lv := [(0, .ref 1004), (3, .int x3)]) ⟨by simp, by simp, by simp⟩ (f46_126_ok hd hg h)
    · refine zIT dd46_123 rfl (kNeT hc) ?_
      refine zGo_s (pc' := 135) (st' := [.int x2]) dd46_134 rfl ?_
      refine zGo_s (pc' := 138) (st' := [.int (149 : Int32), .int x2]) dd46_135 rfl ?_
      rcases oite h with ⟨hc, h⟩ | ⟨hc, h⟩
      · refine zIT dd46_138 rfl (kEqT hc) ?_
        exact zGo_lv (lv := [(0, .ref 1004), (3, .int x3)]) ⟨by simp, by simp, by simp⟩ (f46_146_ok hd hg h)
      · refine zIF dd46_138 (kEqF hc) ?_
        refine zGo_s (pc' := 142) (st' := [.ref 1004]) dd46_141 rfl ?_
        refine zGo_s (pc' := 143) (st' := [.int x3, .ref 1004]) dd46_142 rfl ?_
        obtain ⟨u2, hq, h⟩ := obn0 h
        refine zCV0 (As := [.int x3]) (rest := []) (b := 1004) (q' := q_62) dd46_143 rfl rfl (rcv_c rfl rfl (by decide)) rfl rfl rfl (f62_ok (d := d) (by omega)  hq) ?_
        exact zGo_lv (lv := [(0, .ref 1004), (3, .int x3)]) ⟨by simp, by simp, by simp⟩ (f46_146_ok hd hg h)
def f46_63 (n : Nat) (g : Int32 → Int32 → zσ → Option (Int32 × zσ)) (x3 : Int32) (s : zσ) : Option (Int32 × zσ) :=
    yb0 (f48 n g x3 s) fun u1 =>
    some (x3, u1)
set_option maxRecDepth 20000 in
theorem f46_63_ok {n d : Nat} {Df : Nat} {g : Int32 → Int32 → zσ → Option (Int32 × zσ)} {x3 : Int32} {s : zσ} {v : Int32} {s2 : zσ} (hd : Df + 2 ≤ d ∧ 138 ≤ Df) (hg : ∀ (x1 : Int32) (x2 : Int32) (s : zσ) (v : Int32) (s2 : zσ), g x1 x2 s = some (v, s2) → ∀ {d : Nat}, Df ≤ d → ∀ {w : zσ} {fz : Bool} {L : Nat} {xs : Nat → Int32}, zGo (zX fz L xs) d q_40 (0, [(0, .ref 1004), (1, .int x1), (2, .int x2)], [], zmk s w, 0, 0) (some (.int v), zmk s2 w, 0, 0)) (h : f46_63 n g x3 s = some (v, s2)) {w : zσ} {fz : Bool} {L : Nat} {xs : Nat → Int32} : zGo (zX fz L xs) d q_46 (63, [(0, .ref 1004), (3, .int x3)], [], zmk s w, 0, 0) (some (.int v), zmk s2 w, 0, 0) := by
  obtain ⟨d, rfl⟩ : ∃ d0, d = d0 + 1 := ⟨d - 1, by omega⟩
  unfold f46_63 at h
  refine zGo_s (pc' := 64) (st' := [.ref 1004]) dd46_63 rfl ?_
  refine zGo_s (pc' := 65) (st' := [.int x3, .ref 1004]) dd46_64 rfl ?_
  obtain ⟨u1, hq, h⟩ := obn0 h
  refine zCV0 (As := [.int x3]) (rest := []) (b := 1004) (q' := q_48) dd46_65 rfl rfl (rcv_c rfl rfl (by decide)) rfl rfl rfl (f48_ok (d := d) (by omega) hg  hq) ?_
  refine zGo_s (pc' := 69) (st' := [.int x3]) dd46_68 rfl ?_
  obtain ⟨rfl, rfl⟩ := oret h
  exact zGo_ret dd46_69 rfl rfl
def f46_28 (n : Nat) (g : Int32 → Int32 → zσ → Option (Int32 × zσ)) (x1 : Int32) (x2 : Int32) (s : zσ) : Option (Int32 × zσ) :=
    zrd 6 (s.2.2 1004 5) fun a1 =>
    yb1 (f47 n a1 x2 x1 s) fun v3 u2 =>
    if v3 = (-1 : Int32) then
    yb1 (f32 n (3 : Int32) u2) fun v7 u6 =>
    some (v7, u6)
    else if x2 = (151 : Int32) then
    f46_63 n g v3 u2
    else if x2 = (152 : Int32) then
    f46_63 n g v3 u2
    else if x2 = (1 : Int32) then
    yb0 (f59 n v3 u2) fun u5 =>
    f46_146 n g v3 u5
    else if x2 < (145 : Int32) then
    f46_105 n g x2 v3 u2
    else if (148 : Int32) < x2 then
    f46_105 n g x2 v3 u2
    else yb0 (f60 n v3 u2) fun u4 =>
    f46_146 n g v3 u4
set_option maxRecDepth 20000 in
theorem f46_28_ok {n d : Nat} {Df : Nat} {g : Int32 → Int32 → zσ → Option (Int32 × zσ)} {x1 : Int32} {x2 : Int32} {s : zσ} {v : Int32} {s2 : zσ} (hd : Df + 2 ≤ d ∧ 138 ≤ Df) (hg : ∀ (x1 : Int32) (x2 : Int32) (s : zσ) (v : Int32) (s2 : zσ), g x1 x2 s = some (v, s2) → ∀ {d : Nat}, Df ≤ d → ∀ {w : zσ} {fz : Bool} {L : Nat} {xs : Nat → Int32}, zGo (zX fz L xs) d q_40 (0, [(0, .ref 1004), (1, .int x1), (2, .int x2)], [], zmk s w, 0, 0) (some (.int v), zmk s2 w, 0, 0)) (h : f46_28 n g x1 x2 s = some (v, s2)) {w : zσ} {fz : Bool} {L : Nat} {xs : Nat → Int32} : zGo (zX fz L xs) d q_46 (28, [(0, .ref 1004), (1, .int x1), (2, .int x2)], [], zmk s w, 0, 0) (some (.int v), zmk s2 w, 0, 0) := by
  obtain ⟨d, rfl⟩ : ∃ d0, d = d0 + 1 := ⟨d - 1, by omega⟩
  unfold f46_28 at h
  refine zGo_s (pc' := 29) (st' := [.ref 1004]) dd46_28 rfl ?_
  obtain ⟨a1, e_a1, c_a1, h⟩ := ordd h
  refine cGR dd46_29 rfl rfl rfl rfl e_a1 ?_
  refine zGo_s (pc' := 33) (st' := [.int x2, .ref a1]) dd46_32 rfl ?_
  refine zGo_s (pc' := 34) (st' := [.int x1, .int x2, .ref a1]) dd46_33 rfl ?_
  obtain ⟨v3, u2, hq, h⟩ := obnd h
  refine zCV1 (As := [.int x2, .int x1]) (rest := []) (b := a1) (q' := q_47) dd46_34 rfl rfl (rcv_c (ck6_s c_a1).1 (ck6_s c_a1).2 (by decide)) rfl rfl rfl (f47_ok (d := d) (by omega) c_a1 hq) ?_
  refine zGo_s (pc' := 38) (st' := []) (lv' := [(3, .int v3), (0, .ref 1004), (1, .int x1), (2, .int x2)]) dd46_37 rfl ?_
  refine zGo_s (pc' := 39) (st' := [.int v3]) dd46_38 rfl ?_
  refine zGo_s (pc' := 40) (st' := [.int (-1 : Int32), .int v3]) dd46_39 rfl ?_
  rcases oite h with ⟨hc, h⟩ | ⟨hc, h⟩
  · refine zIF dd46_40 (kNeF hc) ?_
    refine zGo_s (pc' := 44) (st' := [.ref 1004]) dd46_43 rfl ?_
    refine zGo_s (pc' := 45) (st' := [.int (3 : Int32), .ref 1004]) dd46_44 rfl ?_
    obtain ⟨v7, u6, hq, h⟩ := obnd h
    refine zCV1 (As := [.int (3 : Int32)]) (rest := []) (b := 1004) (q' := q_32) dd46_45 rfl rfl (rcv_c rfl rfl (by decide)) rfl rfl rfl (f32_ok (d := d) (by omega)  hq) ?_
    obtain ⟨rfl, rfl⟩ := oret h
    exact zGo_ret dd46_48 rfl rfl
  · refine zIT dd46_40 rfl (kNeT hc) ?_
    refine zGo_s (pc' := 50) (st' := [.int x2]) dd46_49 rfl ?_
    refine zGo_s (pc' := 53) (st' := [.int (151 : Int32), .int x2]) dd46_50 rfl ?_
    rcases oite h with ⟨hc, h⟩ | ⟨hc, h⟩
    · refine zIT dd46_53 rfl (kEqT hc) ?_
      exact zGo_lv (lv := [(0, .ref 1004), (3, .int v3)]) ⟨by simp, by simp, by simp⟩ (f46_63_ok hd hg h)
    · refine zIF dd46_53 (kEqF hc) ?_
      refine zGo_s (pc' := 57) (st' := [.int x2]) dd46_56 rfl ?_
      refine zGo_s (pc' := 60) (st' := [.int (152 : Int32), .int x2]) dd46_57 rfl ?_
      rcases oite h with ⟨hc, h⟩ | ⟨hc, h⟩
      · refine zIF dd46_60 (kNeF hc) ?_
        exact zGo_lv (lv := [(0, .ref 1004), (3, .int v3)]) ⟨by simp, by simp, by simp⟩ (f46_63_ok hd hg h)
      · refine zIT dd46_60 rfl (kNeT hc) ?_
        refine zGo_s (pc' := 71) (st' := [.int x2]) dd46_70 rfl ?_
        refine zGo_s (pc' := 72) (st' := [.int (1 : Int32), .int x2]) dd46_71 rfl ?_
        rcases oite h with ⟨hc, h⟩ | ⟨hc, h⟩
        · refine zIF dd46_72 (kNeF hc) ?_
          refine zGo_s (pc' := 76) (st' := [.ref 1004]) dd46_75 rfl ?_
          refine zGo_s (pc' := 77) (st' := [.int v3, .ref 1004]) dd46_76 rfl ?_
          obtain ⟨u5, hq, h⟩ := obn0 h
          refine zCV0 (As := [.int v3]) (rest := []) (b := 1004) (q' := q_59) dd46_77 rfl rfl (rcv_c rfl rfl (by decide)) rfl rfl rfl (f59_ok (d := d) (by omega)  hq) ?_
          refine zGo_s (pc' := 146) (st' := []) dd46_80 rfl ?_
          exact zGo_lv (lv := [(0, .ref 1004), (3, .int v3)]) ⟨by simp, by simp, by simp⟩ (f46_146_ok hd hg h)
        · refine zIT dd46_72 rfl (kNeT hc) ?_
          refine zGo_s (pc' := 84) (st' := [.int x2]) dd46_83 rfl ?_
          refine zGo_s (pc' := 87) (st' := [.int (145 : Int32), .int x2]) dd46_84 rfl ?_
          rcases oite h with ⟨hc, h⟩ | ⟨hc, h⟩
          · refine zIT dd46_87 rfl (kLtT hc) ?_
            exact zGo_lv (lv := [(0, .ref 1004), (2, .int x2), (3, .int v3)]) ⟨by simp, by simp, by simp⟩ (f46_105_ok hd hg h)
          · refine zIF dd46_87 (kLtF hc) ?_
            refine zGo_s (pc' := 91) (st' := [.int x2]) dd46_90 rfl ?_
            refine zGo_s (pc' := 94) (st' := [.int (148 : Int32), .int x2]) dd46_91 rfl ?_
            rcases oite h with ⟨hc, h⟩ | ⟨hc, h⟩
            · refine zIT dd46_94 rfl (kGtT hc) ?_
              exact zGo_lv (lv := [(0, .ref 1004), (2, .int x2), (3, .int v3)]) ⟨by simp, by simp, by simp⟩ (f46_105_ok hd hg h)
            · refine zIF dd46_94 (kGtF hc) ?_
              refine zGo_s (pc' := 98) (st' := [.ref 1004]) dd46_97 rfl ?_
              refine zGo_s (pc' := 99) (st' := [.int v3, .ref 1004]) dd46_98 rfl ?_
              obtain ⟨u4, hq, h⟩ := obn0 h
              refine zCV0 (As := [.int v3]) (rest := []) (b := 1004) (q' := q_60) dd46_99 rfl rfl (rcv_c rfl rfl (by decide)) rfl rfl rfl (f60_ok (d := d) (by omega)  hq) ?_
              refine zGo_s (pc' := 146) (st' := []) dd46_102 rfl ?_
              exact zGo_lv (lv := [(0, .ref 1004), (3, .int v3)]) ⟨by simp, by simp, by simp⟩ (f46_146_ok hd hg h)
def f46 (n : Nat) (g : Int32 → Int32 → zσ → Option (Int32 × zσ)) (x1 : Int32) (s : zσ) : Option (Int32 × zσ) :=
    zlet ((s.1 1001 4)) fun v1 =>
    if v1 = (150 : Int32) then
    if (s.1 1004 8) = (0 : Int32) then
    yb1 (f32 n (2 : Int32) s) fun v3 u2 =>
    some (v3, u2)
    else f46_28 n g x1 v1 s
    else f46_28 n g x1 v1 s
set_option maxRecDepth 20000 in
theorem f46_ok {n d : Nat} {Df : Nat} {g : Int32 → Int32 → zσ → Option (Int32 × zσ)} {x1 : Int32} {s : zσ} {v : Int32} {s2 : zσ} (hd : Df + 2 ≤ d ∧ 138 ≤ Df) (hg : ∀ (x1 : Int32) (x2 : Int32) (s : zσ) (v : Int32) (s2 : zσ), g x1 x2 s = some (v, s2) → ∀ {d : Nat}, Df ≤ d → ∀ {w : zσ} {fz : Bool} {L : Nat} {xs : Nat → Int32}, zGo (zX fz L xs) d q_40 (0, [(0, .ref 1004), (1, .int x1), (2, .int x2)], [], zmk s w, 0, 0) (some (.int v), zmk s2 w, 0, 0)) (h : f46 n g x1 s = some (v, s2)) {w : zσ} {fz : Bool} {L : Nat} {xs : Nat → Int32} : zGo (zX fz L xs) d q_46 (0, [(0, .ref 1004), (1, .int x1)], [], zmk s w, 0, 0) (some (.int v), zmk s2 w, 0, 0) := by
  obtain ⟨d, rfl⟩ : ∃ d0, d = d0 + 1 := ⟨d - 1, by omega⟩
  unfold f46 at h
  refine zGo_s (pc' := 1) (st' := [.ref 1004]) dd46_0 rfl ?_
  refine cGF (e := 1001) dd46_1 rfl rfl rfl rfl rfl ?_
  refine cGI dd46_4 rfl rfl rfl rfl ?_
  obtain ⟨v1, e_v1, h⟩ := olet h
  refine zGo_is1 e_v1 dd46_7 (x' := (8, [(2, .int v1), (0, .ref 1004), (1, .int x1)], [], _, _, _)) rfl ?_
  refine zGo_s (pc' := 9) (st' := [.int v1]) dd46_8 rfl ?_
  refine zGo_s (pc' := 12) (st' := [.int (150 : Int32), .int v1]) dd46_9 rfl ?_
  rcases oite h with ⟨hc, h⟩ | ⟨hc, h⟩
  · refine zIF dd46_12 (kNeF hc) ?_
    refine zGo_s (pc' := 16) (st' := [.ref 1004]) dd46_15 rfl ?_
    refine cGI dd46_16 rfl rfl rfl rfl ?_
    rcases oite h with ⟨hc, h⟩ | ⟨hc, h⟩
    · refine zUF dd46_19 (kNeF hc) ?_
      refine zGo_s (pc' := 23) (st' := [.ref 1004]) dd46_22 rfl ?_
      refine zGo_s (pc' := 24) (st' := [.int (2 : Int32), .ref 1004]) dd46_23 rfl ?_
      obtain ⟨v3, u2, hq, h⟩ := obnd h
      refine zCV1 (As := [.int (2 : Int32)]) (rest := []) (b := 1004) (q' := q_32) dd46_24 rfl rfl (rcv_c rfl rfl (by decide)) rfl rfl rfl (f32_ok (d := d) (by omega)  hq) ?_
      obtain ⟨rfl, rfl⟩ := oret h
      exact zGo_ret dd46_27 rfl rfl
    · refine zUT dd46_19 rfl (kNeT hc) ?_
      exact zGo_lv (lv := [(0, .ref 1004), (1, .int x1), (2, .int v1)]) ⟨by simp, by simp, by simp⟩ (f46_28_ok hd hg h)
  · refine zIT dd46_12 rfl (kNeT hc) ?_
    exact zGo_lv (lv := [(0, .ref 1004), (1, .int x1), (2, .int v1)]) ⟨by simp, by simp, by simp⟩ (f46_28_ok hd hg h)
/-! PH$Reader.block(II)I -/
theorem dd40_0 : decode cX4_block 0 = .ok (.aload_n 0, 1) := by decide +kernel
theorem dd40_1 : decode cX4_block 1 = .ok (.bipush 123, 2) := by decide +kernel
theorem dd40_3 : decode cX4_block 3 = .ok (.invokevirtual 168, 3) := by decide +kernel
theorem dd40_6 : decode cX4_block 6 = .ok (.ifCond .ne 5, 3) := by decide +kernel
theorem dd40_9 : decode cX4_block 9 = .ok (.iconst (-1), 1) := by decide +kernel
theorem dd40_10 : decode cX4_block 10 = .ok (.ireturn, 1) := by decide +kernel
theorem dd40_11 : decode cX4_block 11 = .ok (.aload_n 0, 1) := by decide +kernel
theorem dd40_12 : decode cX4_block 12 = .ok (.getfield 31, 3) := by decide +kernel
theorem dd40_15 : decode cX4_block 15 = .ok (.iload_n 1, 1) := by decide +kernel
theorem dd40_16 : decode cX4_block 16 = .ok (.iload_n 2, 1) := by decide +kernel
theorem dd40_17 : decode cX4_block 17 = .ok (.invokevirtual 171, 3) := by decide +kernel
theorem dd40_20 : decode cX4_block 20 = .ok (.istore_n 3, 1) := by decide +kernel
theorem dd40_21 : decode cX4_block 21 = .ok (.iload_n 3, 1) := by decide +kernel
theorem dd40_22 : decode cX4_block 22 = .ok (.iconst (-1), 1) := by decide +kernel
theorem dd40_23 : decode cX4_block 23 = .ok (.if_icmp .ne 9, 3) := by decide +kernel
theorem dd40_26 : decode cX4_block 26 = .ok (.aload_n 0, 1) := by decide +kernel
theorem dd40_27 : decode cX4_block 27 = .ok (.iconst 3, 1) := by decide +kernel
theorem dd40_28 : decode cX4_block 28 = .ok (.invokevirtual 73, 3) := by decide +kernel
theorem dd40_31 : decode cX4_block 31 = .ok (.ireturn, 1) := by decide +kernel
theorem dd40_32 : decode cX4_block 32 = .ok (.iconst 0, 1) := by decide +kernel
theorem dd40_33 : decode cX4_block 33 = .ok (.istore 4, 2) := by decide +kernel
theorem dd40_35 : decode cX4_block 35 = .ok (.iload 4, 2) := by decide +kernel
theorem dd40_37 : decode cX4_block 37 = .ok (.sipush 4000, 3) := by decide +kernel
theorem dd40_40 : decode cX4_block 40 = .ok (.if_icmp .ge 27, 3) := by decide +kernel
theorem dd40_43 : decode cX4_block 43 = .ok (.aload_n 0, 1) := by decide +kernel
theorem dd40_44 : decode cX4_block 44 = .ok (.getfield 54, 3) := by decide +kernel
theorem dd40_47 : decode cX4_block 47 = .ok (.getfield 68, 3) := by decide +kernel
theorem dd40_50 : decode cX4_block 50 = .ok (.sipush 138, 3) := by decide +kernel
theorem dd40_53 : decode cX4_block 53 = .ok (.if_icmp .ne 14, 3) := by decide +kernel
theorem dd40_56 : decode cX4_block 56 = .ok (.aload_n 0, 1) := by decide +kernel
theorem dd40_57 : decode cX4_block 57 = .ok (.iload_n 3, 1) := by decide +kernel
theorem dd40_58 : decode cX4_block 58 = .ok (.invokevirtual 174, 3) := by decide +kernel
theorem dd40_61 : decode cX4_block 61 = .ok (.iinc 4 1, 3) := by decide +kernel
theorem dd40_64 : decode cX4_block 64 = .ok (.goto (-29), 3) := by decide +kernel
theorem dd40_67 : decode cX4_block 67 = .ok (.iconst (-1), 1) := by decide +kernel
theorem dd40_68 : decode cX4_block 68 = .ok (.istore 4, 2) := by decide +kernel
theorem dd40_70 : decode cX4_block 70 = .ok (.iconst 0, 1) := by decide +kernel
theorem dd40_71 : decode cX4_block 71 = .ok (.istore 5, 2) := by decide +kernel
theorem dd40_73 : decode cX4_block 73 = .ok (.iload 5, 2) := by decide +kernel
theorem dd40_75 : decode cX4_block 75 = .ok (.sipush 4000, 3) := by decide +kernel
theorem dd40_78 : decode cX4_block 78 = .ok (.if_icmp .ge 76, 3) := by decide +kernel
theorem dd40_81 : decode cX4_block 81 = .ok (.aload_n 0, 1) := by decide +kernel
theorem dd40_82 : decode cX4_block 82 = .ok (.getfield 54, 3) := by decide +kernel
theorem dd40_85 : decode cX4_block 85 = .ok (.getfield 68, 3) := by decide +kernel
theorem dd40_88 : decode cX4_block 88 = .ok (.iconst 1, 1) := by decide +kernel
theorem dd40_89 : decode cX4_block 89 = .ok (.if_icmp .eq 16, 3) := by decide +kernel
theorem dd40_92 : decode cX4_block 92 = .ok (.aload_n 0, 1) := by decide +kernel
theorem dd40_93 : decode cX4_block 93 = .ok (.getfield 54, 3) := by decide +kernel
theorem dd40_96 : decode cX4_block 96 = .ok (.getfield 68, 3) := by decide +kernel
theorem dd40_99 : decode cX4_block 99 = .ok (.sipush 145, 3) := by decide +kernel
theorem dd40_102 : decode cX4_block 102 = .ok (.if_icmp .lt 52, 3) := by decide +kernel
theorem dd40_105 : decode cX4_block 105 = .ok (.aload_n 0, 1) := by decide +kernel
theorem dd40_106 : decode cX4_block 106 = .ok (.iload_n 3, 1) := by decide +kernel
theorem dd40_107 : decode cX4_block 107 = .ok (.invokevirtual 177, 3) := by decide +kernel
theorem dd40_110 : decode cX4_block 110 = .ok (.istore 6, 2) := by decide +kernel
theorem dd40_112 : decode cX4_block 112 = .ok (.iload 4, 2) := by decide +kernel
theorem dd40_114 : decode cX4_block 114 = .ok (.iconst (-1), 1) := by decide +kernel
theorem dd40_115 : decode cX4_block 115 = .ok (.if_icmp .ne 17, 3) := by decide +kernel
theorem dd40_118 : decode cX4_block 118 = .ok (.aload_n 0, 1) := by decide +kernel
theorem dd40_119 : decode cX4_block 119 = .ok (.getfield 31, 3) := by decide +kernel
theorem dd40_122 : decode cX4_block 122 = .ok (.getfield 180, 3) := by decide +kernel
theorem dd40_125 : decode cX4_block 125 = .ok (.iload_n 3, 1) := by decide +kernel
theorem dd40_126 : decode cX4_block 126 = .ok (.iload 6, 2) := by decide +kernel
theorem dd40_128 : decode cX4_block 128 = .ok (.iastore, 1) := by decide +kernel
theorem dd40_129 : decode cX4_block 129 = .ok (.goto 15, 3) := by decide +kernel
theorem dd40_132 : decode cX4_block 132 = .ok (.aload_n 0, 1) := by decide +kernel
theorem dd40_133 : decode cX4_block 133 = .ok (.getfield 27, 3) := by decide +kernel
theorem dd40_136 : decode cX4_block 136 = .ok (.getfield 183, 3) := by decide +kernel
theorem dd40_139 : decode cX4_block 139 = .ok (.iload 4, 2) := by decide +kernel
theorem dd40_141 : decode cX4_block 141 = .ok (.iload 6, 2) := by decide +kernel
theorem dd40_143 : decode cX4_block 143 = .ok (.iastore, 1) := by decide +kernel
theorem dd40_144 : decode cX4_block 144 = .ok (.iload 6, 2) := by decide +kernel
theorem dd40_146 : decode cX4_block 146 = .ok (.istore 4, 2) := by decide +kernel
theorem dd40_148 : decode cX4_block 148 = .ok (.iinc 5 1, 3) := by decide +kernel
theorem dd40_151 : decode cX4_block 151 = .ok (.goto (-78), 3) := by decide +kernel
theorem dd40_154 : decode cX4_block 154 = .ok (.aload_n 0, 1) := by decide +kernel
theorem dd40_155 : decode cX4_block 155 = .ok (.bipush 125, 2) := by decide +kernel
theorem dd40_157 : decode cX4_block 157 = .ok (.invokevirtual 125, 3) := by decide +kernel
theorem dd40_160 : decode cX4_block 160 = .ok (.aload_n 0, 1) := by decide +kernel
theorem dd40_161 : decode cX4_block 161 = .ok (.dup, 1) := by decide +kernel
theorem dd40_162 : decode cX4_block 162 = .ok (.getfield 42, 3) := by decide +kernel
theorem dd40_165 : decode cX4_block 165 = .ok (.iconst 1, 1) := by decide +kernel
theorem dd40_166 : decode cX4_block 166 = .ok (.isub, 1) := by decide +kernel
theorem dd40_167 : decode cX4_block 167 = .ok (.putfield 42, 3) := by decide +kernel
theorem dd40_170 : decode cX4_block 170 = .ok (.iload_n 3, 1) := by decide +kernel
theorem dd40_171 : decode cX4_block 171 = .ok (.ireturn, 1) := by decide +kernel
def f40_154 (n : Nat) (g : Int32 → Int32 → zσ → Option (Int32 × zσ)) (x3 : Int32) (s : zσ) : Option (Int32 × zσ) :=
    yb0 (f37 n (125 : Int32) s) fun u1 =>
    zlet (sI u1 1004 9 ((u1.1 1004 9) - (1 : Int32))) fun u2 =>
    some (x3, u2)
set_option maxRecDepth 20000 in
theorem f40_154_ok {n d : Nat} {Df : Nat} {g : Int32 → Int32 → zσ → Option (Int32 × zσ)} {x3 : Int32} {s : zσ} {v : Int32} {s2 : zσ} (hd : Df + 3 ≤ d ∧ 138 ≤ Df) (hg : ∀ (x1 : Int32) (x2 : Int32) (s : zσ) (v : Int32) (s2 : zσ), g x1 x2 s = some (v, s2) → ∀ {d : Nat}, Df ≤ d → ∀ {w : zσ} {fz : Bool} {L : Nat} {xs : Nat → Int32}, zGo (zX fz L xs) d q_40 (0, [(0, .ref 1004), (1, .int x1), (2, .int x2)], [], zmk s w, 0, 0) (some (.int v), zmk s2 w, 0, 0)) (h : f40_154 n g x3 s = some (v, s2)) {w : zσ} {fz : Bool} {L : Nat} {xs : Nat → Int32} : zGo (zX fz L xs) d q_40 (154, [(0, .ref 1004), (3, .int x3)], [], zmk s w, 0, 0) (some (.int v), zmk s2 w, 0, 0) := by
  obtain ⟨d, rfl⟩ : ∃ d0, d = d0 + 1 := ⟨d - 1, by omega⟩
  unfold f40_154 at h
  refine zGo_s (pc' := 155) (st' := [.ref 1004]) dd40_154 rfl ?_
  refine zGo_s (pc' := 157) (st' := [.int (125 : Int32), .ref 1004]) dd40_155 rfl ?_
  obtain ⟨u1, hq, h⟩ := obn0 h
  refine zCV0 (As := [.int (125 : Int32)]) (rest := []) (b := 1004) (q' := q_37) dd40_157 rfl rfl (rcv_c rfl rfl (by decide)) rfl rfl rfl (f37_ok (d := d) (by omega)  hq) ?_
  refine zGo_s (pc' := 161) (st' := [.ref 1004]) dd40_160 rfl ?_
  refine zGo_s (pc' := 162) (st' := [.ref 1004, .ref 1004]) dd40_161 rfl ?_
  refine cGI dd40_162 rfl rfl rfl rfl ?_
  refine zGo_s (pc' := 166) (st' := [.int (1 : Int32), .int (u1.1 1004 9), .ref 1004]) dd40_165 rfl ?_
  refine zGo_s (pc' := 167) (st' := [.int ((u1.1 1004 9) - (1 : Int32)), .ref 1004]) dd40_166 rfl ?_
  obtain ⟨u2, e_u2, h⟩ := olet h
  refine cPI dd40_167 rfl rfl rfl rfl rfl rfl e_u2 ?_
  refine zGo_s (pc' := 171) (st' := [.int x3]) dd40_170 rfl ?_
  obtain ⟨rfl, rfl⟩ := oret h
  exact zGo_ret dd40_171 rfl rfl
def f40_144 (n : Nat) (g : Int32 → Int32 → zσ → Option (Int32 × zσ)) (r73 : Int32 → Int32 → Int32 → zσ → Option (Int32 × zσ)) (x3 : Int32) (x5 : Int32) (x6 : Int32) (s : zσ) : Option (Int32 × zσ) :=
    r73 x3 x6 (x5 + (1 : Int32)) s
set_option maxRecDepth 20000 in
theorem f40_144_ok {n d : Nat} {Df : Nat} {g : Int32 → Int32 → zσ → Option (Int32 × zσ)} {r73 : Int32 → Int32 → Int32 → zσ → Option (Int32 × zσ)} {x3 : Int32} {x5 : Int32} {x6 : Int32} {s : zσ} {v : Int32} {s2 : zσ} (hd : Df + 3 ≤ d ∧ 138 ≤ Df) (hg : ∀ (x1 : Int32) (x2 : Int32) (s : zσ) (v : Int32) (s2 : zσ), g x1 x2 s = some (v, s2) → ∀ {d : Nat}, Df ≤ d → ∀ {w : zσ} {fz : Bool} {L : Nat} {xs : Nat → Int32}, zGo (zX fz L xs) d q_40 (0, [(0, .ref 1004), (1, .int x1), (2, .int x2)], [], zmk s w, 0, 0) (some (.int v), zmk s2 w, 0, 0)) (hr73 : ∀ (x3 : Int32) (x4 : Int32) (x5 : Int32) (s : zσ) (v : Int32) (s2 : zσ), r73 x3 x4 x5 s = some (v, s2) → ∀ {w : zσ} {fz : Bool} {L : Nat} {xs : Nat → Int32}, zGo (zX fz L xs) d q_40 (73, [(0, .ref 1004), (3, .int x3), (4, .int x4), (5, .int x5)], [], zmk s w, 0, 0) (some (.int v), zmk s2 w, 0, 0)) (h : f40_144 n g r73 x3 x5 x6 s = some (v, s2)) {w : zσ} {fz : Bool} {L : Nat} {xs : Nat → Int32} : zGo (zX fz L xs) d q_40 (144, [(0, .ref 1004), (3, .int x3), (5, .int x5), (6, .int x6)], [], zmk s w, 0, 0) (some (.int v), zmk s2 w, 0, 0) := by
  obtain ⟨d, rfl⟩ : ∃ d0, d = d0 + 1 := ⟨d - 1, by omega⟩
  unfold f40_144 at h
  refine zGo_s (pc' := 146) (st' := [.int x6]) dd40_144 rfl ?_
  refine zGo_s (pc' := 148) (st' := []) (lv' := [(4, .int x6), (0, .ref 1004), (3, .int x3), (5, .int x5), (6, .int x6)]) dd40_146 rfl ?_
  refine zGo_s (pc' := 151) (st' := []) (lv' := [(5, .int (x5 + (1 : Int32))), (4, .int x6), (0, .ref 1004), (3, .int x3), (6, .int x6)]) dd40_148 rfl ?_
  refine zGo_s (pc' := 73) (st' := []) dd40_151 rfl ?_
  exact zGo_lv (lv := [(0, .ref 1004), (3, .int x3), (4, .int x6), (5, .int (x5 + (1 : Int32)))]) ⟨by simp, by simp, by simp⟩ (hr73 _ _ _ _ _ _ h)
def f40_105 (n : Nat) (g : Int32 → Int32 → zσ → Option (Int32 × zσ)) (r73 : Int32 → Int32 → Int32 → zσ → Option (Int32 × zσ)) (x3 : Int32) (x4 : Int32) (x5 : Int32) (s : zσ) : Option (Int32 × zσ) :=
    yb1 (f46 n g x3 s) fun v2 u1 =>
    if x4 = (-1 : Int32) then
    zrd 0 (u1.2.2 1004 6) fun a5 =>
    if zin? x3 700 = true then
    zlet (sI u1 (a5 + 3) (nx x3) v2) fun u6 =>
    f40_144 n g r73 x3 x5 v2 u6
    else none
    else zrd 6 (u1.2.2 1004 5) fun a3 =>
    if zin? x4 200 = true then
    zlet (sI u1 (a3 + 6) (nx x4) v2) fun u4 =>
    f40_144 n g r73 x3 x5 v2 u4
    else none
set_option maxRecDepth 20000 in
theorem f40_105_ok {n d : Nat} {Df : Nat} {g : Int32 → Int32 → zσ → Option (Int32 × zσ)} {r73 : Int32 → Int32 → Int32 → zσ → Option (Int32 × zσ)} {x3 : Int32} {x4 : Int32} {x5 : Int32} {s : zσ} {v : Int32} {s2 : zσ} (hd : Df + 3 ≤ d ∧ 138 ≤ Df) (hg : ∀ (x1 : Int32) (x2 : Int32) (s : zσ) (v : Int32) (s2 : zσ), g x1 x2 s = some (v, s2) → ∀ {d : Nat}, Df ≤ d → ∀ {w : zσ} {fz : Bool} {L : Nat} {xs : Nat → Int32}, zGo (zX fz L xs) d q_40 (0, [(0, .ref 1004), (1, .int x1), (2, .int x2)], [], zmk s w, 0, 0) (some (.int v), zmk s2 w, 0, 0)) (hr73 : ∀ (x3 : Int32) (x4 : Int32) (x5 : Int32) (s : zσ) (v : Int32) (s2 : zσ), r73 x3 x4 x5 s = some (v, s2) → ∀ {w : zσ} {fz : Bool} {L : Nat} {xs : Nat → Int32}, zGo (zX fz L xs) d q_40 (73, [(0, .ref 1004), (3, .int x3), (4, .int x4), (5, .int x5)], [], zmk s w, 0, 0) (some (.int v), zmk s2 w, 0, 0)) (h : f40_105 n g r73 x3 x4 x5 s = some (v, s2)) {w : zσ} {fz : Bool} {L : Nat} {xs : Nat → Int32} : zGo (zX fz L xs) d q_40 (105, [(0, .ref 1004), (3, .int x3), (4, .int x4), (5, .int x5)], [], zmk s w, 0, 0) (some (.int v), zmk s2 w, 0, 0) := by
  obtain ⟨d, rfl⟩ : ∃ d0, d = d0 + 1 := ⟨d - 1, by omega⟩
  unfold f40_105 at h
  refine zGo_s (pc' := 106) (st' := [.ref 1004]) dd40_105 rfl ?_
  refine zGo_s (pc' := 107) (st' := [.int x3, .ref 1004]) dd40_106 rfl ?_
  obtain ⟨v2, u1, hq, h⟩ := obnd h
  refine zCV1 (As := [.int x3]) (rest := []) (b := 1004) (q' := q_46) dd40_107 rfl rfl (rcv_c rfl rfl (by decide)) rfl rfl rfl (f46_ok (d := d) (by omega) hg  hq) ?_
  refine zGo_s (pc' := 112) (st' := []) (lv' := [(6, .int v2), (0, .ref 1004), (3, .int x3), (4, .int x4), (5, .int x5)]) dd40_110 rfl ?_
  refine zGo_s (pc' := 114) (st' := [.int x4]) dd40_112 rfl ?_
  refine zGo_s (pc' := 115) (st' := [.int (-1 : Int32), .int x4]) dd40_114 rfl ?_
  rcases oite h with ⟨hc, h⟩ | ⟨hc, h⟩
  · refine zIF dd40_115 (kNeF hc) ?_
    refine zGo_s (pc' := 119) (st' := [.ref 1004]) dd40_118 rfl ?_
    obtain ⟨a5, e_a5, c_a5, h⟩ := ordd h
    refine cGR dd40_119 rfl rfl rfl rfl e_a5 ?_
    refine cGF (e := (a5 + 3)) dd40_122 rfl (ck0_s c_a5).1 (ck0_s c_a5).2 rfl (cf0_2 c_a5).1 ?_
    refine zGo_s (pc' := 126) (st' := [.int x3, .ref (a5 + 3)]) dd40_125 rfl ?_
    refine zGo_s (pc' := 128) (st' := [.int v2, .int x3, .ref (a5 + 3)]) dd40_126 rfl ?_
    obtain ⟨hi, h⟩ := ochk h
    obtain ⟨u6, e_u6, h⟩ := olet h
    refine cIS dd40_128 (cf0_2 c_a5).2.1 (cf0_2 c_a5).2.2 hi e_u6 ?_
    refine zGo_s (pc' := 144) (st' := []) dd40_129 rfl ?_
    exact zGo_lv (lv := [(0, .ref 1004), (3, .int x3), (5, .int x5), (6, .int v2)]) ⟨by simp, by simp, by simp⟩ (f40_144_ok hd hg hr73 h)
  · refine zIT dd40_115 rfl (kNeT hc) ?_
    refine zGo_s (pc' := 133) (st' := [.ref 1004]) dd40_132 rfl ?_
    obtain ⟨a3, e_a3, c_a3, h⟩ := ordd h
    refine cGR dd40_133 rfl rfl rfl rfl e_a3 ?_
    refine cGF (e := (a3 + 6)) dd40_136 rfl (ck6_s c_a3).1 (ck6_s c_a3).2 rfl (cf6_5 c_a3).1 ?_
    refine zGo_s (pc' := 141) (st' := [.int x4, .ref (a3 + 6)]) dd40_139 rfl ?_
    refine zGo_s (pc' := 143) (st' := [.int v2, .int x4, .ref (a3 + 6)]) dd40_141 rfl ?_
    obtain ⟨hi, h⟩ := ochk h
    obtain ⟨u4, e_u4, h⟩ := olet h
    refine cIS dd40_143 (cf6_5 c_a3).2.1 (cf6_5 c_a3).2.2 hi e_u4 ?_
    exact zGo_lv (lv := [(0, .ref 1004), (3, .int x3), (5, .int x5), (6, .int v2)]) ⟨by simp, by simp, by simp⟩ (f40_144_ok hd hg hr73 h)
def f40_73 (n : Nat) (g : Int32 → Int32 → zσ → Option (Int32 × zσ)) : Nat → Int32 → Int32 → Int32 → zσ → Option (Int32 × zσ)
  | 0, _, _, _, _ => none
  | j + 1, x3, x4, x5, s =>
    if x5 < (4000 : Int32) then
    if (s.1 1001 4) = (1 : Int32) then
    f40_105 n g (f40_73 n g j) x3 x4 x5 s
    else if (s.1 1001 4) < (145 : Int32) then
    f40_154 n g x3 s
    else f40_105 n g (f40_73 n g j) x3 x4 x5 s
    else f40_154 n g x3 s
set_option maxRecDepth 20000 in
theorem f40_73_ok {n d : Nat} {Df : Nat} {g : Int32 → Int32 → zσ → Option (Int32 × zσ)} (hd : Df + 3 ≤ d ∧ 138 ≤ Df) (hg : ∀ (x1 : Int32) (x2 : Int32) (s : zσ) (v : Int32) (s2 : zσ), g x1 x2 s = some (v, s2) → ∀ {d : Nat}, Df ≤ d → ∀ {w : zσ} {fz : Bool} {L : Nat} {xs : Nat → Int32}, zGo (zX fz L xs) d q_40 (0, [(0, .ref 1004), (1, .int x1), (2, .int x2)], [], zmk s w, 0, 0) (some (.int v), zmk s2 w, 0, 0)) : ∀ (j : Nat) (x3 : Int32) (x4 : Int32) (x5 : Int32) (s : zσ) (v : Int32) (s2 : zσ), f40_73 n g j x3 x4 x5 s = some (v, s2) → ∀ {w : zσ} {fz : Bool} {L : Nat} {xs : Nat → Int32}, zGo (zX fz L xs) d q_40 (73, [(0, .ref 1004), (3, .int x3), (4, .int x4), (5, .int x5)], [], zmk s w, 0, 0) (some (.int v), zmk s2 w, 0, 0) := by
  obtain ⟨d, rfl⟩ : ∃ d0, d = d0 + 1 := ⟨d - 1, by omega⟩
  intro j
  induction j with
  | zero => intro x3 x4 x5 s v s2 h; cases h
  | succ j ih =>
    intro x3 x4 x5 s v s2 h w fz L xs
    rw [f40_73] at h
    refine zGo_s (pc' := 75) (st' := [.int x5]) dd40_73 rfl ?_
    refine zGo_s (pc' := 78) (st' := [.int (4000 : Int32), .int x5]) dd40_75 rfl ?_
    rcases oite h with ⟨hc, h⟩ | ⟨hc, h⟩
    · refine zIF dd40_78 (kGeF hc) ?_
      refine zGo_s (pc' := 82) (st' := [.ref 1004]) dd40_81 rfl ?_
      refine cGF (e := 1001) dd40_82 rfl rfl rfl rfl rfl ?_
      refine cGI dd40_85 rfl rfl rfl rfl ?_
      refine zGo_s (pc' := 89) (st' := [.int (1 : Int32), .int (s.1 1001 4)]) dd40_88 rfl ?_
      rcases oite h with ⟨hc, h⟩ | ⟨hc, h⟩
      · refine zIT dd40_89 rfl (kEqT hc) ?_
        exact f40_105_ok hd hg ih h
      · refine zIF dd40_89 (kEqF hc) ?_
        refine zGo_s (pc' := 93) (st' := [.ref 1004]) dd40_92 rfl ?_
        refine cGF (e := 1001) dd40_93 rfl rfl rfl rfl rfl ?_
        refine cGI dd40_96 rfl rfl rfl rfl ?_
        refine zGo_s (pc' := 102) (st' := [.int (145 : Int32), .int (s.1 1001 4)]) dd40_99 rfl ?_
        rcases oite h with ⟨hc, h⟩ | ⟨hc, h⟩
        · refine zIT dd40_102 rfl (kLtT hc) ?_
          exact zGo_lv (lv := [(0, .ref 1004), (3, .int x3)]) ⟨by simp, by simp, by simp⟩ (f40_154_ok hd hg h)
        · refine zIF dd40_102 (kLtF hc) ?_
          exact f40_105_ok hd hg ih h
    · refine zIT dd40_78 rfl (kGeT hc) ?_
      exact zGo_lv (lv := [(0, .ref 1004), (3, .int x3)]) ⟨by simp, by simp, by simp⟩ (f40_154_ok hd hg h)
def f40_67 (n : Nat) (g : Int32 → Int32 → zσ → Option (Int32 × zσ)) (x3 : Int32) (s : zσ) : Option (Int32 × zσ) :=
    f40_73 n g n x3 (-1 : Int32) (0 : Int32) s
set_option maxRecDepth 20000 in
theorem f40_67_ok {n d : Nat} {Df : Nat} {g : Int32 → Int32 → zσ → Option (Int32 × zσ)} {x3 : Int32} {s : zσ} {v : Int32} {s2 : zσ} (hd : Df + 3 ≤ d ∧ 138 ≤ Df) (hg : ∀ (x1 : Int32) (x2 : Int32) (s : zσ) (v : Int32) (s2 : zσ), g x1 x2 s = some (v, s2) → ∀ {d : Nat}, Df ≤ d → ∀ {w : zσ} {fz : Bool} {L : Nat} {xs : Nat → Int32}, zGo (zX fz L xs) d q_40 (0, [(0, .ref 1004), (1, .int x1), (2, .int x2)], [], zmk s w, 0, 0) (some (.int v), zmk s2 w, 0, 0)) (h : f40_67 n g x3 s = some (v, s2)) {w : zσ} {fz : Bool} {L : Nat} {xs : Nat → Int32} : zGo (zX fz L xs) d q_40 (67, [(0, .ref 1004), (3, .int x3)], [], zmk s w, 0, 0) (some (.int v), zmk s2 w, 0, 0) := by
  obtain ⟨d, rfl⟩ : ∃ d0, d = d0 + 1 := ⟨d - 1, by omega⟩
  unfold f40_67 at h
  refine zGo_s (pc' := 68) (st' := [.int (-1 : Int32)]) dd40_67 rfl ?_
  refine zGo_s (pc' := 70) (st' := []) (lv' := [(4, .int (-1 : Int32)), (0, .ref 1004), (3, .int x3)]) dd40_68 rfl ?_
  refine zGo_s (pc' := 71) (st' := [.int (0 : Int32)]) dd40_70 rfl ?_
  refine zGo_s (pc' := 73) (st' := []) (lv' := [(5, .int (0 : Int32)), (4, .int (-1 : Int32)), (0, .ref 1004), (3, .int x3)]) dd40_71 rfl ?_
  exact zGo_lv (lv := [(0, .ref 1004), (3, .int x3), (4, .int (-1 : Int32)), (5, .int (0 : Int32))]) ⟨by simp, by simp, by simp⟩ (f40_73_ok hd hg _ _ _ _ _ _ _ h)
def f40_35 (n : Nat) (g : Int32 → Int32 → zσ → Option (Int32 × zσ)) : Nat → Int32 → Int32 → zσ → Option (Int32 × zσ)
  | 0, _, _, _ => none
  | j + 1, x3, x4, s =>
    if x4 < (4000 : Int32) then
    if (s.1 1001 4) = (138 : Int32) then
    yb0 (f43 n g x3 s) fun u1 =>
    f40_35 n g j x3 (x4 + (1 : Int32)) u1
    else f40_67 n g x3 s
    else f40_67 n g x3 s
set_option maxRecDepth 20000 in
theorem f40_35_ok {n d : Nat} {Df : Nat} {g : Int32 → Int32 → zσ → Option (Int32 × zσ)} (hd : Df + 3 ≤ d ∧ 138 ≤ Df) (hg : ∀ (x1 : Int32) (x2 : Int32) (s : zσ) (v : Int32) (s2 : zσ), g x1 x2 s = some (v, s2) → ∀ {d : Nat}, Df ≤ d → ∀ {w : zσ} {fz : Bool} {L : Nat} {xs : Nat → Int32}, zGo (zX fz L xs) d q_40 (0, [(0, .ref 1004), (1, .int x1), (2, .int x2)], [], zmk s w, 0, 0) (some (.int v), zmk s2 w, 0, 0)) : ∀ (j : Nat) (x3 : Int32) (x4 : Int32) (s : zσ) (v : Int32) (s2 : zσ), f40_35 n g j x3 x4 s = some (v, s2) → ∀ {w : zσ} {fz : Bool} {L : Nat} {xs : Nat → Int32}, zGo (zX fz L xs) d q_40 (35, [(0, .ref 1004), (3, .int x3), (4, .int x4)], [], zmk s w, 0, 0) (some (.int v), zmk s2 w, 0, 0) := by
  obtain ⟨d, rfl⟩ : ∃ d0, d = d0 + 1 := ⟨d - 1, by omega⟩
  intro j
  induction j with
  | zero => intro x3 x4 s v s2 h; cases h
  | succ j ih =>
    intro x3 x4 s v s2 h w fz L xs
    rw [f40_35] at h
    refine zGo_s (pc' := 37) (st' := [.int x4]) dd40_35 rfl ?_
    refine zGo_s (pc' := 40) (st' := [.int (4000 : Int32), .int x4]) dd40_37 rfl ?_
    rcases oite h with ⟨hc, h⟩ | ⟨hc, h⟩
    · refine zIF dd40_40 (kGeF hc) ?_
      refine zGo_s (pc' := 44) (st' := [.ref 1004]) dd40_43 rfl ?_
      refine cGF (e := 1001) dd40_44 rfl rfl rfl rfl rfl ?_
      refine cGI dd40_47 rfl rfl rfl rfl ?_
      refine zGo_s (pc' := 53) (st' := [.int (138 : Int32), .int (s.1 1001 4)]) dd40_50 rfl ?_
      rcases oite h with ⟨hc, h⟩ | ⟨hc, h⟩
      · refine zIF dd40_53 (kNeF hc) ?_
        refine zGo_s (pc' := 57) (st' := [.ref 1004]) dd40_56 rfl ?_
        refine zGo_s (pc' := 58) (st' := [.int x3, .ref 1004]) dd40_57 rfl ?_
        obtain ⟨u1, hq, h⟩ := obn0 h
        refine zCV0 (As := [.int x3]) (rest := []) (b := 1004) (q' := q_43) dd40_58 rfl rfl (rcv_c rfl rfl (by decide)) rfl rfl rfl (f43_ok (d := d) (by omega) hg  hq) ?_
        refine zGo_s (pc' := 64) (st' := []) (lv' := [(4, .int (x4 + (1 : Int32))), (0, .ref 1004), (3, .int x3)]) dd40_61 rfl ?_
        refine zGo_s (pc' := 35) (st' := []) dd40_64 rfl ?_
        exact zGo_lv (lv := [(0, .ref 1004), (3, .int x3), (4, .int (x4 + (1 : Int32)))]) ⟨by simp, by simp, by simp⟩ (ih _ _ _ _ _ h)
      · refine zIT dd40_53 rfl (kNeT hc) ?_
        exact zGo_lv (lv := [(0, .ref 1004), (3, .int x3)]) ⟨by simp, by simp, by simp⟩ (f40_67_ok hd hg h)
    · refine zIT dd40_40 rfl (kGeT hc) ?_
      exact zGo_lv (lv := [(0, .ref 1004), (3, .int x3)]) ⟨by simp, by simp, by simp⟩ (f40_67_ok hd hg h)
def f40b (n : Nat) (g : Int32 → Int32 → zσ → Option (Int32 × zσ)) (x1 : Int32) (x2 : Int32) (s : zσ) : Option (Int32 × zσ) :=
    yb1 (f41 n (123 : Int32) s) fun v2 u1 =>
    if v2 = (0 : Int32) then
    some ((-1 : Int32), u1)
    else zrd 0 (u1.2.2 1004 6) fun a3 =>
    yb1 (f42 n a3 x1 x2 u1) fun v5 u4 =>
    if v5 = (-1 : Int32) then
    yb1 (f32 n (3 : Int32) u4) fun v7 u6 =>
    some (v7, u6)
    else f40_35 n g n v5 (0 : Int32) u4
set_option maxRecDepth 20000 in
theorem f40b_ok {n d : Nat} {Df : Nat} {g : Int32 → Int32 → zσ → Option (Int32 × zσ)} {x1 : Int32} {x2 : Int32} {s : zσ} {v : Int32} {s2 : zσ} (hd : Df + 3 ≤ d ∧ 138 ≤ Df) (hg : ∀ (x1 : Int32) (x2 : Int32) (s : zσ) (v : Int32) (s2 : zσ), g x1 x2 s = some (v, s2) → ∀ {d : Nat}, Df ≤ d → ∀ {w : zσ} {fz : Bool} {L : Nat} {xs : Nat → Int32}, zGo (zX fz L xs) d q_40 (0, [(0, .ref 1004), (1, .int x1), (2, .int x2)], [], zmk s w, 0, 0) (some (.int v), zmk s2 w, 0, 0)) (h : f40b n g x1 x2 s = some (v, s2)) {w : zσ} {fz : Bool} {L : Nat} {xs : Nat → Int32} : zGo (zX fz L xs) d q_40 (0, [(0, .ref 1004), (1, .int x1), (2, .int x2)], [], zmk s w, 0, 0) (some (.int v), zmk s2 w, 0, 0) := by
  obtain ⟨d, rfl⟩ : ∃ d0, d = d0 + 1 := ⟨d - 1, by omega⟩
  unfold f40b at h
  refine zGo_s (pc' := 1) (st' := [.ref 1004]) dd40_0 rfl ?_
  refine zGo_s (pc' := 3) (st' := [.int (123 : Int32), .ref 1004]) dd40_1 rfl ?_
  obtain ⟨v2, u1, hq, h⟩ := obnd h
  refine zCV1 (As := [.int (123 : Int32)]) (rest := []) (b := 1004) (q' := q_41) dd40_3 rfl rfl (rcv_c rfl rfl (by decide)) rfl rfl rfl (f41_ok (d := d) (by omega)  hq) ?_
  rcases oite h with ⟨hc, h⟩ | ⟨hc, h⟩
  · refine zUF dd40_6 (kNeF hc) ?_
    refine zGo_s (pc' := 10) (st' := [.int (-1 : Int32)]) dd40_9 rfl ?_
    obtain ⟨rfl, rfl⟩ := oret h
    exact zGo_ret dd40_10 rfl rfl
  · refine zUT dd40_6 rfl (kNeT hc) ?_
    refine zGo_s (pc' := 12) (st' := [.ref 1004]) dd40_11 rfl ?_
    obtain ⟨a3, e_a3, c_a3, h⟩ := ordd h
    refine cGR dd40_12 rfl rfl rfl rfl e_a3 ?_
    refine zGo_s (pc' := 16) (st' := [.int x1, .ref a3]) dd40_15 rfl ?_
    refine zGo_s (pc' := 17) (st' := [.int x2, .int x1, .ref a3]) dd40_16 rfl ?_
    obtain ⟨v5, u4, hq, h⟩ := obnd h
    refine zCV1 (As := [.int x1, .int x2]) (rest := []) (b := a3) (q' := q_42) dd40_17 rfl rfl (rcv_c (ck0_s c_a3).1 (ck0_s c_a3).2 (by decide)) rfl rfl rfl (f42_ok (d := d) (by omega) c_a3 hq) ?_
    refine zGo_s (pc' := 21) (st' := []) (lv' := [(3, .int v5), (0, .ref 1004), (1, .int x1), (2, .int x2)]) dd40_20 rfl ?_
    refine zGo_s (pc' := 22) (st' := [.int v5]) dd40_21 rfl ?_
    refine zGo_s (pc' := 23) (st' := [.int (-1 : Int32), .int v5]) dd40_22 rfl ?_
    rcases oite h with ⟨hc, h⟩ | ⟨hc, h⟩
    · refine zIF dd40_23 (kNeF hc) ?_
      refine zGo_s (pc' := 27) (st' := [.ref 1004]) dd40_26 rfl ?_
      refine zGo_s (pc' := 28) (st' := [.int (3 : Int32), .ref 1004]) dd40_27 rfl ?_
      obtain ⟨v7, u6, hq, h⟩ := obnd h
      refine zCV1 (As := [.int (3 : Int32)]) (rest := []) (b := 1004) (q' := q_32) dd40_28 rfl rfl (rcv_c rfl rfl (by decide)) rfl rfl rfl (f32_ok (d := d) (by omega)  hq) ?_
      obtain ⟨rfl, rfl⟩ := oret h
      exact zGo_ret dd40_31 rfl rfl
    · refine zIT dd40_23 rfl (kNeT hc) ?_
      refine zGo_s (pc' := 33) (st' := [.int (0 : Int32)]) dd40_32 rfl ?_
      refine zGo_s (pc' := 35) (st' := []) (lv' := [(4, .int (0 : Int32)), (3, .int v5), (0, .ref 1004), (1, .int x1), (2, .int x2)]) dd40_33 rfl ?_
      exact zGo_lv (lv := [(0, .ref 1004), (3, .int v5), (4, .int (0 : Int32))]) ⟨by simp, by simp, by simp⟩ (f40_35_ok hd hg _ _ _ _ _ _ h)
def f40 (n : Nat) : Nat → Int32 → Int32 → zσ → Option (Int32 × zσ)
  | 0, _, _, _ => none
  | k + 1, x1, x2, s => f40b n (f40 n k) x1 x2 s
theorem f40_all {n : Nat} : ∀ (k : Nat) (x1 : Int32) (x2 : Int32) (s : zσ) (v : Int32) (s2 : zσ), f40 n k x1 x2 s = some (v, s2) → ∀ {d : Nat}, 138 + 4 * (k + 1) ≤ d → ∀ {w : zσ} {fz : Bool} {L : Nat} {xs : Nat → Int32}, zGo (zX fz L xs) d q_40 (0, [(0, .ref 1004), (1, .int x1), (2, .int x2)], [], zmk s w, 0, 0) (some (.int v), zmk s2 w, 0, 0) := by
  intro k
  induction k with
  | zero => intro x1 x2 s v s2 h; cases h
  | succ k ih =>
    intro x1 x2 s v s2 h d hd w fz L xs
    exact f40b_ok (Df := 138 + 4 * (k + 1)) (by omega) ih h
theorem f40_okk20 {n : Nat} : ∀ (x1 : Int32) (x2 : Int32) (s : zσ) (v : Int32) (s2 : zσ), f40 n 20 x1 x2 s = some (v, s2) → ∀ {d : Nat}, 222 ≤ d → ∀ {w : zσ} {fz : Bool} {L : Nat} {xs : Nat → Int32}, zGo (zX fz L xs) d q_40 (0, [(0, .ref 1004), (1, .int x1), (2, .int x2)], [], zmk s w, 0, 0) (some (.int v), zmk s2 w, 0, 0) :=
  fun x1 x2 _ _ _ h _ hd _ _ _ _ => f40_all 20 _ _ _ _ _ h (by omega)
/-! PH$Reader.readProc()V -/
theorem dd33_0 : decode cX4_readProc 0 = .ok (.aload_n 0, 1) := by decide +kernel
theorem dd33_1 : decode cX4_readProc 1 = .ok (.getfield 54, 3) := by decide +kernel
theorem dd33_4 : decode cX4_readProc 4 = .ok (.invokevirtual 104, 3) := by decide +kernel
theorem dd33_7 : decode cX4_readProc 7 = .ok (.aload_n 0, 1) := by decide +kernel
theorem dd33_8 : decode cX4_readProc 8 = .ok (.bipush 7, 2) := by decide +kernel
theorem dd33_10 : decode cX4_readProc 10 = .ok (.invokevirtual 107, 3) := by decide +kernel
theorem dd33_13 : decode cX4_readProc 13 = .ok (.istore_n 1, 1) := by decide +kernel
theorem dd33_14 : decode cX4_readProc 14 = .ok (.aload_n 0, 1) := by decide +kernel
theorem dd33_15 : decode cX4_readProc 15 = .ok (.bipush 40, 2) := by decide +kernel
theorem dd33_17 : decode cX4_readProc 17 = .ok (.invokevirtual 125, 3) := by decide +kernel
theorem dd33_20 : decode cX4_readProc 20 = .ok (.aload_n 0, 1) := by decide +kernel
theorem dd33_21 : decode cX4_readProc 21 = .ok (.getfield 54, 3) := by decide +kernel
theorem dd33_24 : decode cX4_readProc 24 = .ok (.getfield 68, 3) := by decide +kernel
theorem dd33_27 : decode cX4_readProc 27 = .ok (.bipush 41, 2) := by decide +kernel
theorem dd33_29 : decode cX4_readProc 29 = .ok (.if_icmp .eq 7, 3) := by decide +kernel
theorem dd33_32 : decode cX4_readProc 32 = .ok (.iconst 1, 1) := by decide +kernel
theorem dd33_33 : decode cX4_readProc 33 = .ok (.goto 4, 3) := by decide +kernel
theorem dd33_36 : decode cX4_readProc 36 = .ok (.iconst 0, 1) := by decide +kernel
theorem dd33_37 : decode cX4_readProc 37 = .ok (.istore_n 2, 1) := by decide +kernel
theorem dd33_38 : decode cX4_readProc 38 = .ok (.iconst 0, 1) := by decide +kernel
theorem dd33_39 : decode cX4_readProc 39 = .ok (.istore_n 3, 1) := by decide +kernel
theorem dd33_40 : decode cX4_readProc 40 = .ok (.iload_n 2, 1) := by decide +kernel
theorem dd33_41 : decode cX4_readProc 41 = .ok (.ifCond .eq 25, 3) := by decide +kernel
theorem dd33_44 : decode cX4_readProc 44 = .ok (.iload_n 3, 1) := by decide +kernel
theorem dd33_45 : decode cX4_readProc 45 = .ok (.iconst 3, 1) := by decide +kernel
theorem dd33_46 : decode cX4_readProc 46 = .ok (.if_icmp .gt 20, 3) := by decide +kernel
theorem dd33_49 : decode cX4_readProc 49 = .ok (.aload_n 0, 1) := by decide +kernel
theorem dd33_50 : decode cX4_readProc 50 = .ok (.invokevirtual 141, 3) := by decide +kernel
theorem dd33_53 : decode cX4_readProc 53 = .ok (.aload_n 0, 1) := by decide +kernel
theorem dd33_54 : decode cX4_readProc 54 = .ok (.bipush 44, 2) := by decide +kernel
theorem dd33_56 : decode cX4_readProc 56 = .ok (.invokevirtual 110, 3) := by decide +kernel
theorem dd33_59 : decode cX4_readProc 59 = .ok (.istore_n 2, 1) := by decide +kernel
theorem dd33_60 : decode cX4_readProc 60 = .ok (.iinc 3 1, 3) := by decide +kernel
theorem dd33_63 : decode cX4_readProc 63 = .ok (.goto (-23), 3) := by decide +kernel
theorem dd33_66 : decode cX4_readProc 66 = .ok (.aload_n 0, 1) := by decide +kernel
theorem dd33_67 : decode cX4_readProc 67 = .ok (.bipush 41, 2) := by decide +kernel
theorem dd33_69 : decode cX4_readProc 69 = .ok (.invokevirtual 125, 3) := by decide +kernel
theorem dd33_72 : decode cX4_readProc 72 = .ok (.aload_n 0, 1) := by decide +kernel
theorem dd33_73 : decode cX4_readProc 73 = .ok (.iconst 1, 1) := by decide +kernel
theorem dd33_74 : decode cX4_readProc 74 = .ok (.putfield 39, 3) := by decide +kernel
theorem dd33_77 : decode cX4_readProc 77 = .ok (.aload_n 0, 1) := by decide +kernel
theorem dd33_78 : decode cX4_readProc 78 = .ok (.iconst 1, 1) := by decide +kernel
theorem dd33_79 : decode cX4_readProc 79 = .ok (.iload_n 1, 1) := by decide +kernel
theorem dd33_80 : decode cX4_readProc 80 = .ok (.invokevirtual 128, 3) := by decide +kernel
theorem dd33_83 : decode cX4_readProc 83 = .ok (.istore_n 3, 1) := by decide +kernel
theorem dd33_84 : decode cX4_readProc 84 = .ok (.iload_n 1, 1) := by decide +kernel
theorem dd33_85 : decode cX4_readProc 85 = .ok (.iconst (-1), 1) := by decide +kernel
theorem dd33_86 : decode cX4_readProc 86 = .ok (.if_icmp .eq 26, 3) := by decide +kernel
theorem dd33_89 : decode cX4_readProc 89 = .ok (.aload_n 0, 1) := by decide +kernel
theorem dd33_90 : decode cX4_readProc 90 = .ok (.getfield 23, 3) := by decide +kernel
theorem dd33_93 : decode cX4_readProc 93 = .ok (.getfield 144, 3) := by decide +kernel
theorem dd33_96 : decode cX4_readProc 96 = .ok (.iload_n 1, 1) := by decide +kernel
theorem dd33_97 : decode cX4_readProc 97 = .ok (.aload_n 0, 1) := by decide +kernel
theorem dd33_98 : decode cX4_readProc 98 = .ok (.getfield 19, 3) := by decide +kernel
theorem dd33_101 : decode cX4_readProc 101 = .ok (.iastore, 1) := by decide +kernel
theorem dd33_102 : decode cX4_readProc 102 = .ok (.aload_n 0, 1) := by decide +kernel
theorem dd33_103 : decode cX4_readProc 103 = .ok (.getfield 23, 3) := by decide +kernel
theorem dd33_106 : decode cX4_readProc 106 = .ok (.getfield 147, 3) := by decide +kernel
theorem dd33_109 : decode cX4_readProc 109 = .ok (.iload_n 1, 1) := by decide +kernel
theorem dd33_110 : decode cX4_readProc 110 = .ok (.iload_n 3, 1) := by decide +kernel
theorem dd33_111 : decode cX4_readProc 111 = .ok (.iastore, 1) := by decide +kernel
theorem dd33_112 : decode cX4_readProc 112 = .ok (.aload_n 0, 1) := by decide +kernel
theorem dd33_113 : decode cX4_readProc 113 = .ok (.iconst 0, 1) := by decide +kernel
theorem dd33_114 : decode cX4_readProc 114 = .ok (.putfield 39, 3) := by decide +kernel
theorem dd33_117 : decode cX4_readProc 117 = .ok (.aload_n 0, 1) := by decide +kernel
theorem dd33_118 : decode cX4_readProc 118 = .ok (.iconst 0, 1) := by decide +kernel
theorem dd33_119 : decode cX4_readProc 119 = .ok (.putfield 19, 3) := by decide +kernel
theorem dd33_122 : decode cX4_readProc 122 = .ok (.return_, 1) := by decide +kernel
def f33_112 (n : Nat) (s : zσ) : Option zσ :=
    zlet (sI s 1004 8 (0 : Int32)) fun u1 =>
    zlet (sI u1 1004 3 (0 : Int32)) fun u2 =>
    some u2
set_option maxRecDepth 20000 in
theorem f33_112_ok {n d : Nat} {s : zσ} {s2 : zσ} (hd : 223 ≤ d) (h : f33_112 n s = some s2) {w : zσ} {fz : Bool} {L : Nat} {xs : Nat → Int32} : zGo (zX fz L xs) d q_33 (112, [(0, .ref 1004)], [], zmk s w, 0, 0) (none, zmk s2 w, 0, 0) := by
  obtain ⟨d, rfl⟩ : ∃ d0, d = d0 + 1 := ⟨d - 1, by omega⟩
  unfold f33_112 at h
  refine zGo_s (pc' := 113) (st' := [.ref 1004]) dd33_112 rfl ?_
  refine zGo_s (pc' := 114) (st' := [.int (0 : Int32), .ref 1004]) dd33_113 rfl ?_
  obtain ⟨u1, e_u1, h⟩ := olet h
  refine cPI dd33_114 rfl rfl rfl rfl rfl rfl e_u1 ?_
  refine zGo_s (pc' := 118) (st' := [.ref 1004]) dd33_117 rfl ?_
  refine zGo_s (pc' := 119) (st' := [.int (0 : Int32), .ref 1004]) dd33_118 rfl ?_
  obtain ⟨u2, e_u2, h⟩ := olet h
  refine cPI dd33_119 rfl rfl rfl rfl rfl rfl e_u2 ?_
  obtain rfl := ore0 h
  exact zGo_ret dd33_122 rfl rfl
def f33_66 (n : Nat) (x1 : Int32) (s : zσ) : Option zσ :=
    yb0 (f37 n (41 : Int32) s) fun u1 =>
    zlet (sI u1 1004 8 (1 : Int32)) fun u2 =>
    yb1 (f40 n 20 (1 : Int32) x1 u2) fun v4 u3 =>
    if x1 = (-1 : Int32) then
    f33_112 n u3
    else zrd 9 (u3.2.2 1004 4) fun a5 =>
    if zin? x1 6 = true then
    zlet (sI u3 (a5 + 18) (nx x1) (u3.1 1004 3)) fun u6 =>
    zrd 9 (u6.2.2 1004 4) fun a7 =>
    if zin? x1 6 = true then
    zlet (sI u6 (a7 + 17) (nx x1) v4) fun u8 =>
    f33_112 n u8
    else none
    else none
set_option maxRecDepth 20000 in
theorem f33_66_ok {n d : Nat} {x1 : Int32} {s : zσ} {s2 : zσ} (hd : 223 ≤ d) (h : f33_66 n x1 s = some s2) {w : zσ} {fz : Bool} {L : Nat} {xs : Nat → Int32} : zGo (zX fz L xs) d q_33 (66, [(0, .ref 1004), (1, .int x1)], [], zmk s w, 0, 0) (none, zmk s2 w, 0, 0) := by
  obtain ⟨d, rfl⟩ : ∃ d0, d = d0 + 1 := ⟨d - 1, by omega⟩
  unfold f33_66 at h
  refine zGo_s (pc' := 67) (st' := [.ref 1004]) dd33_66 rfl ?_
  refine zGo_s (pc' := 69) (st' := [.int (41 : Int32), .ref 1004]) dd33_67 rfl ?_
  obtain ⟨u1, hq, h⟩ := obn0 h
  refine zCV0 (As := [.int (41 : Int32)]) (rest := []) (b := 1004) (q' := q_37) dd33_69 rfl rfl (rcv_c rfl rfl (by decide)) rfl rfl rfl (f37_ok (d := d) (by omega)  hq) ?_
  refine zGo_s (pc' := 73) (st' := [.ref 1004]) dd33_72 rfl ?_
  refine zGo_s (pc' := 74) (st' := [.int (1 : Int32), .ref 1004]) dd33_73 rfl ?_
  obtain ⟨u2, e_u2, h⟩ := olet h
  refine cPI dd33_74 rfl rfl rfl rfl rfl rfl e_u2 ?_
  refine zGo_s (pc' := 78) (st' := [.ref 1004]) dd33_77 rfl ?_
  refine zGo_s (pc' := 79) (st' := [.int (1 : Int32), .ref 1004]) dd33_78 rfl ?_
  refine zGo_s (pc' := 80) (st' := [.int x1, .int (1 : Int32), .ref 1004]) dd33_79 rfl ?_
  obtain ⟨v4, u3, hq, h⟩ := obnd h
  refine zCV1 (As := [.int (1 : Int32), .int x1]) (rest := []) (b := 1004) (q' := q_40) dd33_80 rfl rfl (rcv_c rfl rfl (by decide)) rfl rfl rfl (f40_okk20 _ _ _ _ _  hq (by omega)) ?_
  refine zGo_s (pc' := 84) (st' := []) (lv' := [(3, .int v4), (0, .ref 1004), (1, .int x1)]) dd33_83 rfl ?_
  refine zGo_s (pc' := 85) (st' := [.int x1]) dd33_84 rfl ?_
  refine zGo_s (pc' := 86) (st' := [.int (-1 : Int32), .int x1]) dd33_85 rfl ?_
  rcases oite h with ⟨hc, h⟩ | ⟨hc, h⟩
  · refine zIT dd33_86 rfl (kEqT hc) ?_
    exact zGo_lv (lv := [(0, .ref 1004)]) ⟨by simp, by simp, by simp⟩ (f33_112_ok hd h)
  · refine zIF dd33_86 (kEqF hc) ?_
    refine zGo_s (pc' := 90) (st' := [.ref 1004]) dd33_89 rfl ?_
    obtain ⟨a5, e_a5, c_a5, h⟩ := ordd h
    refine cGR dd33_90 rfl rfl rfl rfl e_a5 ?_
    refine cGF (e := (a5 + 18)) dd33_93 rfl (ck9_s c_a5).1 (ck9_s c_a5).2 rfl (cf9_8 c_a5).1 ?_
    refine zGo_s (pc' := 97) (st' := [.int x1, .ref (a5 + 18)]) dd33_96 rfl ?_
    refine zGo_s (pc' := 98) (st' := [.ref 1004, .int x1, .ref (a5 + 18)]) dd33_97 rfl ?_
    refine cGI dd33_98 rfl rfl rfl rfl ?_
    obtain ⟨hi, h⟩ := ochk h
    obtain ⟨u6, e_u6, h⟩ := olet h
    refine cIS dd33_101 (cf9_8 c_a5).2.1 (cf9_8 c_a5).2.2 hi e_u6 ?_
    refine zGo_s (pc' := 103) (st' := [.ref 1004]) dd33_102 rfl ?_
    obtain ⟨a7, e_a7, c_a7, h⟩ := ordd h
    refine cGR dd33_103 rfl rfl rfl rfl e_a7 ?_
    refine cGF (e := (a7 + 17)) dd33_106 rfl (ck9_s c_a7).1 (ck9_s c_a7).2 rfl (cf9_7 c_a7).1 ?_
    refine zGo_s (pc' := 110) (st' := [.int x1, .ref (a7 + 17)]) dd33_109 rfl ?_
    refine zGo_s (pc' := 111) (st' := [.int v4, .int x1, .ref (a7 + 17)]) dd33_110 rfl ?_
    obtain ⟨hi, h⟩ := ochk h
    obtain ⟨u8, e_u8, h⟩ := olet h
    refine cIS dd33_111 (cf9_7 c_a7).2.1 (cf9_7 c_a7).2.2 hi e_u8 ?_
    exact zGo_lv (lv := [(0, .ref 1004)]) ⟨by simp, by simp, by simp⟩ (f33_112_ok hd h)
def f33_40 (n : Nat) : Nat → Int32 → Int32 → Int32 → zσ → Option zσ
  | 0, _, _, _, _ => none
  | j + 1, x1, x2, x3, s =>
    if x2 = (0 : Int32) then
    f33_66 n x1 s
    else if (3 : Int32) < x3 then
    f33_66 n x1 s
    else yb0 (f38 n s) fun u1 =>
    yb1 (f39 n (44 : Int32) u1) fun v3 u2 =>
    f33_40 n j x1 v3 (x3 + (1 : Int32)) u2
set_option maxRecDepth 20000 in
theorem f33_40_ok {n d : Nat} (hd : 223 ≤ d) : ∀ (j : Nat) (x1 : Int32) (x2 : Int32) (x3 : Int32) (s : zσ) (s2 : zσ), f33_40 n j x1 x2 x3 s = some s2 → ∀ {w : zσ} {fz : Bool} {L : Nat} {xs : Nat → Int32}, zGo (zX fz L xs) d q_33 (40, [(0, .ref 1004), (1, .int x1), (2, .int x2), (3, .int x3)], [], zmk s w, 0, 0) (none, zmk s2 w, 0, 0) := by
  obtain ⟨d, rfl⟩ : ∃ d0, d = d0 + 1 := ⟨d - 1, by omega⟩
  intro j
  induction j with
  | zero => intro x1 x2 x3 s s2 h; cases h
  | succ j ih =>
    intro x1 x2 x3 s s2 h w fz L xs
    rw [f33_40] at h
    refine zGo_s (pc' := 41) (st' := [.int x2]) dd33_40 rfl ?_
    rcases oite h with ⟨hc, h⟩ | ⟨hc, h⟩
    · refine zUT dd33_41 rfl (kEqT hc) ?_
      exact zGo_lv (lv := [(0, .ref 1004), (1, .int x1)]) ⟨by simp, by simp, by simp⟩ (f33_66_ok hd h)
    · refine zUF dd33_41 (kEqF hc) ?_
      refine zGo_s (pc' := 45) (st' := [.int x3]) dd33_44 rfl ?_
      refine zGo_s (pc' := 46) (st' := [.int (3 : Int32), .int x3]) dd33_45 rfl ?_
      rcases oite h with ⟨hc, h⟩ | ⟨hc, h⟩
      · refine zIT dd33_46 rfl (kGtT hc) ?_
        exact zGo_lv (lv := [(0, .ref 1004), (1, .int x1)]) ⟨by simp, by simp, by simp⟩ (f33_66_ok hd h)
      · refine zIF dd33_46 (kGtF hc) ?_
        refine zGo_s (pc' := 50) (st' := [.ref 1004]) dd33_49 rfl ?_
        obtain ⟨u1, hq, h⟩ := obn0 h
        refine zCV0 (As := []) (rest := []) (b := 1004) (q' := q_38) dd33_50 rfl rfl (rcv_c rfl rfl (by decide)) rfl rfl rfl (f38_ok (d := d) (by omega)  hq) ?_
        refine zGo_s (pc' := 54) (st' := [.ref 1004]) dd33_53 rfl ?_
        refine zGo_s (pc' := 56) (st' := [.int (44 : Int32), .ref 1004]) dd33_54 rfl ?_
        obtain ⟨v3, u2, hq, h⟩ := obnd h
        refine zCV1 (As := [.int (44 : Int32)]) (rest := []) (b := 1004) (q' := q_39) dd33_56 rfl rfl (rcv_c rfl rfl (by decide)) rfl rfl rfl (f39_ok (d := d) (by omega)  hq) ?_
        refine zGo_s (pc' := 60) (st' := []) (lv' := [(2, .int v3), (0, .ref 1004), (1, .int x1), (3, .int x3)]) dd33_59 rfl ?_
        refine zGo_s (pc' := 63) (st' := []) (lv' := [(3, .int (x3 + (1 : Int32))), (2, .int v3), (0, .ref 1004), (1, .int x1)]) dd33_60 rfl ?_
        refine zGo_s (pc' := 40) (st' := []) dd33_63 rfl ?_
        exact zGo_lv (lv := [(0, .ref 1004), (1, .int x1), (2, .int v3), (3, .int (x3 + (1 : Int32)))]) ⟨by simp, by simp, by simp⟩ (ih _ _ _ _ _ h)
def f33_37 (n : Nat) (x1 : Int32) (y0 : Int32) (s : zσ) : Option zσ :=
    f33_40 n n x1 y0 (0 : Int32) s
set_option maxRecDepth 20000 in
theorem f33_37_ok {n d : Nat} {x1 : Int32} {y0 : Int32} {s : zσ} {s2 : zσ} (hd : 223 ≤ d) (h : f33_37 n x1 y0 s = some s2) {w : zσ} {fz : Bool} {L : Nat} {xs : Nat → Int32} : zGo (zX fz L xs) d q_33 (37, [(0, .ref 1004), (1, .int x1)], [.int y0], zmk s w, 0, 0) (none, zmk s2 w, 0, 0) := by
  obtain ⟨d, rfl⟩ : ∃ d0, d = d0 + 1 := ⟨d - 1, by omega⟩
  unfold f33_37 at h
  refine zGo_s (pc' := 38) (st' := []) (lv' := [(2, .int y0), (0, .ref 1004), (1, .int x1)]) dd33_37 rfl ?_
  refine zGo_s (pc' := 39) (st' := [.int (0 : Int32)]) dd33_38 rfl ?_
  refine zGo_s (pc' := 40) (st' := []) (lv' := [(3, .int (0 : Int32)), (2, .int y0), (0, .ref 1004), (1, .int x1)]) dd33_39 rfl ?_
  exact zGo_lv (lv := [(0, .ref 1004), (1, .int x1), (2, .int y0), (3, .int (0 : Int32))]) ⟨by simp, by simp, by simp⟩ (f33_40_ok hd _ _ _ _ _ _ h)
def f33 (n : Nat) (s : zσ) : Option zσ :=
    yb0 (f26 n s) fun u1 =>
    yb1 (f34 n (7 : Int32) u1) fun v3 u2 =>
    yb0 (f37 n (40 : Int32) u2) fun u4 =>
    if (u4.1 1001 4) = (41 : Int32) then
    f33_37 n v3 (0 : Int32) u4
    else f33_37 n v3 (1 : Int32) u4
set_option maxRecDepth 20000 in
theorem f33_ok {n d : Nat} {s : zσ} {s2 : zσ} (hd : 223 ≤ d) (h : f33 n s = some s2) {w : zσ} {fz : Bool} {L : Nat} {xs : Nat → Int32} : zGo (zX fz L xs) d q_33 (0, [(0, .ref 1004)], [], zmk s w, 0, 0) (none, zmk s2 w, 0, 0) := by
  obtain ⟨d, rfl⟩ : ∃ d0, d = d0 + 1 := ⟨d - 1, by omega⟩
  unfold f33 at h
  refine zGo_s (pc' := 1) (st' := [.ref 1004]) dd33_0 rfl ?_
  refine cGF (e := 1001) dd33_1 rfl rfl rfl rfl rfl ?_
  obtain ⟨u1, hq, h⟩ := obn0 h
  refine zCV0 (As := []) (rest := []) (b := 1001) (q' := q_26) dd33_4 rfl rfl (rcv_c rfl rfl (by decide)) rfl rfl rfl (f26_ok (d := d) (by omega)  hq) ?_
  refine zGo_s (pc' := 8) (st' := [.ref 1004]) dd33_7 rfl ?_
  refine zGo_s (pc' := 10) (st' := [.int (7 : Int32), .ref 1004]) dd33_8 rfl ?_
  obtain ⟨v3, u2, hq, h⟩ := obnd h
  refine zCV1 (As := [.int (7 : Int32)]) (rest := []) (b := 1004) (q' := q_34) dd33_10 rfl rfl (rcv_c rfl rfl (by decide)) rfl rfl rfl (f34_ok (d := d) (by omega)  hq) ?_
  refine zGo_s (pc' := 14) (st' := []) (lv' := [(1, .int v3), (0, .ref 1004)]) dd33_13 rfl ?_
  refine zGo_s (pc' := 15) (st' := [.ref 1004]) dd33_14 rfl ?_
  refine zGo_s (pc' := 17) (st' := [.int (40 : Int32), .ref 1004]) dd33_15 rfl ?_
  obtain ⟨u4, hq, h⟩ := obn0 h
  refine zCV0 (As := [.int (40 : Int32)]) (rest := []) (b := 1004) (q' := q_37) dd33_17 rfl rfl (rcv_c rfl rfl (by decide)) rfl rfl rfl (f37_ok (d := d) (by omega)  hq) ?_
  refine zGo_s (pc' := 21) (st' := [.ref 1004]) dd33_20 rfl ?_
  refine cGF (e := 1001) dd33_21 rfl rfl rfl rfl rfl ?_
  refine cGI dd33_24 rfl rfl rfl rfl ?_
  refine zGo_s (pc' := 29) (st' := [.int (41 : Int32), .int (u4.1 1001 4)]) dd33_27 rfl ?_
  rcases oite h with ⟨hc, h⟩ | ⟨hc, h⟩
  · refine zIT dd33_29 rfl (kEqT hc) ?_
    refine zGo_s (pc' := 37) (st' := [.int (0 : Int32)]) dd33_36 rfl ?_
    exact zGo_lv (lv := [(0, .ref 1004), (1, .int v3)]) ⟨by simp, by simp, by simp⟩ (f33_37_ok hd h)
  · refine zIF dd33_29 (kEqF hc) ?_
    refine zGo_s (pc' := 33) (st' := [.int (1 : Int32)]) dd33_32 rfl ?_
    refine zGo_s (pc' := 37) (st' := [.int (1 : Int32)]) dd33_33 rfl ?_
    exact zGo_lv (lv := [(0, .ref 1004), (1, .int v3)]) ⟨by simp, by simp, by simp⟩ (f33_37_ok hd h)
/-! PH$Reader.numeral(II)I -/
theorem dd67_0 : decode cX4_numeral 0 = .ok (.aload_n 0, 1) := by decide +kernel
theorem dd67_1 : decode cX4_numeral 1 = .ok (.getfield 54, 3) := by decide +kernel
theorem dd67_4 : decode cX4_numeral 4 = .ok (.getfield 68, 3) := by decide +kernel
theorem dd67_7 : decode cX4_numeral 7 = .ok (.iconst 2, 1) := by decide +kernel
theorem dd67_8 : decode cX4_numeral 8 = .ok (.if_icmp .eq 9, 3) := by decide +kernel
theorem dd67_11 : decode cX4_numeral 11 = .ok (.aload_n 0, 1) := by decide +kernel
theorem dd67_12 : decode cX4_numeral 12 = .ok (.iconst 2, 1) := by decide +kernel
theorem dd67_13 : decode cX4_numeral 13 = .ok (.invokevirtual 73, 3) := by decide +kernel
theorem dd67_16 : decode cX4_numeral 16 = .ok (.ireturn, 1) := by decide +kernel
theorem dd67_17 : decode cX4_numeral 17 = .ok (.aload_n 0, 1) := by decide +kernel
theorem dd67_18 : decode cX4_numeral 18 = .ok (.getfield 54, 3) := by decide +kernel
theorem dd67_21 : decode cX4_numeral 21 = .ok (.getfield 186, 3) := by decide +kernel
theorem dd67_24 : decode cX4_numeral 24 = .ok (.istore_n 3, 1) := by decide +kernel
theorem dd67_25 : decode cX4_numeral 25 = .ok (.iload_n 3, 1) := by decide +kernel
theorem dd67_26 : decode cX4_numeral 26 = .ok (.iload_n 1, 1) := by decide +kernel
theorem dd67_27 : decode cX4_numeral 27 = .ok (.if_icmp .lt 8, 3) := by decide +kernel
theorem dd67_30 : decode cX4_numeral 30 = .ok (.iload_n 3, 1) := by decide +kernel
theorem dd67_31 : decode cX4_numeral 31 = .ok (.iload_n 2, 1) := by decide +kernel
theorem dd67_32 : decode cX4_numeral 32 = .ok (.if_icmp .le 9, 3) := by decide +kernel
theorem dd67_35 : decode cX4_numeral 35 = .ok (.aload_n 0, 1) := by decide +kernel
theorem dd67_36 : decode cX4_numeral 36 = .ok (.iconst 5, 1) := by decide +kernel
theorem dd67_37 : decode cX4_numeral 37 = .ok (.invokevirtual 73, 3) := by decide +kernel
theorem dd67_40 : decode cX4_numeral 40 = .ok (.ireturn, 1) := by decide +kernel
theorem dd67_41 : decode cX4_numeral 41 = .ok (.aload_n 0, 1) := by decide +kernel
theorem dd67_42 : decode cX4_numeral 42 = .ok (.getfield 54, 3) := by decide +kernel
theorem dd67_45 : decode cX4_numeral 45 = .ok (.invokevirtual 104, 3) := by decide +kernel
theorem dd67_48 : decode cX4_numeral 48 = .ok (.iload_n 3, 1) := by decide +kernel
theorem dd67_49 : decode cX4_numeral 49 = .ok (.ireturn, 1) := by decide +kernel
def f67_35 (n : Nat) (s : zσ) : Option (Int32 × zσ) :=
    yb1 (f32 n (5 : Int32) s) fun v2 u1 =>
    some (v2, u1)
set_option maxRecDepth 20000 in
theorem f67_35_ok {n d : Nat} {s : zσ} {v : Int32} {s2 : zσ} (hd : 8 ≤ d) (h : f67_35 n s = some (v, s2)) {w : zσ} {fz : Bool} {L : Nat} {xs : Nat → Int32} : zGo (zX fz L xs) d q_67 (35, [(0, .ref 1004)], [], zmk s w, 0, 0) (some (.int v), zmk s2 w, 0, 0) := by
  obtain ⟨d, rfl⟩ : ∃ d0, d = d0 + 1 := ⟨d - 1, by omega⟩
  unfold f67_35 at h
  refine zGo_s (pc' := 36) (st' := [.ref 1004]) dd67_35 rfl ?_
  refine zGo_s (pc' := 37) (st' := [.int (5 : Int32), .ref 1004]) dd67_36 rfl ?_
  obtain ⟨v2, u1, hq, h⟩ := obnd h
  refine zCV1 (As := [.int (5 : Int32)]) (rest := []) (b := 1004) (q' := q_32) dd67_37 rfl rfl (rcv_c rfl rfl (by decide)) rfl rfl rfl (f32_ok (d := d) (by omega)  hq) ?_
  obtain ⟨rfl, rfl⟩ := oret h
  exact zGo_ret dd67_40 rfl rfl
def f67 (n : Nat) (x1 : Int32) (x2 : Int32) (s : zσ) : Option (Int32 × zσ) :=
    if (s.1 1001 4) = (2 : Int32) then
    zlet ((s.1 1001 6)) fun v1 =>
    if v1 < x1 then
    f67_35 n s
    else if x2 < v1 then
    f67_35 n s
    else yb0 (f26 n s) fun u2 =>
    some (v1, u2)
    else yb1 (f32 n (2 : Int32) s) fun v4 u3 =>
    some (v4, u3)
set_option maxRecDepth 20000 in
theorem f67_ok {n d : Nat} {x1 : Int32} {x2 : Int32} {s : zσ} {v : Int32} {s2 : zσ} (hd : 8 ≤ d) (h : f67 n x1 x2 s = some (v, s2)) {w : zσ} {fz : Bool} {L : Nat} {xs : Nat → Int32} : zGo (zX fz L xs) d q_67 (0, [(0, .ref 1004), (1, .int x1), (2, .int x2)], [], zmk s w, 0, 0) (some (.int v), zmk s2 w, 0, 0) := by
  obtain ⟨d, rfl⟩ : ∃ d0, d = d0 + 1 := ⟨d - 1, by omega⟩
  unfold f67 at h
  refine zGo_s (pc' := 1) (st' := [.ref 1004]) dd67_0 rfl ?_
  refine cGF (e := 1001) dd67_1 rfl rfl rfl rfl rfl ?_
  refine cGI dd67_4 rfl rfl rfl rfl ?_
  refine zGo_s (pc' := 8) (st' := [.int (2 : Int32), .int (s.1 1001 4)]) dd67_7 rfl ?_
  rcases oite h with ⟨hc, h⟩ | ⟨hc, h⟩
  · refine zIT dd67_8 rfl (kEqT hc) ?_
    refine zGo_s (pc' := 18) (st' := [.ref 1004]) dd67_17 rfl ?_
    refine cGF (e := 1001) dd67_18 rfl rfl rfl rfl rfl ?_
    refine cGI dd67_21 rfl rfl rfl rfl ?_
    obtain ⟨v1, e_v1, h⟩ := olet h
    refine zGo_is1 e_v1 dd67_24 (x' := (25, [(3, .int v1), (0, .ref 1004), (1, .int x1), (2, .int x2)], [], _, _, _)) rfl ?_
    refine zGo_s (pc' := 26) (st' := [.int v1]) dd67_25 rfl ?_
    refine zGo_s (pc' := 27) (st' := [.int x1, .int v1]) dd67_26 rfl ?_
    rcases oite h with ⟨hc, h⟩ | ⟨hc, h⟩
    · refine zIT dd67_27 rfl (kLtT hc) ?_
      exact zGo_lv (lv := [(0, .ref 1004)]) ⟨by simp, by simp, by simp⟩ (f67_35_ok hd h)
    · refine zIF dd67_27 (kLtF hc) ?_
      refine zGo_s (pc' := 31) (st' := [.int v1]) dd67_30 rfl ?_
      refine zGo_s (pc' := 32) (st' := [.int x2, .int v1]) dd67_31 rfl ?_
      rcases oite h with ⟨hc, h⟩ | ⟨hc, h⟩
      · refine zIF dd67_32 (kLeF hc) ?_
        exact zGo_lv (lv := [(0, .ref 1004)]) ⟨by simp, by simp, by simp⟩ (f67_35_ok hd h)
      · refine zIT dd67_32 rfl (kLeT hc) ?_
        refine zGo_s (pc' := 42) (st' := [.ref 1004]) dd67_41 rfl ?_
        refine cGF (e := 1001) dd67_42 rfl rfl rfl rfl rfl ?_
        obtain ⟨u2, hq, h⟩ := obn0 h
        refine zCV0 (As := []) (rest := []) (b := 1001) (q' := q_26) dd67_45 rfl rfl (rcv_c rfl rfl (by decide)) rfl rfl rfl (f26_ok (d := d) (by omega)  hq) ?_
        refine zGo_s (pc' := 49) (st' := [.int v1]) dd67_48 rfl ?_
        obtain ⟨rfl, rfl⟩ := oret h
        exact zGo_ret dd67_49 rfl rfl
  · refine zIF dd67_8 (kEqF hc) ?_
    refine zGo_s (pc' := 12) (st' := [.ref 1004]) dd67_11 rfl ?_
    refine zGo_s (pc' := 13) (st' := [.int (2 : Int32), .ref 1004]) dd67_12 rfl ?_
    obtain ⟨v4, u3, hq, h⟩ := obnd h
    refine zCV1 (As := [.int (2 : Int32)]) (rest := []) (b := 1004) (q' := q_32) dd67_13 rfl rfl (rcv_c rfl rfl (by decide)) rfl rfl rfl (f32_ok (d := d) (by omega)  hq) ?_
    obtain ⟨rfl, rfl⟩ := oret h
    exact zGo_ret dd67_16 rfl rfl
/-! PH$Reader.readTask()V -/
theorem dd66_0 : decode cX4_readTask 0 = .ok (.aload_n 0, 1) := by decide +kernel
theorem dd66_1 : decode cX4_readTask 1 = .ok (.getfield 54, 3) := by decide +kernel
theorem dd66_4 : decode cX4_readTask 4 = .ok (.invokevirtual 104, 3) := by decide +kernel
theorem dd66_7 : decode cX4_readTask 7 = .ok (.aload_n 0, 1) := by decide +kernel
theorem dd66_8 : decode cX4_readTask 8 = .ok (.bipush 8, 2) := by decide +kernel
theorem dd66_10 : decode cX4_readTask 10 = .ok (.invokevirtual 107, 3) := by decide +kernel
theorem dd66_13 : decode cX4_readTask 13 = .ok (.istore_n 1, 1) := by decide +kernel
theorem dd66_14 : decode cX4_readTask 14 = .ok (.aload_n 0, 1) := by decide +kernel
theorem dd66_15 : decode cX4_readTask 15 = .ok (.iconst 1, 1) := by decide +kernel
theorem dd66_16 : decode cX4_readTask 16 = .ok (.bipush 9, 2) := by decide +kernel
theorem dd66_18 : decode cX4_readTask 18 = .ok (.invokevirtual 115, 3) := by decide +kernel
theorem dd66_21 : decode cX4_readTask 21 = .ok (.istore_n 2, 1) := by decide +kernel
theorem dd66_22 : decode cX4_readTask 22 = .ok (.aload_n 0, 1) := by decide +kernel
theorem dd66_23 : decode cX4_readTask 23 = .ok (.sipush 137, 3) := by decide +kernel
theorem dd66_26 : decode cX4_readTask 26 = .ok (.invokevirtual 110, 3) := by decide +kernel
theorem dd66_29 : decode cX4_readTask 29 = .ok (.istore_n 3, 1) := by decide +kernel
theorem dd66_30 : decode cX4_readTask 30 = .ok (.aload_n 0, 1) := by decide +kernel
theorem dd66_31 : decode cX4_readTask 31 = .ok (.iconst 0, 1) := by decide +kernel
theorem dd66_32 : decode cX4_readTask 32 = .ok (.iload_n 1, 1) := by decide +kernel
theorem dd66_33 : decode cX4_readTask 33 = .ok (.invokevirtual 128, 3) := by decide +kernel
theorem dd66_36 : decode cX4_readTask 36 = .ok (.istore 4, 2) := by decide +kernel
theorem dd66_38 : decode cX4_readTask 38 = .ok (.iload_n 1, 1) := by decide +kernel
theorem dd66_39 : decode cX4_readTask 39 = .ok (.iconst (-1), 1) := by decide +kernel
theorem dd66_40 : decode cX4_readTask 40 = .ok (.if_icmp .eq 34, 3) := by decide +kernel
theorem dd66_43 : decode cX4_readTask 43 = .ok (.aload_n 0, 1) := by decide +kernel
theorem dd66_44 : decode cX4_readTask 44 = .ok (.getfield 23, 3) := by decide +kernel
theorem dd66_47 : decode cX4_readTask 47 = .ok (.getfield 131, 3) := by decide +kernel
theorem dd66_50 : decode cX4_readTask 50 = .ok (.iload_n 1, 1) := by decide +kernel
theorem dd66_51 : decode cX4_readTask 51 = .ok (.iload_n 2, 1) := by decide +kernel
theorem dd66_52 : decode cX4_readTask 52 = .ok (.iastore, 1) := by decide +kernel
theorem dd66_53 : decode cX4_readTask 53 = .ok (.aload_n 0, 1) := by decide +kernel
theorem dd66_54 : decode cX4_readTask 54 = .ok (.getfield 23, 3) := by decide +kernel
theorem dd66_57 : decode cX4_readTask 57 = .ok (.getfield 134, 3) := by decide +kernel
theorem dd66_60 : decode cX4_readTask 60 = .ok (.iload_n 1, 1) := by decide +kernel
theorem dd66_61 : decode cX4_readTask 61 = .ok (.iload_n 3, 1) := by decide +kernel
theorem dd66_62 : decode cX4_readTask 62 = .ok (.bastore, 1) := by decide +kernel
theorem dd66_63 : decode cX4_readTask 63 = .ok (.aload_n 0, 1) := by decide +kernel
theorem dd66_64 : decode cX4_readTask 64 = .ok (.getfield 23, 3) := by decide +kernel
theorem dd66_67 : decode cX4_readTask 67 = .ok (.getfield 138, 3) := by decide +kernel
theorem dd66_70 : decode cX4_readTask 70 = .ok (.iload_n 1, 1) := by decide +kernel
theorem dd66_71 : decode cX4_readTask 71 = .ok (.iload 4, 2) := by decide +kernel
theorem dd66_73 : decode cX4_readTask 73 = .ok (.iastore, 1) := by decide +kernel
theorem dd66_74 : decode cX4_readTask 74 = .ok (.return_, 1) := by decide +kernel
def f66 (n : Nat) (s : zσ) : Option zσ :=
    yb0 (f26 n s) fun u1 =>
    yb1 (f34 n (8 : Int32) u1) fun v3 u2 =>
    yb1 (f67 n (1 : Int32) (9 : Int32) u2) fun v5 u4 =>
    yb1 (f39 n (137 : Int32) u4) fun v7 u6 =>
    yb1 (f40 n 20 (0 : Int32) v3 u6) fun v9 u8 =>
    if v3 = (-1 : Int32) then
    some u8
    else zrd 9 (u8.2.2 1004 4) fun a10 =>
    if zin? v3 8 = true then
    zlet (sI u8 (a10 + 14) (nx v3) v5) fun u11 =>
    zrd 9 (u11.2.2 1004 4) fun a12 =>
    if zin? v3 8 = true then
    zlet (sI u11 (a12 + 15) (nx v3) (vp_nar .boolean v7)) fun u13 =>
    zrd 9 (u13.2.2 1004 4) fun a14 =>
    if zin? v3 8 = true then
    zlet (sI u13 (a14 + 16) (nx v3) v9) fun u15 =>
    some u15
    else none
    else none
    else none
set_option maxRecDepth 20000 in
theorem f66_ok {n d : Nat} {s : zσ} {s2 : zσ} (hd : 223 ≤ d) (h : f66 n s = some s2) {w : zσ} {fz : Bool} {L : Nat} {xs : Nat → Int32} : zGo (zX fz L xs) d q_66 (0, [(0, .ref 1004)], [], zmk s w, 0, 0) (none, zmk s2 w, 0, 0) := by
  obtain ⟨d, rfl⟩ : ∃ d0, d = d0 + 1 := ⟨d - 1, by omega⟩
  unfold f66 at h
  refine zGo_s (pc' := 1) (st' := [.ref 1004]) dd66_0 rfl ?_
  refine cGF (e := 1001) dd66_1 rfl rfl rfl rfl rfl ?_
  obtain ⟨u1, hq, h⟩ := obn0 h
  refine zCV0 (As := []) (rest := []) (b := 1001) (q' := q_26) dd66_4 rfl rfl (rcv_c rfl rfl (by decide)) rfl rfl rfl (f26_ok (d := d) (by omega)  hq) ?_
  refine zGo_s (pc' := 8) (st' := [.ref 1004]) dd66_7 rfl ?_
  refine zGo_s (pc' := 10) (st' := [.int (8 : Int32), .ref 1004]) dd66_8 rfl ?_
  obtain ⟨v3, u2, hq, h⟩ := obnd h
  refine zCV1 (As := [.int (8 : Int32)]) (rest := []) (b := 1004) (q' := q_34) dd66_10 rfl rfl (rcv_c rfl rfl (by decide)) rfl rfl rfl (f34_ok (d := d) (by omega)  hq) ?_
  refine zGo_s (pc' := 14) (st' := []) (lv' := [(1, .int v3), (0, .ref 1004)]) dd66_13 rfl ?_
  refine zGo_s (pc' := 15) (st' := [.ref 1004]) dd66_14 rfl ?_
  refine zGo_s (pc' := 16) (st' := [.int (1 : Int32), .ref 1004]) dd66_15 rfl ?_
  refine zGo_s (pc' := 18) (st' := [.int (9 : Int32), .int (1 : Int32), .ref 1004]) dd66_16 rfl ?_
  obtain ⟨v5, u4, hq, h⟩ := obnd h
  refine zCV1 (As := [.int (1 : Int32), .int (9 : Int32)]) (rest := []) (b := 1004) (q' := q_67) dd66_18 rfl rfl (rcv_c rfl rfl (by decide)) rfl rfl rfl (f67_ok (d := d) (by omega)  hq) ?_
  refine zGo_s (pc' := 22) (st' := []) (lv' := [(2, .int v5), (1, .int v3), (0, .ref 1004)]) dd66_21 rfl ?_
  refine zGo_s (pc' := 23) (st' := [.ref 1004]) dd66_22 rfl ?_
  refine zGo_s (pc' := 26) (st' := [.int (137 : Int32), .ref 1004]) dd66_23 rfl ?_
  obtain ⟨v7, u6, hq, h⟩ := obnd h
  refine zCV1 (As := [.int (137 : Int32)]) (rest := []) (b := 1004) (q' := q_39) dd66_26 rfl rfl (rcv_c rfl rfl (by decide)) rfl rfl rfl (f39_ok (d := d) (by omega)  hq) ?_
  refine zGo_s (pc' := 30) (st' := []) (lv' := [(3, .int v7), (2, .int v5), (1, .int v3), (0, .ref 1004)]) dd66_29 rfl ?_
  refine zGo_s (pc' := 31) (st' := [.ref 1004]) dd66_30 rfl ?_
  refine zGo_s (pc' := 32) (st' := [.int (0 : Int32), .ref 1004]) dd66_31 rfl ?_
  refine zGo_s (pc' := 33) (st' := [.int v3, .int (0 : Int32), .ref 1004]) dd66_32 rfl ?_
  obtain ⟨v9, u8, hq, h⟩ := obnd h
  refine zCV1 (As := [.int (0 : Int32), .int v3]) (rest := []) (b := 1004) (q' := q_40) dd66_33 rfl rfl (rcv_c rfl rfl (by decide)) rfl rfl rfl (f40_okk20 _ _ _ _ _  hq (by omega)) ?_
  refine zGo_s (pc' := 38) (st' := []) (lv' := [(4, .int v9), (3, .int v7), (2, .int v5), (1, .int v3), (0, .ref 1004)]) dd66_36 rfl ?_
  refine zGo_s (pc' := 39) (st' := [.int v3]) dd66_38 rfl ?_
  refine zGo_s (pc' := 40) (st' := [.int (-1 : Int32), .int v3]) dd66_39 rfl ?_
  rcases oite h with ⟨hc, h⟩ | ⟨hc, h⟩
  · refine zIT dd66_40 rfl (kEqT hc) ?_
    obtain rfl := ore0 h
    exact zGo_ret dd66_74 rfl rfl
  · refine zIF dd66_40 (kEqF hc) ?_
    refine zGo_s (pc' := 44) (st' := [.ref 1004]) dd66_43 rfl ?_
    obtain ⟨a10, e_a10, c_a10, h⟩ := ordd h
    refine cGR dd66_44 rfl rfl rfl rfl e_a10 ?_
    refine cGF (e := (a10 + 14)) dd66_47 rfl (ck9_s c_a10).1 (ck9_s c_a10).2 rfl (cf9_4 c_a10).1 ?_
    refine zGo_s (pc' := 51) (st' := [.int v3, .ref (a10 + 14)]) dd66_50 rfl ?_
    refine zGo_s (pc' := 52) (st' := [.int v5, .int v3, .ref (a10 + 14)]) dd66_51 rfl ?_
    obtain ⟨hi, h⟩ := ochk h
    obtain ⟨u11, e_u11, h⟩ := olet h
    refine cIS dd66_52 (cf9_4 c_a10).2.1 (cf9_4 c_a10).2.2 hi e_u11 ?_
    refine zGo_s (pc' := 54) (st' := [.ref 1004]) dd66_53 rfl ?_
    obtain ⟨a12, e_a12, c_a12, h⟩ := ordd h
    refine cGR dd66_54 rfl rfl rfl rfl e_a12 ?_
    refine cGF (e := (a12 + 15)) dd66_57 rfl (ck9_s c_a12).1 (ck9_s c_a12).2 rfl (cf9_5 c_a12).1 ?_
    refine zGo_s (pc' := 61) (st' := [.int v3, .ref (a12 + 15)]) dd66_60 rfl ?_
    refine zGo_s (pc' := 62) (st' := [.int v7, .int v3, .ref (a12 + 15)]) dd66_61 rfl ?_
    obtain ⟨hi, h⟩ := ochk h
    obtain ⟨u13, e_u13, h⟩ := olet h
    refine cBS dd66_62 (cf9_5 c_a12).2.1 (cf9_5 c_a12).2.2 rfl hi e_u13 ?_
    refine zGo_s (pc' := 64) (st' := [.ref 1004]) dd66_63 rfl ?_
    obtain ⟨a14, e_a14, c_a14, h⟩ := ordd h
    refine cGR dd66_64 rfl rfl rfl rfl e_a14 ?_
    refine cGF (e := (a14 + 16)) dd66_67 rfl (ck9_s c_a14).1 (ck9_s c_a14).2 rfl (cf9_6 c_a14).1 ?_
    refine zGo_s (pc' := 71) (st' := [.int v3, .ref (a14 + 16)]) dd66_70 rfl ?_
    refine zGo_s (pc' := 73) (st' := [.int v9, .int v3, .ref (a14 + 16)]) dd66_71 rfl ?_
    obtain ⟨hi, h⟩ := ochk h
    obtain ⟨u15, e_u15, h⟩ := olet h
    refine cIS dd66_73 (cf9_6 c_a14).2.1 (cf9_6 c_a14).2.2 hi e_u15 ?_
    obtain rfl := ore0 h
    exact zGo_ret dd66_74 rfl rfl
/-! PH$Reader.readThing(I)V -/
theorem dd68_0 : decode cX4_readThing 0 = .ok (.aload_n 0, 1) := by decide +kernel
theorem dd68_1 : decode cX4_readThing 1 = .ok (.getfield 54, 3) := by decide +kernel
theorem dd68_4 : decode cX4_readThing 4 = .ok (.invokevirtual 104, 3) := by decide +kernel
theorem dd68_7 : decode cX4_readThing 7 = .ok (.aload_n 0, 1) := by decide +kernel
theorem dd68_8 : decode cX4_readThing 8 = .ok (.iload_n 1, 1) := by decide +kernel
theorem dd68_9 : decode cX4_readThing 9 = .ok (.invokevirtual 107, 3) := by decide +kernel
theorem dd68_12 : decode cX4_readThing 12 = .ok (.istore_n 2, 1) := by decide +kernel
theorem dd68_13 : decode cX4_readThing 13 = .ok (.iload_n 1, 1) := by decide +kernel
theorem dd68_14 : decode cX4_readThing 14 = .ok (.ifCond .ne 77, 3) := by decide +kernel
theorem dd68_17 : decode cX4_readThing 17 = .ok (.aload_n 0, 1) := by decide +kernel
theorem dd68_18 : decode cX4_readThing 18 = .ok (.bipush 61, 2) := by decide +kernel
theorem dd68_20 : decode cX4_readThing 20 = .ok (.invokevirtual 110, 3) := by decide +kernel
theorem dd68_23 : decode cX4_readThing 23 = .ok (.istore_n 3, 1) := by decide +kernel
theorem dd68_24 : decode cX4_readThing 24 = .ok (.iload_n 3, 1) := by decide +kernel
theorem dd68_25 : decode cX4_readThing 25 = .ok (.ifCond .eq 16, 3) := by decide +kernel
theorem dd68_28 : decode cX4_readThing 28 = .ok (.aload_n 0, 1) := by decide +kernel
theorem dd68_29 : decode cX4_readThing 29 = .ok (.bipush 45, 2) := by decide +kernel
theorem dd68_31 : decode cX4_readThing 31 = .ok (.invokevirtual 110, 3) := by decide +kernel
theorem dd68_34 : decode cX4_readThing 34 = .ok (.ifCond .eq 7, 3) := by decide +kernel
theorem dd68_37 : decode cX4_readThing 37 = .ok (.iconst 1, 1) := by decide +kernel
theorem dd68_38 : decode cX4_readThing 38 = .ok (.goto 4, 3) := by decide +kernel
theorem dd68_41 : decode cX4_readThing 41 = .ok (.iconst 0, 1) := by decide +kernel
theorem dd68_42 : decode cX4_readThing 42 = .ok (.istore 4, 2) := by decide +kernel
theorem dd68_44 : decode cX4_readThing 44 = .ok (.iload_n 3, 1) := by decide +kernel
theorem dd68_45 : decode cX4_readThing 45 = .ok (.ifCond .eq 13, 3) := by decide +kernel
theorem dd68_48 : decode cX4_readThing 48 = .ok (.aload_n 0, 1) := by decide +kernel
theorem dd68_49 : decode cX4_readThing 49 = .ok (.iconst 0, 1) := by decide +kernel
theorem dd68_50 : decode cX4_readThing 50 = .ok (.ldc 114, 2) := by decide +kernel
theorem dd68_52 : decode cX4_readThing 52 = .ok (.invokevirtual 115, 3) := by decide +kernel
theorem dd68_55 : decode cX4_readThing 55 = .ok (.goto 4, 3) := by decide +kernel
theorem dd68_58 : decode cX4_readThing 58 = .ok (.iconst 0, 1) := by decide +kernel
theorem dd68_59 : decode cX4_readThing 59 = .ok (.istore 5, 2) := by decide +kernel
theorem dd68_61 : decode cX4_readThing 61 = .ok (.iload_n 2, 1) := by decide +kernel
theorem dd68_62 : decode cX4_readThing 62 = .ok (.iconst (-1), 1) := by decide +kernel
theorem dd68_63 : decode cX4_readThing 63 = .ok (.if_icmp .eq 25, 3) := by decide +kernel
theorem dd68_66 : decode cX4_readThing 66 = .ok (.aload_n 0, 1) := by decide +kernel
theorem dd68_67 : decode cX4_readThing 67 = .ok (.getfield 23, 3) := by decide +kernel
theorem dd68_70 : decode cX4_readThing 70 = .ok (.getfield 119, 3) := by decide +kernel
theorem dd68_73 : decode cX4_readThing 73 = .ok (.iload_n 2, 1) := by decide +kernel
theorem dd68_74 : decode cX4_readThing 74 = .ok (.iload 4, 2) := by decide +kernel
theorem dd68_76 : decode cX4_readThing 76 = .ok (.ifCond .eq 9, 3) := by decide +kernel
theorem dd68_79 : decode cX4_readThing 79 = .ok (.iload 5, 2) := by decide +kernel
theorem dd68_81 : decode cX4_readThing 81 = .ok (.ineg, 1) := by decide +kernel
theorem dd68_82 : decode cX4_readThing 82 = .ok (.goto 5, 3) := by decide +kernel
theorem dd68_85 : decode cX4_readThing 85 = .ok (.iload 5, 2) := by decide +kernel
theorem dd68_87 : decode cX4_readThing 87 = .ok (.iastore, 1) := by decide +kernel
theorem dd68_88 : decode cX4_readThing 88 = .ok (.goto 31, 3) := by decide +kernel
theorem dd68_91 : decode cX4_readThing 91 = .ok (.iload_n 1, 1) := by decide +kernel
theorem dd68_92 : decode cX4_readThing 92 = .ok (.iconst 2, 1) := by decide +kernel
theorem dd68_93 : decode cX4_readThing 93 = .ok (.if_icmp .ne 26, 3) := by decide +kernel
theorem dd68_96 : decode cX4_readThing 96 = .ok (.aload_n 0, 1) := by decide +kernel
theorem dd68_97 : decode cX4_readThing 97 = .ok (.iconst 0, 1) := by decide +kernel
theorem dd68_98 : decode cX4_readThing 98 = .ok (.bipush 9, 2) := by decide +kernel
theorem dd68_100 : decode cX4_readThing 100 = .ok (.invokevirtual 115, 3) := by decide +kernel
theorem dd68_103 : decode cX4_readThing 103 = .ok (.istore_n 3, 1) := by decide +kernel
theorem dd68_104 : decode cX4_readThing 104 = .ok (.iload_n 2, 1) := by decide +kernel
theorem dd68_105 : decode cX4_readThing 105 = .ok (.iconst (-1), 1) := by decide +kernel
theorem dd68_106 : decode cX4_readThing 106 = .ok (.if_icmp .eq 13, 3) := by decide +kernel
theorem dd68_109 : decode cX4_readThing 109 = .ok (.aload_n 0, 1) := by decide +kernel
theorem dd68_110 : decode cX4_readThing 110 = .ok (.getfield 23, 3) := by decide +kernel
theorem dd68_113 : decode cX4_readThing 113 = .ok (.getfield 122, 3) := by decide +kernel
theorem dd68_116 : decode cX4_readThing 116 = .ok (.iload_n 2, 1) := by decide +kernel
theorem dd68_117 : decode cX4_readThing 117 = .ok (.iload_n 3, 1) := by decide +kernel
theorem dd68_118 : decode cX4_readThing 118 = .ok (.iastore, 1) := by decide +kernel
theorem dd68_119 : decode cX4_readThing 119 = .ok (.aload_n 0, 1) := by decide +kernel
theorem dd68_120 : decode cX4_readThing 120 = .ok (.bipush 59, 2) := by decide +kernel
theorem dd68_122 : decode cX4_readThing 122 = .ok (.invokevirtual 125, 3) := by decide +kernel
theorem dd68_125 : decode cX4_readThing 125 = .ok (.return_, 1) := by decide +kernel
def f68_119 (n : Nat) (s : zσ) : Option zσ :=
    yb0 (f37 n (59 : Int32) s) fun u1 =>
    some u1
set_option maxRecDepth 20000 in
theorem f68_119_ok {n d : Nat} {s : zσ} {s2 : zσ} (hd : 9 ≤ d) (h : f68_119 n s = some s2) {w : zσ} {fz : Bool} {L : Nat} {xs : Nat → Int32} : zGo (zX fz L xs) d q_68 (119, [(0, .ref 1004)], [], zmk s w, 0, 0) (none, zmk s2 w, 0, 0) := by
  obtain ⟨d, rfl⟩ : ∃ d0, d = d0 + 1 := ⟨d - 1, by omega⟩
  unfold f68_119 at h
  refine zGo_s (pc' := 120) (st' := [.ref 1004]) dd68_119 rfl ?_
  refine zGo_s (pc' := 122) (st' := [.int (59 : Int32), .ref 1004]) dd68_120 rfl ?_
  obtain ⟨u1, hq, h⟩ := obn0 h
  refine zCV0 (As := [.int (59 : Int32)]) (rest := []) (b := 1004) (q' := q_37) dd68_122 rfl rfl (rcv_c rfl rfl (by decide)) rfl rfl rfl (f37_ok (d := d) (by omega)  hq) ?_
  obtain rfl := ore0 h
  exact zGo_ret dd68_125 rfl rfl
def f68_88 (n : Nat) (s : zσ) : Option zσ :=
    f68_119 n s
set_option maxRecDepth 20000 in
theorem f68_88_ok {n d : Nat} {s : zσ} {s2 : zσ} (hd : 9 ≤ d) (h : f68_88 n s = some s2) {w : zσ} {fz : Bool} {L : Nat} {xs : Nat → Int32} : zGo (zX fz L xs) d q_68 (88, [(0, .ref 1004)], [], zmk s w, 0, 0) (none, zmk s2 w, 0, 0) := by
  obtain ⟨d, rfl⟩ : ∃ d0, d = d0 + 1 := ⟨d - 1, by omega⟩
  unfold f68_88 at h
  refine zGo_s (pc' := 119) (st' := []) dd68_88 rfl ?_
  exact f68_119_ok hd h
def f68_87 (n : Nat) (y0 : Int32) (y1 : Int32) (y2 : Nat) (s : zσ) : Option zσ :=
    if zin? y1 8 = true then
    zlet (sI s y2 (nx y1) y0) fun u1 =>
    f68_88 n u1
    else none
set_option maxRecDepth 20000 in
theorem f68_87_ok {n d : Nat} {y0 : Int32} {y1 : Int32} {y2 : Nat} {s : zσ} {s2 : zσ} (hd : 9 ≤ d) (hy2c : zcs y2 = true) (hy2s : zsh y2 = (1, 0, 8)) (h : f68_87 n y0 y1 y2 s = some s2) {w : zσ} {fz : Bool} {L : Nat} {xs : Nat → Int32} : zGo (zX fz L xs) d q_68 (87, [(0, .ref 1004)], [.int y0, .int y1, .ref y2], zmk s w, 0, 0) (none, zmk s2 w, 0, 0) := by
  obtain ⟨d, rfl⟩ : ∃ d0, d = d0 + 1 := ⟨d - 1, by omega⟩
  unfold f68_87 at h
  obtain ⟨hi, h⟩ := ochk h
  obtain ⟨u1, e_u1, h⟩ := olet h
  refine cIS dd68_87 hy2c hy2s hi e_u1 ?_
  exact f68_88_ok hd h
def f68_59 (n : Nat) (x2 : Int32) (x4 : Int32) (y0 : Int32) (s : zσ) : Option zσ :=
    if x2 = (-1 : Int32) then
    f68_88 n s
    else zrd 9 (s.2.2 1004 4) fun a1 =>
    if x4 = (0 : Int32) then
    f68_87 n y0 x2 (a1 + 12) s
    else f68_87 n (-y0) x2 (a1 + 12) s
set_option maxRecDepth 20000 in
theorem f68_59_ok {n d : Nat} {x2 : Int32} {x4 : Int32} {y0 : Int32} {s : zσ} {s2 : zσ} (hd : 9 ≤ d) (h : f68_59 n x2 x4 y0 s = some s2) {w : zσ} {fz : Bool} {L : Nat} {xs : Nat → Int32} : zGo (zX fz L xs) d q_68 (59, [(0, .ref 1004), (2, .int x2), (4, .int x4)], [.int y0], zmk s w, 0, 0) (none, zmk s2 w, 0, 0) := by
  obtain ⟨d, rfl⟩ : ∃ d0, d = d0 + 1 := ⟨d - 1, by omega⟩
  unfold f68_59 at h
  refine zGo_s (pc' := 61) (st' := []) (lv' := [(5, .int y0), (0, .ref 1004), (2, .int x2), (4, .int x4)]) dd68_59 rfl ?_
  refine zGo_s (pc' := 62) (st' := [.int x2]) dd68_61 rfl ?_
  refine zGo_s (pc' := 63) (st' := [.int (-1 : Int32), .int x2]) dd68_62 rfl ?_
  rcases oite h with ⟨hc, h⟩ | ⟨hc, h⟩
  · refine zIT dd68_63 rfl (kEqT hc) ?_
    exact zGo_lv (lv := [(0, .ref 1004)]) ⟨by simp, by simp, by simp⟩ (f68_88_ok hd h)
  · refine zIF dd68_63 (kEqF hc) ?_
    refine zGo_s (pc' := 67) (st' := [.ref 1004]) dd68_66 rfl ?_
    obtain ⟨a1, e_a1, c_a1, h⟩ := ordd h
    refine cGR dd68_67 rfl rfl rfl rfl e_a1 ?_
    refine cGF (e := (a1 + 12)) dd68_70 rfl (ck9_s c_a1).1 (ck9_s c_a1).2 rfl (cf9_2 c_a1).1 ?_
    refine zGo_s (pc' := 74) (st' := [.int x2, .ref (a1 + 12)]) dd68_73 rfl ?_
    refine zGo_s (pc' := 76) (st' := [.int x4, .int x2, .ref (a1 + 12)]) dd68_74 rfl ?_
    rcases oite h with ⟨hc, h⟩ | ⟨hc, h⟩
    · refine zUT dd68_76 rfl (kEqT hc) ?_
      refine zGo_s (pc' := 87) (st' := [.int y0, .int x2, .ref (a1 + 12)]) dd68_85 rfl ?_
      exact zGo_lv (lv := [(0, .ref 1004)]) ⟨by simp, by simp, by simp⟩ (f68_87_ok hd (cf9_2 c_a1).2.1 (cf9_2 c_a1).2.2 h)
    · refine zUF dd68_76 (kEqF hc) ?_
      refine zGo_s (pc' := 81) (st' := [.int y0, .int x2, .ref (a1 + 12)]) dd68_79 rfl ?_
      refine zGo_s (pc' := 82) (st' := [.int (-y0), .int x2, .ref (a1 + 12)]) dd68_81 rfl ?_
      refine zGo_s (pc' := 87) (st' := [.int (-y0), .int x2, .ref (a1 + 12)]) dd68_82 rfl ?_
      exact zGo_lv (lv := [(0, .ref 1004)]) ⟨by simp, by simp, by simp⟩ (f68_87_ok hd (cf9_2 c_a1).2.1 (cf9_2 c_a1).2.2 h)
def f68_42 (n : Nat) (x2 : Int32) (x3 : Int32) (y0 : Int32) (s : zσ) : Option zσ :=
    if x3 = (0 : Int32) then
    f68_59 n x2 y0 (0 : Int32) s
    else yb1 (f67 n (0 : Int32) (2147483647 : Int32) s) fun v2 u1 =>
    f68_59 n x2 y0 v2 u1
set_option maxRecDepth 20000 in
theorem f68_42_ok {n d : Nat} {x2 : Int32} {x3 : Int32} {y0 : Int32} {s : zσ} {s2 : zσ} (hd : 9 ≤ d) (h : f68_42 n x2 x3 y0 s = some s2) {w : zσ} {fz : Bool} {L : Nat} {xs : Nat → Int32} : zGo (zX fz L xs) d q_68 (42, [(0, .ref 1004), (2, .int x2), (3, .int x3)], [.int y0], zmk s w, 0, 0) (none, zmk s2 w, 0, 0) := by
  obtain ⟨d, rfl⟩ : ∃ d0, d = d0 + 1 := ⟨d - 1, by omega⟩
  unfold f68_42 at h
  refine zGo_s (pc' := 44) (st' := []) (lv' := [(4, .int y0), (0, .ref 1004), (2, .int x2), (3, .int x3)]) dd68_42 rfl ?_
  refine zGo_s (pc' := 45) (st' := [.int x3]) dd68_44 rfl ?_
  rcases oite h with ⟨hc, h⟩ | ⟨hc, h⟩
  · refine zUT dd68_45 rfl (kEqT hc) ?_
    refine zGo_s (pc' := 59) (st' := [.int (0 : Int32)]) dd68_58 rfl ?_
    exact zGo_lv (lv := [(0, .ref 1004), (2, .int x2), (4, .int y0)]) ⟨by simp, by simp, by simp⟩ (f68_59_ok hd h)
  · refine zUF dd68_45 (kEqF hc) ?_
    refine zGo_s (pc' := 49) (st' := [.ref 1004]) dd68_48 rfl ?_
    refine zGo_s (pc' := 50) (st' := [.int (0 : Int32), .ref 1004]) dd68_49 rfl ?_
    refine zGo_s (pc' := 52) (st' := [.int (2147483647 : Int32), .int (0 : Int32), .ref 1004]) dd68_50 rfl ?_
    obtain ⟨v2, u1, hq, h⟩ := obnd h
    refine zCV1 (As := [.int (0 : Int32), .int (2147483647 : Int32)]) (rest := []) (b := 1004) (q' := q_67) dd68_52 rfl rfl (rcv_c rfl rfl (by decide)) rfl rfl rfl (f67_ok (d := d) (by omega)  hq) ?_
    refine zGo_s (pc' := 59) (st' := [.int v2]) dd68_55 rfl ?_
    exact zGo_lv (lv := [(0, .ref 1004), (2, .int x2), (4, .int y0)]) ⟨by simp, by simp, by simp⟩ (f68_59_ok hd h)
def f68_41 (n : Nat) (x2 : Int32) (x3 : Int32) (s : zσ) : Option zσ :=
    f68_42 n x2 x3 (0 : Int32) s
set_option maxRecDepth 20000 in
theorem f68_41_ok {n d : Nat} {x2 : Int32} {x3 : Int32} {s : zσ} {s2 : zσ} (hd : 9 ≤ d) (h : f68_41 n x2 x3 s = some s2) {w : zσ} {fz : Bool} {L : Nat} {xs : Nat → Int32} : zGo (zX fz L xs) d q_68 (41, [(0, .ref 1004), (2, .int x2), (3, .int x3)], [], zmk s w, 0, 0) (none, zmk s2 w, 0, 0) := by
  obtain ⟨d, rfl⟩ : ∃ d0, d = d0 + 1 := ⟨d - 1, by omega⟩
  unfold f68_41 at h
  refine zGo_s (pc' := 42) (st' := [.int (0 : Int32)]) dd68_41 rfl ?_
  exact f68_42_ok hd h
def f68 (n : Nat) (x1 : Int32) (s : zσ) : Option zσ :=
    yb0 (f26 n s) fun u1 =>
    yb1 (f34 n x1 u1) fun v3 u2 =>
    if x1 = (0 : Int32) then
    yb1 (f39 n (61 : Int32) u2) fun v9 u8 =>
    if v9 = (0 : Int32) then
    f68_41 n v3 v9 u8
    else yb1 (f39 n (45 : Int32) u8) fun v11 u10 =>
    if v11 = (0 : Int32) then
    f68_41 n v3 v9 u10
    else f68_42 n v3 v9 (1 : Int32) u10
    else if x1 = (2 : Int32) then
    yb1 (f67 n (0 : Int32) (9 : Int32) u2) fun v5 u4 =>
    if v3 = (-1 : Int32) then
    f68_119 n u4
    else zrd 9 (u4.2.2 1004 4) fun a6 =>
    if zin? v3 4 = true then
    zlet (sI u4 (a6 + 13) (nx v3) v5) fun u7 =>
    f68_119 n u7
    else none
    else f68_119 n u2
set_option maxRecDepth 20000 in
theorem f68_ok {n d : Nat} {x1 : Int32} {s : zσ} {s2 : zσ} (hd : 9 ≤ d) (h : f68 n x1 s = some s2) {w : zσ} {fz : Bool} {L : Nat} {xs : Nat → Int32} : zGo (zX fz L xs) d q_68 (0, [(0, .ref 1004), (1, .int x1)], [], zmk s w, 0, 0) (none, zmk s2 w, 0, 0) := by
  obtain ⟨d, rfl⟩ : ∃ d0, d = d0 + 1 := ⟨d - 1, by omega⟩
  unfold f68 at h
  refine zGo_s (pc' := 1) (st' := [.ref 1004]) dd68_0 rfl ?_
  refine cGF (e := 1001) dd68_1 rfl rfl rfl rfl rfl ?_
  obtain ⟨u1, hq, h⟩ := obn0 h
  refine zCV0 (As := []) (rest := []) (b := 1001) (q' := q_26) dd68_4 rfl rfl (rcv_c rfl rfl (by decide)) rfl rfl rfl (f26_ok (d := d) (by omega)  hq) ?_
  refine zGo_s (pc' := 8) (st' := [.ref 1004]) dd68_7 rfl ?_
  refine zGo_s (pc' := 9) (st' := [.int x1, .ref 1004]) dd68_8 rfl ?_
  obtain ⟨v3, u2, hq, h⟩ := obnd h
  refine zCV1 (As := [.int x1]) (rest := []) (b := 1004) (q' := q_34) dd68_9 rfl rfl (rcv_c rfl rfl (by decide)) rfl rfl rfl (f34_ok (d := d) (by omega)  hq) ?_
  refine zGo_s (pc' := 13) (st' := []) (lv' := [(2, .int v3), (0, .ref 1004), (1, .int x1)]) dd68_12 rfl ?_
  refine zGo_s (pc' := 14) (st' := [.int x1]) dd68_13 rfl ?_
  rcases oite h with ⟨hc, h⟩ | ⟨hc, h⟩
  · refine zUF dd68_14 (kNeF hc) ?_
    refine zGo_s (pc' := 18) (st' := [.ref 1004]) dd68_17 rfl ?_
    refine zGo_s (pc' := 20) (st' := [.int (61 : Int32), .ref 1004]) dd68_18 rfl ?_
    obtain ⟨v9, u8, hq, h⟩ := obnd h
    refine zCV1 (As := [.int (61 : Int32)]) (rest := []) (b := 1004) (q' := q_39) dd68_20 rfl rfl (rcv_c rfl rfl (by decide)) rfl rfl rfl (f39_ok (d := d) (by omega)  hq) ?_
    refine zGo_s (pc' := 24) (st' := []) (lv' := [(3, .int v9), (2, .int v3), (0, .ref 1004), (1, .int x1)]) dd68_23 rfl ?_
    refine zGo_s (pc' := 25) (st' := [.int v9]) dd68_24 rfl ?_
    rcases oite h with ⟨hc, h⟩ | ⟨hc, h⟩
    · refine zUT dd68_25 rfl (kEqT hc) ?_
      exact zGo_lv (lv := [(0, .ref 1004), (2, .int v3), (3, .int v9)]) ⟨by simp, by simp, by simp⟩ (f68_41_ok hd h)
    · refine zUF dd68_25 (kEqF hc) ?_
      refine zGo_s (pc' := 29) (st' := [.ref 1004]) dd68_28 rfl ?_
      refine zGo_s (pc' := 31) (st' := [.int (45 : Int32), .ref 1004]) dd68_29 rfl ?_
      obtain ⟨v11, u10, hq, h⟩ := obnd h
      refine zCV1 (As := [.int (45 : Int32)]) (rest := []) (b := 1004) (q' := q_39) dd68_31 rfl rfl (rcv_c rfl rfl (by decide)) rfl rfl rfl (f39_ok (d := d) (by omega)  hq) ?_
      rcases oite h with ⟨hc, h⟩ | ⟨hc, h⟩
      · refine zUT dd68_34 rfl (kEqT hc) ?_
        exact zGo_lv (lv := [(0, .ref 1004), (2, .int v3), (3, .int v9)]) ⟨by simp, by simp, by simp⟩ (f68_41_ok hd h)
      · refine zUF dd68_34 (kEqF hc) ?_
        refine zGo_s (pc' := 38) (st' := [.int (1 : Int32)]) dd68_37 rfl ?_
        refine zGo_s (pc' := 42) (st' := [.int (1 : Int32)]) dd68_38 rfl ?_
        exact zGo_lv (lv := [(0, .ref 1004), (2, .int v3), (3, .int v9)]) ⟨by simp, by simp, by simp⟩ (f68_42_ok hd h)
  · refine zUT dd68_14 rfl (kNeT hc) ?_
    refine zGo_s (pc' := 92) (st' := [.int x1]) dd68_91 rfl ?_
    refine zGo_s (pc' := 93) (st' := [.int (2 : Int32), .int x1]) dd68_92 rfl ?_
    rcases oite h with ⟨hc, h⟩ | ⟨hc, h⟩
    · refine zIF dd68_93 (kNeF hc) ?_
      refine zGo_s (pc' := 97) (st' := [.ref 1004]) dd68_96 rfl ?_
      refine zGo_s (pc' := 98) (st' := [.int (0 : Int32), .ref 1004]) dd68_97 rfl ?_
      refine zGo_s (pc' := 100) (st' := [.int (9 : Int32), .int (0 : Int32), .ref 1004]) dd68_98 rfl ?_
      obtain ⟨v5, u4, hq, h⟩ := obnd h
      refine zCV1 (As := [.int (0 : Int32), .int (9 : Int32)]) (rest := []) (b := 1004) (q' := q_67) dd68_100 rfl rfl (rcv_c rfl rfl (by decide)) rfl rfl rfl (f67_ok (d := d) (by omega)  hq) ?_
      refine zGo_s (pc' := 104) (st' := []) (lv' := [(3, .int v5), (2, .int v3), (0, .ref 1004), (1, .int x1)]) dd68_103 rfl ?_
      refine zGo_s (pc' := 105) (st' := [.int v3]) dd68_104 rfl ?_
      refine zGo_s (pc' := 106) (st' := [.int (-1 : Int32), .int v3]) dd68_105 rfl ?_
      rcases oite h with ⟨hc, h⟩ | ⟨hc, h⟩
      · refine zIT dd68_106 rfl (kEqT hc) ?_
        exact zGo_lv (lv := [(0, .ref 1004)]) ⟨by simp, by simp, by simp⟩ (f68_119_ok hd h)
      · refine zIF dd68_106 (kEqF hc) ?_
        refine zGo_s (pc' := 110) (st' := [.ref 1004]) dd68_109 rfl ?_
        obtain ⟨a6, e_a6, c_a6, h⟩ := ordd h
        refine cGR dd68_110 rfl rfl rfl rfl e_a6 ?_
        refine cGF (e := (a6 + 13)) dd68_113 rfl (ck9_s c_a6).1 (ck9_s c_a6).2 rfl (cf9_3 c_a6).1 ?_
        refine zGo_s (pc' := 117) (st' := [.int v3, .ref (a6 + 13)]) dd68_116 rfl ?_
        refine zGo_s (pc' := 118) (st' := [.int v5, .int v3, .ref (a6 + 13)]) dd68_117 rfl ?_
        obtain ⟨hi, h⟩ := ochk h
        obtain ⟨u7, e_u7, h⟩ := olet h
        refine cIS dd68_118 (cf9_3 c_a6).2.1 (cf9_3 c_a6).2.2 hi e_u7 ?_
        exact zGo_lv (lv := [(0, .ref 1004)]) ⟨by simp, by simp, by simp⟩ (f68_119_ok hd h)
    · refine zIT dd68_93 rfl (kNeT hc) ?_
      exact zGo_lv (lv := [(0, .ref 1004)]) ⟨by simp, by simp, by simp⟩ (f68_119_ok hd h)
/-! PH$Text.forget()V -/
theorem dd286_0 : decode cX9_forget 0 = .ok (.aload_n 0, 1) := by decide +kernel
theorem dd286_1 : decode cX9_forget 1 = .ok (.getfield 16, 3) := by decide +kernel
theorem dd286_4 : decode cX9_forget 4 = .ok (.iconst 0, 1) := by decide +kernel
theorem dd286_5 : decode cX9_forget 5 = .ok (.invokestatic 56, 3) := by decide +kernel
theorem dd286_8 : decode cX9_forget 8 = .ok (.aload_n 0, 1) := by decide +kernel
theorem dd286_9 : decode cX9_forget 9 = .ok (.getfield 20, 3) := by decide +kernel
theorem dd286_12 : decode cX9_forget 12 = .ok (.iconst 0, 1) := by decide +kernel
theorem dd286_13 : decode cX9_forget 13 = .ok (.invokestatic 56, 3) := by decide +kernel
theorem dd286_16 : decode cX9_forget 16 = .ok (.aload_n 0, 1) := by decide +kernel
theorem dd286_17 : decode cX9_forget 17 = .ok (.getfield 23, 3) := by decide +kernel
theorem dd286_20 : decode cX9_forget 20 = .ok (.iconst 0, 1) := by decide +kernel
theorem dd286_21 : decode cX9_forget 21 = .ok (.invokestatic 56, 3) := by decide +kernel
theorem dd286_24 : decode cX9_forget 24 = .ok (.aload_n 0, 1) := by decide +kernel
theorem dd286_25 : decode cX9_forget 25 = .ok (.getfield 26, 3) := by decide +kernel
theorem dd286_28 : decode cX9_forget 28 = .ok (.iconst 0, 1) := by decide +kernel
theorem dd286_29 : decode cX9_forget 29 = .ok (.invokestatic 56, 3) := by decide +kernel
theorem dd286_32 : decode cX9_forget 32 = .ok (.iconst 0, 1) := by decide +kernel
theorem dd286_33 : decode cX9_forget 33 = .ok (.istore_n 1, 1) := by decide +kernel
theorem dd286_34 : decode cX9_forget 34 = .ok (.iload_n 1, 1) := by decide +kernel
theorem dd286_35 : decode cX9_forget 35 = .ok (.bipush 8, 2) := by decide +kernel
theorem dd286_37 : decode cX9_forget 37 = .ok (.if_icmp .ge 16, 3) := by decide +kernel
theorem dd286_40 : decode cX9_forget 40 = .ok (.aload_n 0, 1) := by decide +kernel
theorem dd286_41 : decode cX9_forget 41 = .ok (.getfield 29, 3) := by decide +kernel
theorem dd286_44 : decode cX9_forget 44 = .ok (.iload_n 1, 1) := by decide +kernel
theorem dd286_45 : decode cX9_forget 45 = .ok (.iconst 0, 1) := by decide +kernel
theorem dd286_46 : decode cX9_forget 46 = .ok (.bastore, 1) := by decide +kernel
theorem dd286_47 : decode cX9_forget 47 = .ok (.iinc 1 1, 3) := by decide +kernel
theorem dd286_50 : decode cX9_forget 50 = .ok (.goto (-16), 3) := by decide +kernel
theorem dd286_53 : decode cX9_forget 53 = .ok (.aload_n 0, 1) := by decide +kernel
theorem dd286_54 : decode cX9_forget 54 = .ok (.getfield 33, 3) := by decide +kernel
theorem dd286_57 : decode cX9_forget 57 = .ok (.iconst (-1), 1) := by decide +kernel
theorem dd286_58 : decode cX9_forget 58 = .ok (.invokestatic 56, 3) := by decide +kernel
theorem dd286_61 : decode cX9_forget 61 = .ok (.aload_n 0, 1) := by decide +kernel
theorem dd286_62 : decode cX9_forget 62 = .ok (.getfield 36, 3) := by decide +kernel
theorem dd286_65 : decode cX9_forget 65 = .ok (.iconst (-1), 1) := by decide +kernel
theorem dd286_66 : decode cX9_forget 66 = .ok (.invokestatic 56, 3) := by decide +kernel
theorem dd286_69 : decode cX9_forget 69 = .ok (.aload_n 0, 1) := by decide +kernel
theorem dd286_70 : decode cX9_forget 70 = .ok (.getfield 39, 3) := by decide +kernel
theorem dd286_73 : decode cX9_forget 73 = .ok (.iconst 0, 1) := by decide +kernel
theorem dd286_74 : decode cX9_forget 74 = .ok (.invokestatic 56, 3) := by decide +kernel
theorem dd286_77 : decode cX9_forget 77 = .ok (.return_, 1) := by decide +kernel
def f286_34 (n : Nat) : Nat → Nat → Int32 → zσ → Option zσ
  | 0, _, _, _ => none
  | j + 1, x0, x1, s =>
    if x1 < (8 : Int32) then
    if zin? x1 8 = true then
    zlet (sI s (x0 + 15) (nx x1) (vp_nar .boolean (0 : Int32))) fun u4 =>
    f286_34 n j x0 (x1 + (1 : Int32)) u4
    else none
    else zlet (sF s (x0 + 16) 0 8 (-1 : Int32)) fun u1 =>
    zlet (sF u1 (x0 + 17) 0 6 (-1 : Int32)) fun u2 =>
    zlet (sF u2 (x0 + 18) 0 6 (0 : Int32)) fun u3 =>
    some u3
set_option maxRecDepth 20000 in
theorem f286_34_ok {n d : Nat} (hd : 2 ≤ d) : ∀ (j : Nat) (x0 : Nat) (x1 : Int32) (s : zσ) (s2 : zσ), zck 9 x0 = true → f286_34 n j x0 x1 s = some s2 → ∀ {w : zσ} {fz : Bool} {L : Nat} {xs : Nat → Int32}, zGo (zX fz L xs) d q_286 (34, [(0, .ref x0), (1, .int x1)], [], zmk s w, 0, 0) (none, zmk s2 w, 0, 0) := by
  obtain ⟨d, rfl⟩ : ∃ d0, d = d0 + 1 := ⟨d - 1, by omega⟩
  intro j
  induction j with
  | zero => intro x0 x1 s s2 hx0 h; cases h
  | succ j ih =>
    intro x0 x1 s s2 hx0 h w fz L xs
    rw [f286_34] at h
    refine zGo_s (pc' := 35) (st' := [.int x1]) dd286_34 rfl ?_
    refine zGo_s (pc' := 37) (st' := [.int (8 : Int32), .int x1]) dd286_35 rfl ?_
    rcases oite h with ⟨hc, h⟩ | ⟨hc, h⟩
    · refine zIF dd286_37 (kGeF hc) ?_
      refine zGo_s (pc' := 41) (st' := [.ref x0]) dd286_40 rfl ?_
      refine cGF (e := (x0 + 15)) dd286_41 rfl (ck9_s hx0).1 (ck9_s hx0).2 rfl (cf9_5 hx0).1 ?_
      refine zGo_s (pc' := 45) (st' := [.int x1, .ref (x0 + 15)]) dd286_44 rfl ?_
      refine zGo_s (pc' := 46) (st' := [.int (0 : Int32), .int x1, .ref (x0 + 15)]) dd286_45 rfl ?_
      obtain ⟨hi, h⟩ := ochk h
      obtain ⟨u4, e_u4, h⟩ := olet h
      refine cBS dd286_46 (cf9_5 hx0).2.1 (cf9_5 hx0).2.2 rfl hi e_u4 ?_
      refine zGo_s (pc' := 50) (st' := []) (lv' := [(1, .int (x1 + (1 : Int32))), (0, .ref x0)]) dd286_47 rfl ?_
      refine zGo_s (pc' := 34) (st' := []) dd286_50 rfl ?_
      exact zGo_lv (lv := [(0, .ref x0), (1, .int (x1 + (1 : Int32)))]) ⟨by simp, by simp, by simp⟩ (ih _ _ _ _ hx0 h)
    · refine zIT dd286_37 rfl (kGeT hc) ?_
      refine zGo_s (pc' := 54) (st' := [.ref x0]) dd286_53 rfl ?_
      refine cGF (e := (x0 + 16)) dd286_54 rfl (ck9_s hx0).1 (ck9_s hx0).2 rfl (cf9_6 hx0).1 ?_
      refine zGo_s (pc' := 58) (st' := [.int (-1 : Int32), .ref (x0 + 16)]) dd286_57 rfl ?_
      obtain ⟨u1, e_u1, h⟩ := olet h
      refine zCS0 (As := [.ref (x0 + 16), .int (-1 : Int32)]) (rest := []) (q' := q_22) dd286_58 rfl rfl rfl rfl rfl (g_fillc (cf9_6 hx0).2.1 (cf9_6 hx0).2.2 (by decide) e_u1) ?_
      refine zGo_s (pc' := 62) (st' := [.ref x0]) dd286_61 rfl ?_
      refine cGF (e := (x0 + 17)) dd286_62 rfl (ck9_s hx0).1 (ck9_s hx0).2 rfl (cf9_7 hx0).1 ?_
      refine zGo_s (pc' := 66) (st' := [.int (-1 : Int32), .ref (x0 + 17)]) dd286_65 rfl ?_
      obtain ⟨u2, e_u2, h⟩ := olet h
      refine zCS0 (As := [.ref (x0 + 17), .int (-1 : Int32)]) (rest := []) (q' := q_22) dd286_66 rfl rfl rfl rfl rfl (g_fillc (cf9_7 hx0).2.1 (cf9_7 hx0).2.2 (by decide) e_u2) ?_
      refine zGo_s (pc' := 70) (st' := [.ref x0]) dd286_69 rfl ?_
      refine cGF (e := (x0 + 18)) dd286_70 rfl (ck9_s hx0).1 (ck9_s hx0).2 rfl (cf9_8 hx0).1 ?_
      refine zGo_s (pc' := 74) (st' := [.int (0 : Int32), .ref (x0 + 18)]) dd286_73 rfl ?_
      obtain ⟨u3, e_u3, h⟩ := olet h
      refine zCS0 (As := [.ref (x0 + 18), .int (0 : Int32)]) (rest := []) (q' := q_22) dd286_74 rfl rfl rfl rfl rfl (g_fillc (cf9_8 hx0).2.1 (cf9_8 hx0).2.2 (by decide) e_u3) ?_
      obtain rfl := ore0 h
      exact zGo_ret dd286_77 rfl rfl
def f286 (n : Nat) (x0 : Nat) (s : zσ) : Option zσ :=
    zlet (sF s (x0 + 11) 0 9 (0 : Int32)) fun u1 =>
    zlet (sF u1 (x0 + 12) 0 8 (0 : Int32)) fun u2 =>
    zlet (sF u2 (x0 + 13) 0 4 (0 : Int32)) fun u3 =>
    zlet (sF u3 (x0 + 14) 0 8 (0 : Int32)) fun u4 =>
    f286_34 n n x0 (0 : Int32) u4
set_option maxRecDepth 20000 in
theorem f286_ok {n d : Nat} {x0 : Nat} {s : zσ} {s2 : zσ} (hd : 2 ≤ d) (hx0 : zck 9 x0 = true) (h : f286 n x0 s = some s2) {w : zσ} {fz : Bool} {L : Nat} {xs : Nat → Int32} : zGo (zX fz L xs) d q_286 (0, [(0, .ref x0)], [], zmk s w, 0, 0) (none, zmk s2 w, 0, 0) := by
  obtain ⟨d, rfl⟩ : ∃ d0, d = d0 + 1 := ⟨d - 1, by omega⟩
  unfold f286 at h
  refine zGo_s (pc' := 1) (st' := [.ref x0]) dd286_0 rfl ?_
  refine cGF (e := (x0 + 11)) dd286_1 rfl (ck9_s hx0).1 (ck9_s hx0).2 rfl (cf9_1 hx0).1 ?_
  refine zGo_s (pc' := 5) (st' := [.int (0 : Int32), .ref (x0 + 11)]) dd286_4 rfl ?_
  obtain ⟨u1, e_u1, h⟩ := olet h
  refine zCS0 (As := [.ref (x0 + 11), .int (0 : Int32)]) (rest := []) (q' := q_22) dd286_5 rfl rfl rfl rfl rfl (g_fillc (cf9_1 hx0).2.1 (cf9_1 hx0).2.2 (by decide) e_u1) ?_
  refine zGo_s (pc' := 9) (st' := [.ref x0]) dd286_8 rfl ?_
  refine cGF (e := (x0 + 12)) dd286_9 rfl (ck9_s hx0).1 (ck9_s hx0).2 rfl (cf9_2 hx0).1 ?_
  refine zGo_s (pc' := 13) (st' := [.int (0 : Int32), .ref (x0 + 12)]) dd286_12 rfl ?_
  obtain ⟨u2, e_u2, h⟩ := olet h
  refine zCS0 (As := [.ref (x0 + 12), .int (0 : Int32)]) (rest := []) (q' := q_22) dd286_13 rfl rfl rfl rfl rfl (g_fillc (cf9_2 hx0).2.1 (cf9_2 hx0).2.2 (by decide) e_u2) ?_
  refine zGo_s (pc' := 17) (st' := [.ref x0]) dd286_16 rfl ?_
  refine cGF (e := (x0 + 13)) dd286_17 rfl (ck9_s hx0).1 (ck9_s hx0).2 rfl (cf9_3 hx0).1 ?_
  refine zGo_s (pc' := 21) (st' := [.int (0 : Int32), .ref (x0 + 13)]) dd286_20 rfl ?_
  obtain ⟨u3, e_u3, h⟩ := olet h
  refine zCS0 (As := [.ref (x0 + 13), .int (0 : Int32)]) (rest := []) (q' := q_22) dd286_21 rfl rfl rfl rfl rfl (g_fillc (cf9_3 hx0).2.1 (cf9_3 hx0).2.2 (by decide) e_u3) ?_
  refine zGo_s (pc' := 25) (st' := [.ref x0]) dd286_24 rfl ?_
  refine cGF (e := (x0 + 14)) dd286_25 rfl (ck9_s hx0).1 (ck9_s hx0).2 rfl (cf9_4 hx0).1 ?_
  refine zGo_s (pc' := 29) (st' := [.int (0 : Int32), .ref (x0 + 14)]) dd286_28 rfl ?_
  obtain ⟨u4, e_u4, h⟩ := olet h
  refine zCS0 (As := [.ref (x0 + 14), .int (0 : Int32)]) (rest := []) (q' := q_22) dd286_29 rfl rfl rfl rfl rfl (g_fillc (cf9_4 hx0).2.1 (cf9_4 hx0).2.2 (by decide) e_u4) ?_
  refine zGo_s (pc' := 33) (st' := [.int (0 : Int32)]) dd286_32 rfl ?_
  refine zGo_s (pc' := 34) (st' := []) (lv' := [(1, .int (0 : Int32)), (0, .ref x0)]) dd286_33 rfl ?_
  exact zGo_lv (lv := [(0, .ref x0), (1, .int (0 : Int32))]) ⟨by simp, by simp, by simp⟩ (f286_34_ok hd _ _ _ _ _ hx0 h)
