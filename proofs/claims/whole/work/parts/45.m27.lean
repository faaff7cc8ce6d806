/-! PHModel.stations(II)V -/
theorem dd259_0 : decode cX13_stations 0 = .ok (.aload_n 0, 1) := by decide +kernel
theorem dd259_1 : decode cX13_stations 1 = .ok (.getfield 20, 3) := by decide +kernel
theorem dd259_4 : decode cX13_stations 4 = .ok (.getfield 544, 3) := by decide +kernel
theorem dd259_7 : decode cX13_stations 7 = .ok (.aload_n 0, 1) := by decide +kernel
theorem dd259_8 : decode cX13_stations 8 = .ok (.getfield 20, 3) := by decide +kernel
theorem dd259_11 : decode cX13_stations 11 = .ok (.getfield 441, 3) := by decide +kernel
theorem dd259_14 : decode cX13_stations 14 = .ok (.iload_n 2, 1) := by decide +kernel
theorem dd259_15 : decode cX13_stations 15 = .ok (.iaload, 1) := by decide +kernel
theorem dd259_16 : decode cX13_stations 16 = .ok (.iaload, 1) := by decide +kernel
theorem dd259_17 : decode cX13_stations 17 = .ok (.istore_n 3, 1) := by decide +kernel
theorem dd259_18 : decode cX13_stations 18 = .ok (.aload_n 0, 1) := by decide +kernel
theorem dd259_19 : decode cX13_stations 19 = .ok (.getfield 20, 3) := by decide +kernel
theorem dd259_22 : decode cX13_stations 22 = .ok (.getfield 459, 3) := by decide +kernel
theorem dd259_25 : decode cX13_stations 25 = .ok (.iload_n 2, 1) := by decide +kernel
theorem dd259_26 : decode cX13_stations 26 = .ok (.iaload, 1) := by decide +kernel
theorem dd259_27 : decode cX13_stations 27 = .ok (.bipush 23, 2) := by decide +kernel
theorem dd259_29 : decode cX13_stations 29 = .ok (.if_icmp .ne 48, 3) := by decide +kernel
theorem dd259_32 : decode cX13_stations 32 = .ok (.aload_n 0, 1) := by decide +kernel
theorem dd259_33 : decode cX13_stations 33 = .ok (.getfield 70, 3) := by decide +kernel
theorem dd259_36 : decode cX13_stations 36 = .ok (.iload_n 3, 1) := by decide +kernel
theorem dd259_37 : decode cX13_stations 37 = .ok (.iaload, 1) := by decide +kernel
theorem dd259_38 : decode cX13_stations 38 = .ok (.ifCond .ne 9, 3) := by decide +kernel
theorem dd259_41 : decode cX13_stations 41 = .ok (.aload_n 0, 1) := by decide +kernel
theorem dd259_42 : decode cX13_stations 42 = .ok (.iload_n 1, 1) := by decide +kernel
theorem dd259_43 : decode cX13_stations 43 = .ok (.invokevirtual 706, 3) := by decide +kernel
theorem dd259_46 : decode cX13_stations 46 = .ok (.return_, 1) := by decide +kernel
theorem dd259_47 : decode cX13_stations 47 = .ok (.aload_n 0, 1) := by decide +kernel
theorem dd259_48 : decode cX13_stations 48 = .ok (.getfield 36, 3) := by decide +kernel
theorem dd259_51 : decode cX13_stations 51 = .ok (.aload_n 0, 1) := by decide +kernel
theorem dd259_52 : decode cX13_stations 52 = .ok (.getfield 20, 3) := by decide +kernel
theorem dd259_55 : decode cX13_stations 55 = .ok (.getfield 544, 3) := by decide +kernel
theorem dd259_58 : decode cX13_stations 58 = .ok (.aload_n 0, 1) := by decide +kernel
theorem dd259_59 : decode cX13_stations 59 = .ok (.getfield 20, 3) := by decide +kernel
theorem dd259_62 : decode cX13_stations 62 = .ok (.getfield 444, 3) := by decide +kernel
theorem dd259_65 : decode cX13_stations 65 = .ok (.iload_n 2, 1) := by decide +kernel
theorem dd259_66 : decode cX13_stations 66 = .ok (.iaload, 1) := by decide +kernel
theorem dd259_67 : decode cX13_stations 67 = .ok (.iaload, 1) := by decide +kernel
theorem dd259_68 : decode cX13_stations 68 = .ok (.aload_n 0, 1) := by decide +kernel
theorem dd259_69 : decode cX13_stations 69 = .ok (.iload_n 3, 1) := by decide +kernel
theorem dd259_70 : decode cX13_stations 70 = .ok (.invokevirtual 719, 3) := by decide +kernel
theorem dd259_73 : decode cX13_stations 73 = .ok (.iastore, 1) := by decide +kernel
theorem dd259_74 : decode cX13_stations 74 = .ok (.goto 81, 3) := by decide +kernel
theorem dd259_77 : decode cX13_stations 77 = .ok (.aload_n 0, 1) := by decide +kernel
theorem dd259_78 : decode cX13_stations 78 = .ok (.iload_n 1, 1) := by decide +kernel
theorem dd259_79 : decode cX13_stations 79 = .ok (.aload_n 0, 1) := by decide +kernel
theorem dd259_80 : decode cX13_stations 80 = .ok (.getfield 20, 3) := by decide +kernel
theorem dd259_83 : decode cX13_stations 83 = .ok (.getfield 469, 3) := by decide +kernel
theorem dd259_86 : decode cX13_stations 86 = .ok (.iconst 4, 1) := by decide +kernel
theorem dd259_87 : decode cX13_stations 87 = .ok (.iload_n 2, 1) := by decide +kernel
theorem dd259_88 : decode cX13_stations 88 = .ok (.imul, 1) := by decide +kernel
theorem dd259_89 : decode cX13_stations 89 = .ok (.iaload, 1) := by decide +kernel
theorem dd259_90 : decode cX13_stations 90 = .ok (.invokevirtual 662, 3) := by decide +kernel
theorem dd259_93 : decode cX13_stations 93 = .ok (.istore 4, 2) := by decide +kernel
theorem dd259_95 : decode cX13_stations 95 = .ok (.aload_n 0, 1) := by decide +kernel
theorem dd259_96 : decode cX13_stations 96 = .ok (.getfield 623, 3) := by decide +kernel
theorem dd259_99 : decode cX13_stations 99 = .ok (.ifCond .ne 20, 3) := by decide +kernel
theorem dd259_102 : decode cX13_stations 102 = .ok (.aload_n 0, 1) := by decide +kernel
theorem dd259_103 : decode cX13_stations 103 = .ok (.getfield 76, 3) := by decide +kernel
theorem dd259_106 : decode cX13_stations 106 = .ok (.iload_n 3, 1) := by decide +kernel
theorem dd259_107 : decode cX13_stations 107 = .ok (.iaload, 1) := by decide +kernel
theorem dd259_108 : decode cX13_stations 108 = .ok (.bipush 40, 2) := by decide +kernel
theorem dd259_110 : decode cX13_stations 110 = .ok (.if_icmp .ne 9, 3) := by decide +kernel
theorem dd259_113 : decode cX13_stations 113 = .ok (.aload_n 0, 1) := by decide +kernel
theorem dd259_114 : decode cX13_stations 114 = .ok (.bipush 8, 2) := by decide +kernel
theorem dd259_116 : decode cX13_stations 116 = .ok (.invokevirtual 644, 3) := by decide +kernel
theorem dd259_119 : decode cX13_stations 119 = .ok (.aload_n 0, 1) := by decide +kernel
theorem dd259_120 : decode cX13_stations 120 = .ok (.getfield 623, 3) := by decide +kernel
theorem dd259_123 : decode cX13_stations 123 = .ok (.ifCond .eq 4, 3) := by decide +kernel
theorem dd259_126 : decode cX13_stations 126 = .ok (.return_, 1) := by decide +kernel
theorem dd259_127 : decode cX13_stations 127 = .ok (.aload_n 0, 1) := by decide +kernel
theorem dd259_128 : decode cX13_stations 128 = .ok (.getfield 73, 3) := by decide +kernel
theorem dd259_131 : decode cX13_stations 131 = .ok (.bipush 40, 2) := by decide +kernel
theorem dd259_133 : decode cX13_stations 133 = .ok (.iload_n 3, 1) := by decide +kernel
theorem dd259_134 : decode cX13_stations 134 = .ok (.imul, 1) := by decide +kernel
theorem dd259_135 : decode cX13_stations 135 = .ok (.aload_n 0, 1) := by decide +kernel
theorem dd259_136 : decode cX13_stations 136 = .ok (.getfield 76, 3) := by decide +kernel
theorem dd259_139 : decode cX13_stations 139 = .ok (.iload_n 3, 1) := by decide +kernel
theorem dd259_140 : decode cX13_stations 140 = .ok (.iaload, 1) := by decide +kernel
theorem dd259_141 : decode cX13_stations 141 = .ok (.iadd, 1) := by decide +kernel
theorem dd259_142 : decode cX13_stations 142 = .ok (.iload 4, 2) := by decide +kernel
theorem dd259_144 : decode cX13_stations 144 = .ok (.iastore, 1) := by decide +kernel
theorem dd259_145 : decode cX13_stations 145 = .ok (.aload_n 0, 1) := by decide +kernel
theorem dd259_146 : decode cX13_stations 146 = .ok (.getfield 76, 3) := by decide +kernel
theorem dd259_149 : decode cX13_stations 149 = .ok (.iload_n 3, 1) := by decide +kernel
theorem dd259_150 : decode cX13_stations 150 = .ok (.dup2, 1) := by decide +kernel
theorem dd259_151 : decode cX13_stations 151 = .ok (.iaload, 1) := by decide +kernel
theorem dd259_152 : decode cX13_stations 152 = .ok (.iconst 1, 1) := by decide +kernel
theorem dd259_153 : decode cX13_stations 153 = .ok (.iadd, 1) := by decide +kernel
theorem dd259_154 : decode cX13_stations 154 = .ok (.iastore, 1) := by decide +kernel
theorem dd259_155 : decode cX13_stations 155 = .ok (.aload_n 0, 1) := by decide +kernel
theorem dd259_156 : decode cX13_stations 156 = .ok (.iload_n 1, 1) := by decide +kernel
theorem dd259_157 : decode cX13_stations 157 = .ok (.invokevirtual 665, 3) := by decide +kernel
theorem dd259_160 : decode cX13_stations 160 = .ok (.return_, 1) := by decide +kernel
def f259_155 (n : Nat) (x1 : Int32) (s : zσ) : Option zσ :=
    yb0 (f237 n x1 s) fun u1 =>
    some u1
set_option maxRecDepth 20000 in
theorem f259_155_ok {n d : Nat} {x1 : Int32} {s : zσ} {s2 : zσ} (hd : 26 ≤ d) (h : f259_155 n x1 s = some s2) {w : zσ} {fz : Bool} {L : Nat} {xs : Nat → Int32} : zGo (zX fz L xs) d q_259 (155, [(0, .ref 1132), (1, .int x1)], [], zmk w s, 0, 0) (none, zmk w s2, 0, 0) := by
  obtain ⟨d, rfl⟩ : ∃ d0, d = d0 + 1 := ⟨d - 1, by omega⟩
  unfold f259_155 at h
  refine zGo_s (pc' := 156) (st' := [.ref 1132]) dd259_155 rfl ?_
  refine zGo_s (pc' := 157) (st' := [.int x1, .ref 1132]) dd259_156 rfl ?_
  obtain ⟨u1, hq, h⟩ := obn0 h
  refine zCV0 (As := [.int x1]) (rest := []) (b := 1132) (q' := q_237) dd259_157 rfl rfl (rcv_m rfl rfl (by decide)) rfl rfl rfl (f237_ok (d := d) (by omega)  hq) ?_
  obtain rfl := ore0 h
  exact zGo_ret dd259_160 rfl rfl
def f259_119 (n : Nat) (x1 : Int32) (x3 : Int32) (x4 : Int32) (s : zσ) : Option zσ :=
    if (s.1 1132 69) = (0 : Int32) then
    if zin? x3 4 = true then
    if zin? (((40 : Int32) * x3) + (s.1 1220 (nx x3))) 160 = true then
    zlet (sI s 1219 (nx (((40 : Int32) * x3) + (s.1 1220 (nx x3)))) x4) fun u1 =>
    if zin? x3 4 = true then
    if zin? x3 4 = true then
    zlet (sI u1 1220 (nx x3) ((u1.1 1220 (nx x3)) + (1 : Int32))) fun u2 =>
    f259_155 n x1 u2
    else none
    else none
    else none
    else none
    else some s
set_option maxRecDepth 20000 in
theorem f259_119_ok {n d : Nat} {x1 : Int32} {x3 : Int32} {x4 : Int32} {s : zσ} {s2 : zσ} (hd : 26 ≤ d) (h : f259_119 n x1 x3 x4 s = some s2) {w : zσ} {fz : Bool} {L : Nat} {xs : Nat → Int32} : zGo (zX fz L xs) d q_259 (119, [(0, .ref 1132), (1, .int x1), (3, .int x3), (4, .int x4)], [], zmk w s, 0, 0) (none, zmk w s2, 0, 0) := by
  obtain ⟨d, rfl⟩ : ∃ d0, d = d0 + 1 := ⟨d - 1, by omega⟩
  unfold f259_119 at h
  refine zGo_s (pc' := 120) (st' := [.ref 1132]) dd259_119 rfl ?_
  refine mGI dd259_120 rfl rfl rfl rfl ?_
  rcases oite h with ⟨hc, h⟩ | ⟨hc, h⟩
  · refine zUT dd259_123 rfl (kEqT hc) ?_
    refine zGo_s (pc' := 128) (st' := [.ref 1132]) dd259_127 rfl ?_
    refine mGF (e := 1219) dd259_128 rfl rfl rfl rfl rfl ?_
    refine zGo_s (pc' := 133) (st' := [.int (40 : Int32), .ref 1219]) dd259_131 rfl ?_
    refine zGo_s (pc' := 134) (st' := [.int x3, .int (40 : Int32), .ref 1219]) dd259_133 rfl ?_
    refine zGo_s (pc' := 135) (st' := [.int ((40 : Int32) * x3), .ref 1219]) dd259_134 rfl ?_
    refine zGo_s (pc' := 136) (st' := [.ref 1132, .int ((40 : Int32) * x3), .ref 1219]) dd259_135 rfl ?_
    refine mGF (e := 1220) dd259_136 rfl rfl rfl rfl rfl ?_
    refine zGo_s (pc' := 140) (st' := [.int x3, .ref 1220, .int ((40 : Int32) * x3), .ref 1219]) dd259_139 rfl ?_
    obtain ⟨hi, h⟩ := ochk h
    refine mIA dd259_140 rfl rfl hi ?_
    refine zGo_s (pc' := 142) (st' := [.int (((40 : Int32) * x3) + (s.1 1220 (nx x3))), .ref 1219]) dd259_141 rfl ?_
    refine zGo_s (pc' := 144) (st' := [.int x4, .int (((40 : Int32) * x3) + (s.1 1220 (nx x3))), .ref 1219]) dd259_142 rfl ?_
    obtain ⟨hi, h⟩ := ochk h
    obtain ⟨u1, e_u1, h⟩ := olet h
    refine mIS dd259_144 rfl rfl hi e_u1 ?_
    refine zGo_s (pc' := 146) (st' := [.ref 1132]) dd259_145 rfl ?_
    refine mGF (e := 1220) dd259_146 rfl rfl rfl rfl rfl ?_
    refine zGo_s (pc' := 150) (st' := [.int x3, .ref 1220]) dd259_149 rfl ?_
    refine zGo_s (pc' := 151) (st' := [.int x3, .ref 1220, .int x3, .ref 1220]) dd259_150 rfl ?_
    obtain ⟨hi, h⟩ := ochk h
    refine mIA dd259_151 rfl rfl hi ?_
    refine zGo_s (pc' := 153) (st' := [.int (1 : Int32), .int (u1.1 1220 (nx x3)), .int x3, .ref 1220]) dd259_152 rfl ?_
    refine zGo_s (pc' := 154) (st' := [.int ((u1.1 1220 (nx x3)) + (1 : Int32)), .int x3, .ref 1220]) dd259_153 rfl ?_
    obtain ⟨hi, h⟩ := ochk h
    obtain ⟨u2, e_u2, h⟩ := olet h
    refine mIS dd259_154 rfl rfl hi e_u2 ?_
    exact zGo_lv (lv := [(0, .ref 1132), (1, .int x1)]) ⟨by simp, by simp, by simp⟩ (f259_155_ok hd h)
  · refine zUF dd259_123 (kEqF hc) ?_
    obtain rfl := ore0 h
    exact zGo_ret dd259_126 rfl rfl
def f259 (n : Nat) (x1 : Int32) (x2 : Int32) (s : zσ) : Option zσ :=
    zrd 12 (s.2.2 1132 11) fun a1 =>
    zrd 12 (s.2.2 1132 11) fun a2 =>
    if zin? x2 200 = true then
    if zin? (s.1 (a2 + 17) (nx x2)) 1400 = true then
    zlet ((s.1 (a1 + 33) (nx (s.1 (a2 + 17) (nx x2))))) fun v3 =>
    zrd 12 (s.2.2 1132 11) fun a4 =>
    if zin? x2 200 = true then
    if (s.1 (a4 + 15) (nx x2)) = (23 : Int32) then
    if zin? v3 4 = true then
    if (s.1 1218 (nx v3)) = (0 : Int32) then
    yb0 (f257 n x1 s) fun u14 =>
    some u14
    else zrd 12 (s.2.2 1132 11) fun a9 =>
    zrd 12 (s.2.2 1132 11) fun a10 =>
    if zin? x2 200 = true then
    if zin? (s.1 (a10 + 18) (nx x2)) 1400 = true then
    yb1 (f236 n v3 s) fun v12 u11 =>
    if zin? (s.1 (a9 + 33) (nx (s.1 (a10 + 18) (nx x2)))) 8 = true then
    zlet (sI u11 1207 (nx (s.1 (a9 + 33) (nx (s.1 (a10 + 18) (nx x2))))) v12) fun u13 =>
    f259_155 n x1 u13
    else none
    else none
    else none
    else none
    else zrd 12 (s.2.2 1132 11) fun a5 =>
    if zin? ((4 : Int32) * x2) 800 = true then
    yb1 (f243 n x1 (s.1 (a5 + 22) (nx ((4 : Int32) * x2))) s) fun v7 u6 =>
    if (u6.1 1132 69) = (0 : Int32) then
    if zin? v3 4 = true then
    if (u6.1 1220 (nx v3)) = (40 : Int32) then
    yb0 (f246 n (8 : Int32) u6) fun u8 =>
    f259_119 n x1 v3 v7 u8
    else f259_119 n x1 v3 v7 u6
    else none
    else f259_119 n x1 v3 v7 u6
    else none
    else none
    else none
    else none
set_option maxRecDepth 20000 in
theorem f259_ok {n d : Nat} {x1 : Int32} {x2 : Int32} {s : zσ} {s2 : zσ} (hd : 26 ≤ d) (h : f259 n x1 x2 s = some s2) {w : zσ} {fz : Bool} {L : Nat} {xs : Nat → Int32} : zGo (zX fz L xs) d q_259 (0, [(0, .ref 1132), (1, .int x1), (2, .int x2)], [], zmk w s, 0, 0) (none, zmk w s2, 0, 0) := by
  obtain ⟨d, rfl⟩ : ∃ d0, d = d0 + 1 := ⟨d - 1, by omega⟩
  unfold f259 at h
  refine zGo_s (pc' := 1) (st' := [.ref 1132]) dd259_0 rfl ?_
  obtain ⟨a1, e_a1, c_a1, h⟩ := ordd h
  refine mGR dd259_1 rfl rfl rfl rfl e_a1 ?_
  refine mGF (e := (a1 + 33)) dd259_4 rfl (ck12_s c_a1).1 (ck12_s c_a1).2 rfl (cf12_39 c_a1).1 ?_
  refine zGo_s (pc' := 8) (st' := [.ref 1132, .ref (a1 + 33)]) dd259_7 rfl ?_
  obtain ⟨a2, e_a2, c_a2, h⟩ := ordd h
  refine mGR dd259_8 rfl rfl rfl rfl e_a2 ?_
  refine mGF (e := (a2 + 17)) dd259_11 rfl (ck12_s c_a2).1 (ck12_s c_a2).2 rfl (cf12_19 c_a2).1 ?_
  refine zGo_s (pc' := 15) (st' := [.int x2, .ref (a2 + 17), .ref (a1 + 33)]) dd259_14 rfl ?_
  obtain ⟨hi, h⟩ := ochk h
  refine mIA dd259_15 (cf12_19 c_a2).2.1 (cf12_19 c_a2).2.2 hi ?_
  obtain ⟨hi, h⟩ := ochk h
  refine mIA dd259_16 (cf12_39 c_a1).2.1 (cf12_39 c_a1).2.2 hi ?_
  obtain ⟨v3, e_v3, h⟩ := olet h
  refine zGo_is1 e_v3 dd259_17 (x' := (18, [(3, .int v3), (0, .ref 1132), (1, .int x1), (2, .int x2)], [], _, _, _)) rfl ?_
  refine zGo_s (pc' := 19) (st' := [.ref 1132]) dd259_18 rfl ?_
  obtain ⟨a4, e_a4, c_a4, h⟩ := ordd h
  refine mGR dd259_19 rfl rfl rfl rfl e_a4 ?_
  refine mGF (e := (a4 + 15)) dd259_22 rfl (ck12_s c_a4).1 (ck12_s c_a4).2 rfl (cf12_17 c_a4).1 ?_
  refine zGo_s (pc' := 26) (st' := [.int x2, .ref (a4 + 15)]) dd259_25 rfl ?_
  obtain ⟨hi, h⟩ := ochk h
  refine mIA dd259_26 (cf12_17 c_a4).2.1 (cf12_17 c_a4).2.2 hi ?_
  refine zGo_s (pc' := 29) (st' := [.int (23 : Int32), .int (s.1 (a4 + 15) (nx x2))]) dd259_27 rfl ?_
  rcases oite h with ⟨hc, h⟩ | ⟨hc, h⟩
  · refine zIF dd259_29 (kNeF hc) ?_
    refine zGo_s (pc' := 33) (st' := [.ref 1132]) dd259_32 rfl ?_
    refine mGF (e := 1218) dd259_33 rfl rfl rfl rfl rfl ?_
    refine zGo_s (pc' := 37) (st' := [.int v3, .ref 1218]) dd259_36 rfl ?_
    obtain ⟨hi, h⟩ := ochk h
    refine mIA dd259_37 rfl rfl hi ?_
    rcases oite h with ⟨hc, h⟩ | ⟨hc, h⟩
    · refine zUF dd259_38 (kNeF hc) ?_
      refine zGo_s (pc' := 42) (st' := [.ref 1132]) dd259_41 rfl ?_
      refine zGo_s (pc' := 43) (st' := [.int x1, .ref 1132]) dd259_42 rfl ?_
      obtain ⟨u14, hq, h⟩ := obn0 h
      refine zCV0 (As := [.int x1]) (rest := []) (b := 1132) (q' := q_257) dd259_43 rfl rfl (rcv_m rfl rfl (by decide)) rfl rfl rfl (f257_ok (d := d) (by omega)  hq) ?_
      obtain rfl := ore0 h
      exact zGo_ret dd259_46 rfl rfl
    · refine zUT dd259_38 rfl (kNeT hc) ?_
      refine zGo_s (pc' := 48) (st' := [.ref 1132]) dd259_47 rfl ?_
      refine mGF (e := 1207) dd259_48 rfl rfl rfl rfl rfl ?_
      refine zGo_s (pc' := 52) (st' := [.ref 1132, .ref 1207]) dd259_51 rfl ?_
      obtain ⟨a9, e_a9, c_a9, h⟩ := ordd h
      refine mGR dd259_52 rfl rfl rfl rfl e_a9 ?_
      refine mGF (e := (a9 + 33)) dd259_55 rfl (ck12_s c_a9).1 (ck12_s c_a9).2 rfl (cf12_39 c_a9).1 ?_
      refine zGo_s (pc' := 59) (st' := [.ref 1132, .ref (a9 + 33), .ref 1207]) dd259_58 rfl ?_
      obtain ⟨a10, e_a10, c_a10, h⟩ := ordd h
      refine mGR dd259_59 rfl rfl rfl rfl e_a10 ?_
      refine mGF (e := (a10 + 18)) dd259_62 rfl (ck12_s c_a10).1 (ck12_s c_a10).2 rfl (cf12_20 c_a10).1 ?_
      refine zGo_s (pc' := 66) (st' := [.int x2, .ref (a10 + 18), .ref (a9 + 33), .ref 1207]) dd259_65 rfl ?_
      obtain ⟨hi, h⟩ := ochk h
      refine mIA dd259_66 (cf12_20 c_a10).2.1 (cf12_20 c_a10).2.2 hi ?_
      obtain ⟨hi, h⟩ := ochk h
      refine mIA dd259_67 (cf12_39 c_a9).2.1 (cf12_39 c_a9).2.2 hi ?_
      refine zGo_s (pc' := 69) (st' := [.ref 1132, .int (s.1 (a9 + 33) (nx (s.1 (a10 + 18) (nx x2)))), .ref 1207]) dd259_68 rfl ?_
      refine zGo_s (pc' := 70) (st' := [.int v3, .ref 1132, .int (s.1 (a9 + 33) (nx (s.1 (a10 + 18) (nx x2)))), .ref 1207]) dd259_69 rfl ?_
      obtain ⟨v12, u11, hq, h⟩ := obnd h
      refine zCV1 (As := [.int v3]) (rest := [.int (s.1 (a9 + 33) (nx (s.1 (a10 + 18) (nx x2)))), .ref 1207]) (b := 1132) (q' := q_236) dd259_70 rfl rfl (rcv_m rfl rfl (by decide)) rfl rfl rfl (f236_ok (d := d) (by omega)  hq) ?_
      obtain ⟨hi, h⟩ := ochk h
      obtain ⟨u13, e_u13, h⟩ := olet h
      refine mIS dd259_73 rfl rfl hi e_u13 ?_
      refine zGo_s (pc' := 155) (st' := []) dd259_74 rfl ?_
      exact zGo_lv (lv := [(0, .ref 1132), (1, .int x1)]) ⟨by simp, by simp, by simp⟩ (f259_155_ok hd h)
  · refine zIT dd259_29 rfl (kNeT hc) ?_
    refine zGo_s (pc' := 78) (st' := [.ref 1132]) dd259_77 rfl ?_
    refine zGo_s (pc' := 79) (st' := [.int x1, .ref 1132]) dd259_78 rfl ?_
    refine zGo_s (pc' := 80) (st' := [.ref 1132, .int x1, .ref 1132]) dd259_79 rfl ?_
    obtain ⟨a5, e_a5, c_a5, h⟩ := ordd h
    refine mGR dd259_80 rfl rfl rfl rfl e_a5 ?_
    refine mGF (e := (a5 + 22)) dd259_83 rfl (ck12_s c_a5).1 (ck12_s c_a5).2 rfl (cf12_24 c_a5).1 ?_
    refine zGo_s (pc' := 87) (st' := [.int (4 : Int32), .ref (a5 + 22), .int x1, .ref 1132]) dd259_86 rfl ?_
    refine zGo_s (pc' := 88) (st' := [.int x2, .int (4 : Int32), .ref (a5 + 22), .int x1, .ref 1132]) dd259_87 rfl ?_
    refine zGo_s (pc' := 89) (st' := [.int ((4 : Int32) * x2), .ref (a5 + 22), .int x1, .ref 1132]) dd259_88 rfl ?_
    obtain ⟨hi, h⟩ := ochk h
    refine mIA dd259_89 (cf12_24 c_a5).2.1 (cf12_24 c_a5).2.2 hi ?_
    obtain ⟨v7, u6, hq, h⟩ := obnd h
    refine zCV1 (As := [.int x1, .int (s.1 (a5 + 22) (nx ((4 : Int32) * x2)))]) (rest := []) (b := 1132) (q' := q_243) dd259_90 rfl rfl (rcv_m rfl rfl (by decide)) rfl rfl rfl (f243_ok (d := d) (by omega)  hq) ?_
    refine zGo_s (pc' := 95) (st' := []) (lv' := [(4, .int v7), (3, .int v3), (0, .ref 1132), (1, .int x1), (2, .int x2)]) dd259_93 rfl ?_
    refine zGo_s (pc' := 96) (st' := [.ref 1132]) dd259_95 rfl ?_
    refine mGI dd259_96 rfl rfl rfl rfl ?_
    rcases oite h with ⟨hc, h⟩ | ⟨hc, h⟩
    · refine zUF dd259_99 (kNeF hc) ?_
      refine zGo_s (pc' := 103) (st' := [.ref 1132]) dd259_102 rfl ?_
      refine mGF (e := 1220) dd259_103 rfl rfl rfl rfl rfl ?_
      refine zGo_s (pc' := 107) (st' := [.int v3, .ref 1220]) dd259_106 rfl ?_
      obtain ⟨hi, h⟩ := ochk h
      refine mIA dd259_107 rfl rfl hi ?_
      refine zGo_s (pc' := 110) (st' := [.int (40 : Int32), .int (u6.1 1220 (nx v3))]) dd259_108 rfl ?_
      rcases oite h with ⟨hc, h⟩ | ⟨hc, h⟩
      · refine zIF dd259_110 (kNeF hc) ?_
        refine zGo_s (pc' := 114) (st' := [.ref 1132]) dd259_113 rfl ?_
        refine zGo_s (pc' := 116) (st' := [.int (8 : Int32), .ref 1132]) dd259_114 rfl ?_
        obtain ⟨u8, hq, h⟩ := obn0 h
        refine zCV0 (As := [.int (8 : Int32)]) (rest := []) (b := 1132) (q' := q_246) dd259_116 rfl rfl (rcv_m rfl rfl (by decide)) rfl rfl rfl (f246_ok (d := d) (by omega)  hq) ?_
        exact zGo_lv (lv := [(0, .ref 1132), (1, .int x1), (3, .int v3), (4, .int v7)]) ⟨by simp, by simp, by simp⟩ (f259_119_ok hd h)
      · refine zIT dd259_110 rfl (kNeT hc) ?_
        exact zGo_lv (lv := [(0, .ref 1132), (1, .int x1), (3, .int v3), (4, .int v7)]) ⟨by simp, by simp, by simp⟩ (f259_119_ok hd h)
    · refine zUT dd259_99 rfl (kNeT hc) ?_
      exact zGo_lv (lv := [(0, .ref 1132), (1, .int x1), (3, .int v3), (4, .int v7)]) ⟨by simp, by simp, by simp⟩ (f259_119_ok hd h)
/-! PHModel.rankOf(I)I -/
theorem dd262_0 : decode cX13_rankOf 0 = .ok (.aload_n 0, 1) := by decide +kernel
theorem dd262_1 : decode cX13_rankOf 1 = .ok (.getfield 91, 3) := by decide +kernel
theorem dd262_4 : decode cX13_rankOf 4 = .ok (.iload_n 1, 1) := by decide +kernel
theorem dd262_5 : decode cX13_rankOf 5 = .ok (.iaload, 1) := by decide +kernel
theorem dd262_6 : decode cX13_rankOf 6 = .ok (.ifCond .ne 15, 3) := by decide +kernel
theorem dd262_9 : decode cX13_rankOf 9 = .ok (.aload_n 0, 1) := by decide +kernel
theorem dd262_10 : decode cX13_rankOf 10 = .ok (.getfield 20, 3) := by decide +kernel
theorem dd262_13 : decode cX13_rankOf 13 = .ok (.getfield 533, 3) := by decide +kernel
theorem dd262_16 : decode cX13_rankOf 16 = .ok (.iload_n 1, 1) := by decide +kernel
theorem dd262_17 : decode cX13_rankOf 17 = .ok (.iaload, 1) := by decide +kernel
theorem dd262_18 : decode cX13_rankOf 18 = .ok (.goto 9, 3) := by decide +kernel
theorem dd262_21 : decode cX13_rankOf 21 = .ok (.aload_n 0, 1) := by decide +kernel
theorem dd262_22 : decode cX13_rankOf 22 = .ok (.getfield 94, 3) := by decide +kernel
theorem dd262_25 : decode cX13_rankOf 25 = .ok (.iload_n 1, 1) := by decide +kernel
theorem dd262_26 : decode cX13_rankOf 26 = .ok (.iaload, 1) := by decide +kernel
theorem dd262_27 : decode cX13_rankOf 27 = .ok (.ireturn, 1) := by decide +kernel
def f262 (n : Nat) (x1 : Int32) (s : zσ) : Option (Int32 × zσ) :=
    if zin? x1 8 = true then
    if (s.1 1225 (nx x1)) = (0 : Int32) then
    zrd 12 (s.2.2 1132 11) fun a1 =>
    if zin? x1 8 = true then
    some ((s.1 (a1 + 8) (nx x1)), s)
    else none
    else if zin? x1 8 = true then
    some ((s.1 1226 (nx x1)), s)
    else none
    else none
set_option maxRecDepth 20000 in
theorem f262_ok {n d : Nat} {x1 : Int32} {s : zσ} {v : Int32} {s2 : zσ} (hd : 0 ≤ d) (h : f262 n x1 s = some (v, s2)) {w : zσ} {fz : Bool} {L : Nat} {xs : Nat → Int32} : zGo (zX fz L xs) d q_262 (0, [(0, .ref 1132), (1, .int x1)], [], zmk w s, 0, 0) (some (.int v), zmk w s2, 0, 0) := by
  unfold f262 at h
  refine zGo_s (pc' := 1) (st' := [.ref 1132]) dd262_0 rfl ?_
  refine mGF (e := 1225) dd262_1 rfl rfl rfl rfl rfl ?_
  refine zGo_s (pc' := 5) (st' := [.int x1, .ref 1225]) dd262_4 rfl ?_
  obtain ⟨hi, h⟩ := ochk h
  refine mIA dd262_5 rfl rfl hi ?_
  rcases oite h with ⟨hc, h⟩ | ⟨hc, h⟩
  · refine zUF dd262_6 (kNeF hc) ?_
    refine zGo_s (pc' := 10) (st' := [.ref 1132]) dd262_9 rfl ?_
    obtain ⟨a1, e_a1, c_a1, h⟩ := ordd h
    refine mGR dd262_10 rfl rfl rfl rfl e_a1 ?_
    refine mGF (e := (a1 + 8)) dd262_13 rfl (ck12_s c_a1).1 (ck12_s c_a1).2 rfl (cf12_8 c_a1).1 ?_
    refine zGo_s (pc' := 17) (st' := [.int x1, .ref (a1 + 8)]) dd262_16 rfl ?_
    obtain ⟨hi, h⟩ := ochk h
    refine mIA dd262_17 (cf12_8 c_a1).2.1 (cf12_8 c_a1).2.2 hi ?_
    refine zGo_s (pc' := 27) (st' := [.int (s.1 (a1 + 8) (nx x1))]) dd262_18 rfl ?_
    obtain ⟨rfl, rfl⟩ := oret h
    exact zGo_ret dd262_27 rfl rfl
  · refine zUT dd262_6 rfl (kNeT hc) ?_
    refine zGo_s (pc' := 22) (st' := [.ref 1132]) dd262_21 rfl ?_
    refine mGF (e := 1226) dd262_22 rfl rfl rfl rfl rfl ?_
    refine zGo_s (pc' := 26) (st' := [.int x1, .ref 1226]) dd262_25 rfl ?_
    obtain ⟨hi, h⟩ := ochk h
    refine mIA dd262_26 rfl rfl hi ?_
    obtain ⟨rfl, rfl⟩ := oret h
    exact zGo_ret dd262_27 rfl rfl
/-! PHModel.comes(I)V -/
theorem dd261_0 : decode cX13_comes 0 = .ok (.aload_n 0, 1) := by decide +kernel
theorem dd261_1 : decode cX13_comes 1 = .ok (.getfield 57, 3) := by decide +kernel
theorem dd261_4 : decode cX13_comes 4 = .ok (.iload_n 1, 1) := by decide +kernel
theorem dd261_5 : decode cX13_comes 5 = .ok (.baload, 1) := by decide +kernel
theorem dd261_6 : decode cX13_comes 6 = .ok (.ifCond .ne 11, 3) := by decide +kernel
theorem dd261_9 : decode cX13_comes 9 = .ok (.aload_n 0, 1) := by decide +kernel
theorem dd261_10 : decode cX13_comes 10 = .ok (.getfield 61, 3) := by decide +kernel
theorem dd261_13 : decode cX13_comes 13 = .ok (.iload_n 1, 1) := by decide +kernel
theorem dd261_14 : decode cX13_comes 14 = .ok (.iconst 1, 1) := by decide +kernel
theorem dd261_15 : decode cX13_comes 15 = .ok (.bastore, 1) := by decide +kernel
theorem dd261_16 : decode cX13_comes 16 = .ok (.return_, 1) := by decide +kernel
theorem dd261_17 : decode cX13_comes 17 = .ok (.aload_n 0, 1) := by decide +kernel
theorem dd261_18 : decode cX13_comes 18 = .ok (.getfield 64, 3) := by decide +kernel
theorem dd261_21 : decode cX13_comes 21 = .ok (.iload_n 1, 1) := by decide +kernel
theorem dd261_22 : decode cX13_comes 22 = .ok (.dup2, 1) := by decide +kernel
theorem dd261_23 : decode cX13_comes 23 = .ok (.iaload, 1) := by decide +kernel
theorem dd261_24 : decode cX13_comes 24 = .ok (.iconst 1, 1) := by decide +kernel
theorem dd261_25 : decode cX13_comes 25 = .ok (.iadd, 1) := by decide +kernel
theorem dd261_26 : decode cX13_comes 26 = .ok (.iastore, 1) := by decide +kernel
theorem dd261_27 : decode cX13_comes 27 = .ok (.iconst 0, 1) := by decide +kernel
theorem dd261_28 : decode cX13_comes 28 = .ok (.istore_n 2, 1) := by decide +kernel
theorem dd261_29 : decode cX13_comes 29 = .ok (.iconst 1, 1) := by decide +kernel
theorem dd261_30 : decode cX13_comes 30 = .ok (.istore_n 3, 1) := by decide +kernel
theorem dd261_31 : decode cX13_comes 31 = .ok (.iload_n 3, 1) := by decide +kernel
theorem dd261_32 : decode cX13_comes 32 = .ok (.bipush 9, 2) := by decide +kernel
theorem dd261_34 : decode cX13_comes 34 = .ok (.if_icmp .gt 73, 3) := by decide +kernel
theorem dd261_37 : decode cX13_comes 37 = .ok (.iconst 0, 1) := by decide +kernel
theorem dd261_38 : decode cX13_comes 38 = .ok (.istore 4, 2) := by decide +kernel
theorem dd261_40 : decode cX13_comes 40 = .ok (.iload 4, 2) := by decide +kernel
theorem dd261_42 : decode cX13_comes 42 = .ok (.iconst 2, 1) := by decide +kernel
theorem dd261_43 : decode cX13_comes 43 = .ok (.aload_n 0, 1) := by decide +kernel
theorem dd261_44 : decode cX13_comes 44 = .ok (.invokevirtual 583, 3) := by decide +kernel
theorem dd261_47 : decode cX13_comes 47 = .ok (.imul, 1) := by decide +kernel
theorem dd261_48 : decode cX13_comes 48 = .ok (.if_icmp .ge 53, 3) := by decide +kernel
theorem dd261_51 : decode cX13_comes 51 = .ok (.aload_n 0, 1) := by decide +kernel
theorem dd261_52 : decode cX13_comes 52 = .ok (.getfield 136, 3) := by decide +kernel
theorem dd261_55 : decode cX13_comes 55 = .ok (.iload 4, 2) := by decide +kernel
theorem dd261_57 : decode cX13_comes 57 = .ok (.baload, 1) := by decide +kernel
theorem dd261_58 : decode cX13_comes 58 = .ok (.ifCond .eq 37, 3) := by decide +kernel
theorem dd261_61 : decode cX13_comes 61 = .ok (.aload_n 0, 1) := by decide +kernel
theorem dd261_62 : decode cX13_comes 62 = .ok (.getfield 148, 3) := by decide +kernel
theorem dd261_65 : decode cX13_comes 65 = .ok (.iload 4, 2) := by decide +kernel
theorem dd261_67 : decode cX13_comes 67 = .ok (.iaload, 1) := by decide +kernel
theorem dd261_68 : decode cX13_comes 68 = .ok (.iload_n 1, 1) := by decide +kernel
theorem dd261_69 : decode cX13_comes 69 = .ok (.if_icmp .ne 26, 3) := by decide +kernel
theorem dd261_72 : decode cX13_comes 72 = .ok (.aload_n 0, 1) := by decide +kernel
theorem dd261_73 : decode cX13_comes 73 = .ok (.iload 4, 2) := by decide +kernel
theorem dd261_75 : decode cX13_comes 75 = .ok (.iconst 2, 1) := by decide +kernel
theorem dd261_76 : decode cX13_comes 76 = .ok (.idiv, 1) := by decide +kernel
theorem dd261_77 : decode cX13_comes 77 = .ok (.invokevirtual 742, 3) := by decide +kernel
theorem dd261_80 : decode cX13_comes 80 = .ok (.iload_n 3, 1) := by decide +kernel
theorem dd261_81 : decode cX13_comes 81 = .ok (.if_icmp .ne 14, 3) := by decide +kernel
theorem dd261_84 : decode cX13_comes 84 = .ok (.aload_n 0, 1) := by decide +kernel
theorem dd261_85 : decode cX13_comes 85 = .ok (.getfield 158, 3) := by decide +kernel
theorem dd261_88 : decode cX13_comes 88 = .ok (.iload_n 2, 1) := by decide +kernel
theorem dd261_89 : decode cX13_comes 89 = .ok (.iload 4, 2) := by decide +kernel
theorem dd261_91 : decode cX13_comes 91 = .ok (.iastore, 1) := by decide +kernel
theorem dd261_92 : decode cX13_comes 92 = .ok (.iinc 2 1, 3) := by decide +kernel
theorem dd261_95 : decode cX13_comes 95 = .ok (.iinc 4 1, 3) := by decide +kernel
theorem dd261_98 : decode cX13_comes 98 = .ok (.goto (-58), 3) := by decide +kernel
theorem dd261_101 : decode cX13_comes 101 = .ok (.iinc 3 1, 3) := by decide +kernel
theorem dd261_104 : decode cX13_comes 104 = .ok (.goto (-73), 3) := by decide +kernel
theorem dd261_107 : decode cX13_comes 107 = .ok (.iconst 0, 1) := by decide +kernel
theorem dd261_108 : decode cX13_comes 108 = .ok (.istore_n 3, 1) := by decide +kernel
theorem dd261_109 : decode cX13_comes 109 = .ok (.iload_n 3, 1) := by decide +kernel
theorem dd261_110 : decode cX13_comes 110 = .ok (.iload_n 2, 1) := by decide +kernel
theorem dd261_111 : decode cX13_comes 111 = .ok (.if_icmp .ge 48, 3) := by decide +kernel
theorem dd261_114 : decode cX13_comes 114 = .ok (.aload_n 0, 1) := by decide +kernel
theorem dd261_115 : decode cX13_comes 115 = .ok (.getfield 136, 3) := by decide +kernel
theorem dd261_118 : decode cX13_comes 118 = .ok (.aload_n 0, 1) := by decide +kernel
theorem dd261_119 : decode cX13_comes 119 = .ok (.getfield 158, 3) := by decide +kernel
theorem dd261_122 : decode cX13_comes 122 = .ok (.iload_n 3, 1) := by decide +kernel
theorem dd261_123 : decode cX13_comes 123 = .ok (.iaload, 1) := by decide +kernel
theorem dd261_124 : decode cX13_comes 124 = .ok (.baload, 1) := by decide +kernel
theorem dd261_125 : decode cX13_comes 125 = .ok (.ifCond .eq 28, 3) := by decide +kernel
theorem dd261_128 : decode cX13_comes 128 = .ok (.aload_n 0, 1) := by decide +kernel
theorem dd261_129 : decode cX13_comes 129 = .ok (.getfield 148, 3) := by decide +kernel
theorem dd261_132 : decode cX13_comes 132 = .ok (.aload_n 0, 1) := by decide +kernel
theorem dd261_133 : decode cX13_comes 133 = .ok (.getfield 158, 3) := by decide +kernel
theorem dd261_136 : decode cX13_comes 136 = .ok (.iload_n 3, 1) := by decide +kernel
theorem dd261_137 : decode cX13_comes 137 = .ok (.iaload, 1) := by decide +kernel
theorem dd261_138 : decode cX13_comes 138 = .ok (.iaload, 1) := by decide +kernel
theorem dd261_139 : decode cX13_comes 139 = .ok (.iload_n 1, 1) := by decide +kernel
theorem dd261_140 : decode cX13_comes 140 = .ok (.if_icmp .ne 13, 3) := by decide +kernel
theorem dd261_143 : decode cX13_comes 143 = .ok (.aload_n 0, 1) := by decide +kernel
theorem dd261_144 : decode cX13_comes 144 = .ok (.aload_n 0, 1) := by decide +kernel
theorem dd261_145 : decode cX13_comes 145 = .ok (.getfield 158, 3) := by decide +kernel
theorem dd261_148 : decode cX13_comes 148 = .ok (.iload_n 3, 1) := by decide +kernel
theorem dd261_149 : decode cX13_comes 149 = .ok (.iaload, 1) := by decide +kernel
theorem dd261_150 : decode cX13_comes 150 = .ok (.invokevirtual 740, 3) := by decide +kernel
theorem dd261_153 : decode cX13_comes 153 = .ok (.iinc 3 1, 3) := by decide +kernel
theorem dd261_156 : decode cX13_comes 156 = .ok (.goto (-47), 3) := by decide +kernel
theorem dd261_159 : decode cX13_comes 159 = .ok (.return_, 1) := by decide +kernel
def f261_153 (n : Nat) (r109 : Int32 → Int32 → Int32 → zσ → Option zσ) (x1 : Int32) (x2 : Int32) (x3 : Int32) (s : zσ) : Option zσ :=
    r109 x1 x2 (x3 + (1 : Int32)) s
set_option maxRecDepth 20000 in
theorem f261_153_ok {n d : Nat} {r109 : Int32 → Int32 → Int32 → zσ → Option zσ} {x1 : Int32} {x2 : Int32} {x3 : Int32} {s : zσ} {s2 : zσ} (hd : 29 ≤ d) (hr109 : ∀ (x1 : Int32) (x2 : Int32) (x3 : Int32) (s : zσ) (s2 : zσ), r109 x1 x2 x3 s = some s2 → ∀ {w : zσ} {fz : Bool} {L : Nat} {xs : Nat → Int32}, zGo (zX fz L xs) d q_261 (109, [(0, .ref 1132), (1, .int x1), (2, .int x2), (3, .int x3)], [], zmk w s, 0, 0) (none, zmk w s2, 0, 0)) (h : f261_153 n r109 x1 x2 x3 s = some s2) {w : zσ} {fz : Bool} {L : Nat} {xs : Nat → Int32} : zGo (zX fz L xs) d q_261 (153, [(0, .ref 1132), (1, .int x1), (2, .int x2), (3, .int x3)], [], zmk w s, 0, 0) (none, zmk w s2, 0, 0) := by
  obtain ⟨d, rfl⟩ : ∃ d0, d = d0 + 1 := ⟨d - 1, by omega⟩
  unfold f261_153 at h
  refine zGo_s (pc' := 156) (st' := []) (lv' := [(3, .int (x3 + (1 : Int32))), (0, .ref 1132), (1, .int x1), (2, .int x2)]) dd261_153 rfl ?_
  refine zGo_s (pc' := 109) (st' := []) dd261_156 rfl ?_
  exact zGo_lv (lv := [(0, .ref 1132), (1, .int x1), (2, .int x2), (3, .int (x3 + (1 : Int32)))]) ⟨by simp, by simp, by simp⟩ (hr109 _ _ _ _ _ h)
def f261_109 (n : Nat) : Nat → Int32 → Int32 → Int32 → zσ → Option zσ
  | 0, _, _, _, _ => none
  | j + 1, x1, x2, x3, s =>
    if x3 < x2 then
    if zin? x3 16 = true then
    if zin? (s.1 1247 (nx x3)) 16 = true then
    if (s.1 1240 (nx (s.1 1247 (nx x3)))) = (0 : Int32) then
    f261_153 n (f261_109 n j) x1 x2 x3 s
    else if zin? x3 16 = true then
    if zin? (s.1 1247 (nx x3)) 16 = true then
    if (s.1 1244 (nx (s.1 1247 (nx x3)))) = x1 then
    if zin? x3 16 = true then
    yb0 (f224 n (s.1 1247 (nx x3)) s) fun u1 =>
    f261_153 n (f261_109 n j) x1 x2 x3 u1
    else none
    else f261_153 n (f261_109 n j) x1 x2 x3 s
    else none
    else none
    else none
    else none
    else some s
set_option maxRecDepth 20000 in
theorem f261_109_ok {n d : Nat} (hd : 29 ≤ d) : ∀ (j : Nat) (x1 : Int32) (x2 : Int32) (x3 : Int32) (s : zσ) (s2 : zσ), f261_109 n j x1 x2 x3 s = some s2 → ∀ {w : zσ} {fz : Bool} {L : Nat} {xs : Nat → Int32}, zGo (zX fz L xs) d q_261 (109, [(0, .ref 1132), (1, .int x1), (2, .int x2), (3, .int x3)], [], zmk w s, 0, 0) (none, zmk w s2, 0, 0) := by
  obtain ⟨d, rfl⟩ : ∃ d0, d = d0 + 1 := ⟨d - 1, by omega⟩
  intro j
  induction j with
  | zero => intro x1 x2 x3 s s2 h; cases h
  | succ j ih =>
    intro x1 x2 x3 s s2 h w fz L xs
    rw [f261_109] at h
    refine zGo_s (pc' := 110) (st' := [.int x3]) dd261_109 rfl ?_
    refine zGo_s (pc' := 111) (st' := [.int x2, .int x3]) dd261_110 rfl ?_
    rcases oite h with ⟨hc, h⟩ | ⟨hc, h⟩
    · refine zIF dd261_111 (kGeF hc) ?_
      refine zGo_s (pc' := 115) (st' := [.ref 1132]) dd261_114 rfl ?_
      refine mGF (e := 1240) dd261_115 rfl rfl rfl rfl rfl ?_
      refine zGo_s (pc' := 119) (st' := [.ref 1132, .ref 1240]) dd261_118 rfl ?_
      refine mGF (e := 1247) dd261_119 rfl rfl rfl rfl rfl ?_
      refine zGo_s (pc' := 123) (st' := [.int x3, .ref 1247, .ref 1240]) dd261_122 rfl ?_
      obtain ⟨hi, h⟩ := ochk h
      refine mIA dd261_123 rfl rfl hi ?_
      obtain ⟨hi, h⟩ := ochk h
      refine mBA dd261_124 rfl rfl rfl hi ?_
      rcases oite h with ⟨hc, h⟩ | ⟨hc, h⟩
      · refine zUT dd261_125 rfl (kEqT hc) ?_
        exact f261_153_ok hd ih h
      · refine zUF dd261_125 (kEqF hc) ?_
        refine zGo_s (pc' := 129) (st' := [.ref 1132]) dd261_128 rfl ?_
        refine mGF (e := 1244) dd261_129 rfl rfl rfl rfl rfl ?_
        refine zGo_s (pc' := 133) (st' := [.ref 1132, .ref 1244]) dd261_132 rfl ?_
        refine mGF (e := 1247) dd261_133 rfl rfl rfl rfl rfl ?_
        refine zGo_s (pc' := 137) (st' := [.int x3, .ref 1247, .ref 1244]) dd261_136 rfl ?_
        obtain ⟨hi, h⟩ := ochk h
        refine mIA dd261_137 rfl rfl hi ?_
        obtain ⟨hi, h⟩ := ochk h
        refine mIA dd261_138 rfl rfl hi ?_
        refine zGo_s (pc' := 140) (st' := [.int x1, .int (s.1 1244 (nx (s.1 1247 (nx x3))))]) dd261_139 rfl ?_
        rcases oite h with ⟨hc, h⟩ | ⟨hc, h⟩
        · refine zIF dd261_140 (kNeF hc) ?_
          refine zGo_s (pc' := 144) (st' := [.ref 1132]) dd261_143 rfl ?_
          refine zGo_s (pc' := 145) (st' := [.ref 1132, .ref 1132]) dd261_144 rfl ?_
          refine mGF (e := 1247) dd261_145 rfl rfl rfl rfl rfl ?_
          refine zGo_s (pc' := 149) (st' := [.int x3, .ref 1247, .ref 1132]) dd261_148 rfl ?_
          obtain ⟨hi, h⟩ := ochk h
          refine mIA dd261_149 rfl rfl hi ?_
          obtain ⟨u1, hq, h⟩ := obn0 h
          refine zCV0 (As := [.int (s.1 1247 (nx x3))]) (rest := []) (b := 1132) (q' := q_224) dd261_150 rfl rfl (rcv_m rfl rfl (by decide)) rfl rfl rfl (f224_ok (d := d) (by omega)  hq) ?_
          exact f261_153_ok hd ih h
        · refine zIT dd261_140 rfl (kNeT hc) ?_
          exact f261_153_ok hd ih h
    · refine zIT dd261_111 rfl (kGeT hc) ?_
      obtain rfl := ore0 h
      exact zGo_ret dd261_159 rfl rfl
def f261_95 (n : Nat) (r31 : Int32 → Int32 → Int32 → zσ → Option zσ) (r40 : Int32 → Int32 → Int32 → Int32 → zσ → Option zσ) (x1 : Int32) (x2 : Int32) (x3 : Int32) (x4 : Int32) (s : zσ) : Option zσ :=
    r40 x1 x2 x3 (x4 + (1 : Int32)) s
set_option maxRecDepth 20000 in
theorem f261_95_ok {n d : Nat} {r31 : Int32 → Int32 → Int32 → zσ → Option zσ} {r40 : Int32 → Int32 → Int32 → Int32 → zσ → Option zσ} {x1 : Int32} {x2 : Int32} {x3 : Int32} {x4 : Int32} {s : zσ} {s2 : zσ} (hd : 29 ≤ d) (hr31 : ∀ (x1 : Int32) (x2 : Int32) (x3 : Int32) (s : zσ) (s2 : zσ), r31 x1 x2 x3 s = some s2 → ∀ {w : zσ} {fz : Bool} {L : Nat} {xs : Nat → Int32}, zGo (zX fz L xs) d q_261 (31, [(0, .ref 1132), (1, .int x1), (2, .int x2), (3, .int x3)], [], zmk w s, 0, 0) (none, zmk w s2, 0, 0)) (hr40 : ∀ (x1 : Int32) (x2 : Int32) (x3 : Int32) (x4 : Int32) (s : zσ) (s2 : zσ), r40 x1 x2 x3 x4 s = some s2 → ∀ {w : zσ} {fz : Bool} {L : Nat} {xs : Nat → Int32}, zGo (zX fz L xs) d q_261 (40, [(0, .ref 1132), (1, .int x1), (2, .int x2), (3, .int x3), (4, .int x4)], [], zmk w s, 0, 0) (none, zmk w s2, 0, 0)) (h : f261_95 n r31 r40 x1 x2 x3 x4 s = some s2) {w : zσ} {fz : Bool} {L : Nat} {xs : Nat → Int32} : zGo (zX fz L xs) d q_261 (95, [(0, .ref 1132), (1, .int x1), (2, .int x2), (3, .int x3), (4, .int x4)], [], zmk w s, 0, 0) (none, zmk w s2, 0, 0) := by
  obtain ⟨d, rfl⟩ : ∃ d0, d = d0 + 1 := ⟨d - 1, by omega⟩
  unfold f261_95 at h
  refine zGo_s (pc' := 98) (st' := []) (lv' := [(4, .int (x4 + (1 : Int32))), (0, .ref 1132), (1, .int x1), (2, .int x2), (3, .int x3)]) dd261_95 rfl ?_
  refine zGo_s (pc' := 40) (st' := []) dd261_98 rfl ?_
  exact zGo_lv (lv := [(0, .ref 1132), (1, .int x1), (2, .int x2), (3, .int x3), (4, .int (x4 + (1 : Int32)))]) ⟨by simp, by simp, by simp⟩ (hr40 _ _ _ _ _ _ h)
def f261_40 (n : Nat) (r31 : Int32 → Int32 → Int32 → zσ → Option zσ) : Nat → Int32 → Int32 → Int32 → Int32 → zσ → Option zσ
  | 0, _, _, _, _, _ => none
  | j + 1, x1, x2, x3, x4, s =>
    yb1 (f209 n s) fun v2 u1 =>
    if x4 < ((2 : Int32) * v2) then
    if zin? x4 16 = true then
    if (u1.1 1240 (nx x4)) = (0 : Int32) then
    f261_95 n r31 (f261_40 n r31 j) x1 x2 x3 x4 u1
    else if zin? x4 16 = true then
    if (u1.1 1244 (nx x4)) = x1 then
    yb1 (f262 n (x4 / (2 : Int32)) u1) fun v4 u3 =>
    if v4 = x3 then
    if zin? x2 16 = true then
    zlet (sI u3 1247 (nx x2) x4) fun u5 =>
    f261_95 n r31 (f261_40 n r31 j) x1 (x2 + (1 : Int32)) x3 x4 u5
    else none
    else f261_95 n r31 (f261_40 n r31 j) x1 x2 x3 x4 u3
    else f261_95 n r31 (f261_40 n r31 j) x1 x2 x3 x4 u1
    else none
    else none
    else r31 x1 x2 (x3 + (1 : Int32)) u1
set_option maxRecDepth 20000 in
theorem f261_40_ok {n d : Nat} {r31 : Int32 → Int32 → Int32 → zσ → Option zσ} (hd : 29 ≤ d) (hr31 : ∀ (x1 : Int32) (x2 : Int32) (x3 : Int32) (s : zσ) (s2 : zσ), r31 x1 x2 x3 s = some s2 → ∀ {w : zσ} {fz : Bool} {L : Nat} {xs : Nat → Int32}, zGo (zX fz L xs) d q_261 (31, [(0, .ref 1132), (1, .int x1), (2, .int x2), (3, .int x3)], [], zmk w s, 0, 0) (none, zmk w s2, 0, 0)) : ∀ (j : Nat) (x1 : Int32) (x2 : Int32) (x3 : Int32) (x4 : Int32) (s : zσ) (s2 : zσ), f261_40 n r31 j x1 x2 x3 x4 s = some s2 → ∀ {w : zσ} {fz : Bool} {L : Nat} {xs : Nat → Int32}, zGo (zX fz L xs) d q_261 (40, [(0, .ref 1132), (1, .int x1), (2, .int x2), (3, .int x3), (4, .int x4)], [], zmk w s, 0, 0) (none, zmk w s2, 0, 0) := by
  obtain ⟨d, rfl⟩ : ∃ d0, d = d0 + 1 := ⟨d - 1, by omega⟩
  intro j
  induction j with
  | zero => intro x1 x2 x3 x4 s s2 h; cases h
  | succ j ih =>
    intro x1 x2 x3 x4 s s2 h w fz L xs
    rw [f261_40] at h
    refine zGo_s (pc' := 42) (st' := [.int x4]) dd261_40 rfl ?_
    refine zGo_s (pc' := 43) (st' := [.int (2 : Int32), .int x4]) dd261_42 rfl ?_
    refine zGo_s (pc' := 44) (st' := [.ref 1132, .int (2 : Int32), .int x4]) dd261_43 rfl ?_
    obtain ⟨v2, u1, hq, h⟩ := obnd h
    refine zCV1 (As := []) (rest := [.int (2 : Int32), .int x4]) (b := 1132) (q' := q_209) dd261_44 rfl rfl (rcv_m rfl rfl (by decide)) rfl rfl rfl (f209_ok (d := d) (by omega)  hq) ?_
    refine zGo_s (pc' := 48) (st' := [.int ((2 : Int32) * v2), .int x4]) dd261_47 rfl ?_
    rcases oite h with ⟨hc, h⟩ | ⟨hc, h⟩
    · refine zIF dd261_48 (kGeF hc) ?_
      refine zGo_s (pc' := 52) (st' := [.ref 1132]) dd261_51 rfl ?_
      refine mGF (e := 1240) dd261_52 rfl rfl rfl rfl rfl ?_
      refine zGo_s (pc' := 57) (st' := [.int x4, .ref 1240]) dd261_55 rfl ?_
      obtain ⟨hi, h⟩ := ochk h
      refine mBA dd261_57 rfl rfl rfl hi ?_
      rcases oite h with ⟨hc, h⟩ | ⟨hc, h⟩
      · refine zUT dd261_58 rfl (kEqT hc) ?_
        exact f261_95_ok hd hr31 ih h
      · refine zUF dd261_58 (kEqF hc) ?_
        refine zGo_s (pc' := 62) (st' := [.ref 1132]) dd261_61 rfl ?_
        refine mGF (e := 1244) dd261_62 rfl rfl rfl rfl rfl ?_
        refine zGo_s (pc' := 67) (st' := [.int x4, .ref 1244]) dd261_65 rfl ?_
        obtain ⟨hi, h⟩ := ochk h
        refine mIA dd261_67 rfl rfl hi ?_
        refine zGo_s (pc' := 69) (st' := [.int x1, .int (u1.1 1244 (nx x4))]) dd261_68 rfl ?_
        rcases oite h with ⟨hc, h⟩ | ⟨hc, h⟩
        · refine zIF dd261_69 (kNeF hc) ?_
          refine zGo_s (pc' := 73) (st' := [.ref 1132]) dd261_72 rfl ?_
          refine zGo_s (pc' := 75) (st' := [.int x4, .ref 1132]) dd261_73 rfl ?_
          refine zGo_s (pc' := 76) (st' := [.int (2 : Int32), .int x4, .ref 1132]) dd261_75 rfl ?_
          refine zGo_s (pc' := 77) (st' := [.int (x4 / (2 : Int32)), .ref 1132]) dd261_76 rfl ?_
          obtain ⟨v4, u3, hq, h⟩ := obnd h
          refine zCV1 (As := [.int (x4 / (2 : Int32))]) (rest := []) (b := 1132) (q' := q_262) dd261_77 rfl rfl (rcv_m rfl rfl (by decide)) rfl rfl rfl (f262_ok (d := d) (by omega)  hq) ?_
          refine zGo_s (pc' := 81) (st' := [.int x3, .int v4]) dd261_80 rfl ?_
          rcases oite h with ⟨hc, h⟩ | ⟨hc, h⟩
          · refine zIF dd261_81 (kNeF hc) ?_
            refine zGo_s (pc' := 85) (st' := [.ref 1132]) dd261_84 rfl ?_
            refine mGF (e := 1247) dd261_85 rfl rfl rfl rfl rfl ?_
            refine zGo_s (pc' := 89) (st' := [.int x2, .ref 1247]) dd261_88 rfl ?_
            refine zGo_s (pc' := 91) (st' := [.int x4, .int x2, .ref 1247]) dd261_89 rfl ?_
            obtain ⟨hi, h⟩ := ochk h
            obtain ⟨u5, e_u5, h⟩ := olet h
            refine mIS dd261_91 rfl rfl hi e_u5 ?_
            refine zGo_s (pc' := 95) (st' := []) (lv' := [(2, .int (x2 + (1 : Int32))), (0, .ref 1132), (1, .int x1), (3, .int x3), (4, .int x4)]) dd261_92 rfl ?_
            exact zGo_lv (lv := [(0, .ref 1132), (1, .int x1), (2, .int (x2 + (1 : Int32))), (3, .int x3), (4, .int x4)]) ⟨by simp, by simp, by simp⟩ (f261_95_ok hd hr31 ih h)
          · refine zIT dd261_81 rfl (kNeT hc) ?_
            exact f261_95_ok hd hr31 ih h
        · refine zIT dd261_69 rfl (kNeT hc) ?_
          exact f261_95_ok hd hr31 ih h
    · refine zIT dd261_48 rfl (kGeT hc) ?_
      refine zGo_s (pc' := 104) (st' := []) (lv' := [(3, .int (x3 + (1 : Int32))), (0, .ref 1132), (1, .int x1), (2, .int x2), (4, .int x4)]) dd261_101 rfl ?_
      refine zGo_s (pc' := 31) (st' := []) dd261_104 rfl ?_
      exact zGo_lv (lv := [(0, .ref 1132), (1, .int x1), (2, .int x2), (3, .int (x3 + (1 : Int32)))]) ⟨by simp, by simp, by simp⟩ (hr31 _ _ _ _ _ h)
def f261_31 (n : Nat) : Nat → Int32 → Int32 → Int32 → zσ → Option zσ
  | 0, _, _, _, _ => none
  | j + 1, x1, x2, x3, s =>
    if (9 : Int32) < x3 then
    f261_109 n n x1 x2 (0 : Int32) s
    else f261_40 n (f261_31 n j) n x1 x2 x3 (0 : Int32) s
set_option maxRecDepth 20000 in
theorem f261_31_ok {n d : Nat} (hd : 29 ≤ d) : ∀ (j : Nat) (x1 : Int32) (x2 : Int32) (x3 : Int32) (s : zσ) (s2 : zσ), f261_31 n j x1 x2 x3 s = some s2 → ∀ {w : zσ} {fz : Bool} {L : Nat} {xs : Nat → Int32}, zGo (zX fz L xs) d q_261 (31, [(0, .ref 1132), (1, .int x1), (2, .int x2), (3, .int x3)], [], zmk w s, 0, 0) (none, zmk w s2, 0, 0) := by
  obtain ⟨d, rfl⟩ : ∃ d0, d = d0 + 1 := ⟨d - 1, by omega⟩
  intro j
  induction j with
  | zero => intro x1 x2 x3 s s2 h; cases h
  | succ j ih =>
    intro x1 x2 x3 s s2 h w fz L xs
    rw [f261_31] at h
    refine zGo_s (pc' := 32) (st' := [.int x3]) dd261_31 rfl ?_
    refine zGo_s (pc' := 34) (st' := [.int (9 : Int32), .int x3]) dd261_32 rfl ?_
    rcases oite h with ⟨hc, h⟩ | ⟨hc, h⟩
    · refine zIT dd261_34 rfl (kGtT hc) ?_
      refine zGo_s (pc' := 108) (st' := [.int (0 : Int32)]) dd261_107 rfl ?_
      refine zGo_s (pc' := 109) (st' := []) (lv' := [(3, .int (0 : Int32)), (0, .ref 1132), (1, .int x1), (2, .int x2)]) dd261_108 rfl ?_
      exact zGo_lv (lv := [(0, .ref 1132), (1, .int x1), (2, .int x2), (3, .int (0 : Int32))]) ⟨by simp, by simp, by simp⟩ (f261_109_ok hd _ _ _ _ _ _ h)
    · refine zIF dd261_34 (kGtF hc) ?_
      refine zGo_s (pc' := 38) (st' := [.int (0 : Int32)]) dd261_37 rfl ?_
      refine zGo_s (pc' := 40) (st' := []) (lv' := [(4, .int (0 : Int32)), (0, .ref 1132), (1, .int x1), (2, .int x2), (3, .int x3)]) dd261_38 rfl ?_
      exact zGo_lv (lv := [(0, .ref 1132), (1, .int x1), (2, .int x2), (3, .int x3), (4, .int (0 : Int32))]) ⟨by simp, by simp, by simp⟩ (f261_40_ok hd ih _ _ _ _ _ _ _ h)
def f261 (n : Nat) (x1 : Int32) (s : zσ) : Option zσ :=
    if zin? x1 4 = true then
    if (s.1 1214 (nx x1)) = (0 : Int32) then
    if zin? x1 4 = true then
    zlet (sI s 1215 (nx x1) (vp_nar .boolean (1 : Int32))) fun u2 =>
    some u2
    else none
    else if zin? x1 4 = true then
    if zin? x1 4 = true then
    zlet (sI s 1216 (nx x1) ((s.1 1216 (nx x1)) + (1 : Int32))) fun u1 =>
    f261_31 n n x1 (0 : Int32) (1 : Int32) u1
    else none
    else none
    else none
set_option maxRecDepth 20000 in
theorem f261_ok {n d : Nat} {x1 : Int32} {s : zσ} {s2 : zσ} (hd : 29 ≤ d) (h : f261 n x1 s = some s2) {w : zσ} {fz : Bool} {L : Nat} {xs : Nat → Int32} : zGo (zX fz L xs) d q_261 (0, [(0, .ref 1132), (1, .int x1)], [], zmk w s, 0, 0) (none, zmk w s2, 0, 0) := by
  obtain ⟨d, rfl⟩ : ∃ d0, d = d0 + 1 := ⟨d - 1, by omega⟩
  unfold f261 at h
  refine zGo_s (pc' := 1) (st' := [.ref 1132]) dd261_0 rfl ?_
  refine mGF (e := 1214) dd261_1 rfl rfl rfl rfl rfl ?_
  refine zGo_s (pc' := 5) (st' := [.int x1, .ref 1214]) dd261_4 rfl ?_
  obtain ⟨hi, h⟩ := ochk h
  refine mBA dd261_5 rfl rfl rfl hi ?_
  rcases oite h with ⟨hc, h⟩ | ⟨hc, h⟩
  · refine zUF dd261_6 (kNeF hc) ?_
    refine zGo_s (pc' := 10) (st' := [.ref 1132]) dd261_9 rfl ?_
    refine mGF (e := 1215) dd261_10 rfl rfl rfl rfl rfl ?_
    refine zGo_s (pc' := 14) (st' := [.int x1, .ref 1215]) dd261_13 rfl ?_
    refine zGo_s (pc' := 15) (st' := [.int (1 : Int32), .int x1, .ref 1215]) dd261_14 rfl ?_
    obtain ⟨hi, h⟩ := ochk h
    obtain ⟨u2, e_u2, h⟩ := olet h
    refine mBS dd261_15 rfl rfl rfl hi e_u2 ?_
    obtain rfl := ore0 h
    exact zGo_ret dd261_16 rfl rfl
  · refine zUT dd261_6 rfl (kNeT hc) ?_
    refine zGo_s (pc' := 18) (st' := [.ref 1132]) dd261_17 rfl ?_
    refine mGF (e := 1216) dd261_18 rfl rfl rfl rfl rfl ?_
    refine zGo_s (pc' := 22) (st' := [.int x1, .ref 1216]) dd261_21 rfl ?_
    refine zGo_s (pc' := 23) (st' := [.int x1, .ref 1216, .int x1, .ref 1216]) dd261_22 rfl ?_
    obtain ⟨hi, h⟩ := ochk h
    refine mIA dd261_23 rfl rfl hi ?_
    refine zGo_s (pc' := 25) (st' := [.int (1 : Int32), .int (s.1 1216 (nx x1)), .int x1, .ref 1216]) dd261_24 rfl ?_
    refine zGo_s (pc' := 26) (st' := [.int ((s.1 1216 (nx x1)) + (1 : Int32)), .int x1, .ref 1216]) dd261_25 rfl ?_
    obtain ⟨hi, h⟩ := ochk h
    obtain ⟨u1, e_u1, h⟩ := olet h
    refine mIS dd261_26 rfl rfl hi e_u1 ?_
    refine zGo_s (pc' := 28) (st' := [.int (0 : Int32)]) dd261_27 rfl ?_
    refine zGo_s (pc' := 29) (st' := []) (lv' := [(2, .int (0 : Int32)), (0, .ref 1132), (1, .int x1)]) dd261_28 rfl ?_
    refine zGo_s (pc' := 30) (st' := [.int (1 : Int32)]) dd261_29 rfl ?_
    refine zGo_s (pc' := 31) (st' := []) (lv' := [(3, .int (1 : Int32)), (2, .int (0 : Int32)), (0, .ref 1132), (1, .int x1)]) dd261_30 rfl ?_
    exact zGo_lv (lv := [(0, .ref 1132), (1, .int x1), (2, .int (0 : Int32)), (3, .int (1 : Int32))]) ⟨by simp, by simp, by simp⟩ (f261_31_ok hd _ _ _ _ _ _ h)
/-! PHModel.others(II)V -/
theorem dd260_0 : decode cX13_others 0 = .ok (.aload_n 0, 1) := by decide +kernel
theorem dd260_1 : decode cX13_others 1 = .ok (.getfield 20, 3) := by decide +kernel
theorem dd260_4 : decode cX13_others 4 = .ok (.getfield 459, 3) := by decide +kernel
theorem dd260_7 : decode cX13_others 7 = .ok (.iload_n 2, 1) := by decide +kernel
theorem dd260_8 : decode cX13_others 8 = .ok (.iaload, 1) := by decide +kernel
theorem dd260_9 : decode cX13_others 9 = .ok (.istore_n 3, 1) := by decide +kernel
theorem dd260_10 : decode cX13_others 10 = .ok (.iload_n 3, 1) := by decide +kernel
theorem dd260_11 : decode cX13_others 11 = .ok (.bipush 22, 2) := by decide +kernel
theorem dd260_13 : decode cX13_others 13 = .ok (.if_icmp .ne 45, 3) := by decide +kernel
theorem dd260_16 : decode cX13_others 16 = .ok (.aload_n 0, 1) := by decide +kernel
theorem dd260_17 : decode cX13_others 17 = .ok (.iload_n 1, 1) := by decide +kernel
theorem dd260_18 : decode cX13_others 18 = .ok (.aload_n 0, 1) := by decide +kernel
theorem dd260_19 : decode cX13_others 19 = .ok (.getfield 20, 3) := by decide +kernel
theorem dd260_22 : decode cX13_others 22 = .ok (.getfield 469, 3) := by decide +kernel
theorem dd260_25 : decode cX13_others 25 = .ok (.iconst 4, 1) := by decide +kernel
theorem dd260_26 : decode cX13_others 26 = .ok (.iload_n 2, 1) := by decide +kernel
theorem dd260_27 : decode cX13_others 27 = .ok (.imul, 1) := by decide +kernel
theorem dd260_28 : decode cX13_others 28 = .ok (.iaload, 1) := by decide +kernel
theorem dd260_29 : decode cX13_others 29 = .ok (.invokevirtual 662, 3) := by decide +kernel
theorem dd260_32 : decode cX13_others 32 = .ok (.istore 4, 2) := by decide +kernel
theorem dd260_34 : decode cX13_others 34 = .ok (.aload_n 0, 1) := by decide +kernel
theorem dd260_35 : decode cX13_others 35 = .ok (.iload 4, 2) := by decide +kernel
theorem dd260_37 : decode cX13_others 37 = .ok (.iconst 1, 1) := by decide +kernel
theorem dd260_38 : decode cX13_others 38 = .ok (.if_icmp .lt 10, 3) := by decide +kernel
theorem dd260_41 : decode cX13_others 41 = .ok (.iload 4, 2) := by decide +kernel
theorem dd260_43 : decode cX13_others 43 = .ok (.bipush 19, 2) := by decide +kernel
theorem dd260_45 : decode cX13_others 45 = .ok (.if_icmp .le 7, 3) := by decide +kernel
theorem dd260_48 : decode cX13_others 48 = .ok (.iconst 5, 1) := by decide +kernel
theorem dd260_49 : decode cX13_others 49 = .ok (.goto 5, 3) := by decide +kernel
theorem dd260_52 : decode cX13_others 52 = .ok (.iload 4, 2) := by decide +kernel
theorem dd260_54 : decode cX13_others 54 = .ok (.invokevirtual 644, 3) := by decide +kernel
theorem dd260_57 : decode cX13_others 57 = .ok (.return_, 1) := by decide +kernel
theorem dd260_58 : decode cX13_others 58 = .ok (.iload_n 3, 1) := by decide +kernel
theorem dd260_59 : decode cX13_others 59 = .ok (.bipush 28, 2) := by decide +kernel
theorem dd260_61 : decode cX13_others 61 = .ok (.if_icmp .ne 66, 3) := by decide +kernel
theorem dd260_64 : decode cX13_others 64 = .ok (.aload_n 0, 1) := by decide +kernel
theorem dd260_65 : decode cX13_others 65 = .ok (.iload_n 1, 1) := by decide +kernel
theorem dd260_66 : decode cX13_others 66 = .ok (.aload_n 0, 1) := by decide +kernel
theorem dd260_67 : decode cX13_others 67 = .ok (.getfield 20, 3) := by decide +kernel
theorem dd260_70 : decode cX13_others 70 = .ok (.getfield 469, 3) := by decide +kernel
theorem dd260_73 : decode cX13_others 73 = .ok (.iconst 4, 1) := by decide +kernel
theorem dd260_74 : decode cX13_others 74 = .ok (.iload_n 2, 1) := by decide +kernel
theorem dd260_75 : decode cX13_others 75 = .ok (.imul, 1) := by decide +kernel
theorem dd260_76 : decode cX13_others 76 = .ok (.iaload, 1) := by decide +kernel
theorem dd260_77 : decode cX13_others 77 = .ok (.invokevirtual 662, 3) := by decide +kernel
theorem dd260_80 : decode cX13_others 80 = .ok (.istore 4, 2) := by decide +kernel
theorem dd260_82 : decode cX13_others 82 = .ok (.aload_n 0, 1) := by decide +kernel
theorem dd260_83 : decode cX13_others 83 = .ok (.getfield 623, 3) := by decide +kernel
theorem dd260_86 : decode cX13_others 86 = .ok (.ifCond .eq 4, 3) := by decide +kernel
theorem dd260_89 : decode cX13_others 89 = .ok (.return_, 1) := by decide +kernel
theorem dd260_90 : decode cX13_others 90 = .ok (.aload_n 0, 1) := by decide +kernel
theorem dd260_91 : decode cX13_others 91 = .ok (.getfield 568, 3) := by decide +kernel
theorem dd260_94 : decode cX13_others 94 = .ok (.sipush 200, 3) := by decide +kernel
theorem dd260_97 : decode cX13_others 97 = .ok (.if_icmp .ge 14, 3) := by decide +kernel
theorem dd260_100 : decode cX13_others 100 = .ok (.aload_n 0, 1) := by decide +kernel
theorem dd260_101 : decode cX13_others 101 = .ok (.getfield 79, 3) := by decide +kernel
theorem dd260_104 : decode cX13_others 104 = .ok (.aload_n 0, 1) := by decide +kernel
theorem dd260_105 : decode cX13_others 105 = .ok (.getfield 568, 3) := by decide +kernel
theorem dd260_108 : decode cX13_others 108 = .ok (.iload 4, 2) := by decide +kernel
theorem dd260_110 : decode cX13_others 110 = .ok (.iastore, 1) := by decide +kernel
theorem dd260_111 : decode cX13_others 111 = .ok (.aload_n 0, 1) := by decide +kernel
theorem dd260_112 : decode cX13_others 112 = .ok (.dup, 1) := by decide +kernel
theorem dd260_113 : decode cX13_others 113 = .ok (.getfield 568, 3) := by decide +kernel
theorem dd260_116 : decode cX13_others 116 = .ok (.iconst 1, 1) := by decide +kernel
theorem dd260_117 : decode cX13_others 117 = .ok (.iadd, 1) := by decide +kernel
theorem dd260_118 : decode cX13_others 118 = .ok (.putfield 568, 3) := by decide +kernel
theorem dd260_121 : decode cX13_others 121 = .ok (.aload_n 0, 1) := by decide +kernel
theorem dd260_122 : decode cX13_others 122 = .ok (.iload_n 1, 1) := by decide +kernel
theorem dd260_123 : decode cX13_others 123 = .ok (.invokevirtual 665, 3) := by decide +kernel
theorem dd260_126 : decode cX13_others 126 = .ok (.return_, 1) := by decide +kernel
theorem dd260_127 : decode cX13_others 127 = .ok (.aload_n 0, 1) := by decide +kernel
theorem dd260_128 : decode cX13_others 128 = .ok (.getfield 20, 3) := by decide +kernel
theorem dd260_131 : decode cX13_others 131 = .ok (.getfield 544, 3) := by decide +kernel
theorem dd260_134 : decode cX13_others 134 = .ok (.aload_n 0, 1) := by decide +kernel
theorem dd260_135 : decode cX13_others 135 = .ok (.getfield 20, 3) := by decide +kernel
theorem dd260_138 : decode cX13_others 138 = .ok (.getfield 441, 3) := by decide +kernel
theorem dd260_141 : decode cX13_others 141 = .ok (.iload_n 2, 1) := by decide +kernel
theorem dd260_142 : decode cX13_others 142 = .ok (.iaload, 1) := by decide +kernel
theorem dd260_143 : decode cX13_others 143 = .ok (.iaload, 1) := by decide +kernel
theorem dd260_144 : decode cX13_others 144 = .ok (.istore 4, 2) := by decide +kernel
theorem dd260_146 : decode cX13_others 146 = .ok (.iload_n 3, 1) := by decide +kernel
theorem dd260_147 : decode cX13_others 147 = .ok (.bipush 25, 2) := by decide +kernel
theorem dd260_149 : decode cX13_others 149 = .ok (.if_icmp .ne 12, 3) := by decide +kernel
theorem dd260_152 : decode cX13_others 152 = .ok (.aload_n 0, 1) := by decide +kernel
theorem dd260_153 : decode cX13_others 153 = .ok (.iload 4, 2) := by decide +kernel
theorem dd260_155 : decode cX13_others 155 = .ok (.invokevirtual 722, 3) := by decide +kernel
theorem dd260_158 : decode cX13_others 158 = .ok (.goto 52, 3) := by decide +kernel
theorem dd260_161 : decode cX13_others 161 = .ok (.iload_n 3, 1) := by decide +kernel
theorem dd260_162 : decode cX13_others 162 = .ok (.bipush 27, 2) := by decide +kernel
theorem dd260_164 : decode cX13_others 164 = .ok (.if_icmp .ne 14, 3) := by decide +kernel
theorem dd260_167 : decode cX13_others 167 = .ok (.aload_n 0, 1) := by decide +kernel
theorem dd260_168 : decode cX13_others 168 = .ok (.getfield 57, 3) := by decide +kernel
theorem dd260_171 : decode cX13_others 171 = .ok (.iload 4, 2) := by decide +kernel
theorem dd260_173 : decode cX13_others 173 = .ok (.iconst 0, 1) := by decide +kernel
theorem dd260_174 : decode cX13_others 174 = .ok (.bastore, 1) := by decide +kernel
theorem dd260_175 : decode cX13_others 175 = .ok (.goto 35, 3) := by decide +kernel
theorem dd260_178 : decode cX13_others 178 = .ok (.aload_n 0, 1) := by decide +kernel
theorem dd260_179 : decode cX13_others 179 = .ok (.getfield 57, 3) := by decide +kernel
theorem dd260_182 : decode cX13_others 182 = .ok (.iload 4, 2) := by decide +kernel
theorem dd260_184 : decode cX13_others 184 = .ok (.iconst 1, 1) := by decide +kernel
theorem dd260_185 : decode cX13_others 185 = .ok (.bastore, 1) := by decide +kernel
theorem dd260_186 : decode cX13_others 186 = .ok (.aload_n 0, 1) := by decide +kernel
theorem dd260_187 : decode cX13_others 187 = .ok (.getfield 61, 3) := by decide +kernel
theorem dd260_190 : decode cX13_others 190 = .ok (.iload 4, 2) := by decide +kernel
theorem dd260_192 : decode cX13_others 192 = .ok (.baload, 1) := by decide +kernel
theorem dd260_193 : decode cX13_others 193 = .ok (.ifCond .eq 17, 3) := by decide +kernel
theorem dd260_196 : decode cX13_others 196 = .ok (.aload_n 0, 1) := by decide +kernel
theorem dd260_197 : decode cX13_others 197 = .ok (.getfield 61, 3) := by decide +kernel
theorem dd260_200 : decode cX13_others 200 = .ok (.iload 4, 2) := by decide +kernel
theorem dd260_202 : decode cX13_others 202 = .ok (.iconst 0, 1) := by decide +kernel
theorem dd260_203 : decode cX13_others 203 = .ok (.bastore, 1) := by decide +kernel
theorem dd260_204 : decode cX13_others 204 = .ok (.aload_n 0, 1) := by decide +kernel
theorem dd260_205 : decode cX13_others 205 = .ok (.iload 4, 2) := by decide +kernel
theorem dd260_207 : decode cX13_others 207 = .ok (.invokevirtual 722, 3) := by decide +kernel
theorem dd260_210 : decode cX13_others 210 = .ok (.aload_n 0, 1) := by decide +kernel
theorem dd260_211 : decode cX13_others 211 = .ok (.iload_n 1, 1) := by decide +kernel
theorem dd260_212 : decode cX13_others 212 = .ok (.invokevirtual 665, 3) := by decide +kernel
theorem dd260_215 : decode cX13_others 215 = .ok (.return_, 1) := by decide +kernel
def f260_210 (n : Nat) (x1 : Int32) (s : zσ) : Option zσ :=
    yb0 (f237 n x1 s) fun u1 =>
    some u1
set_option maxRecDepth 20000 in
theorem f260_210_ok {n d : Nat} {x1 : Int32} {s : zσ} {s2 : zσ} (hd : 30 ≤ d) (h : f260_210 n x1 s = some s2) {w : zσ} {fz : Bool} {L : Nat} {xs : Nat → Int32} : zGo (zX fz L xs) d q_260 (210, [(0, .ref 1132), (1, .int x1)], [], zmk w s, 0, 0) (none, zmk w s2, 0, 0) := by
  obtain ⟨d, rfl⟩ : ∃ d0, d = d0 + 1 := ⟨d - 1, by omega⟩
  unfold f260_210 at h
  refine zGo_s (pc' := 211) (st' := [.ref 1132]) dd260_210 rfl ?_
  refine zGo_s (pc' := 212) (st' := [.int x1, .ref 1132]) dd260_211 rfl ?_
  obtain ⟨u1, hq, h⟩ := obn0 h
  refine zCV0 (As := [.int x1]) (rest := []) (b := 1132) (q' := q_237) dd260_212 rfl rfl (rcv_m rfl rfl (by decide)) rfl rfl rfl (f237_ok (d := d) (by omega)  hq) ?_
  obtain rfl := ore0 h
  exact zGo_ret dd260_215 rfl rfl
def f260_111 (n : Nat) (x1 : Int32) (s : zσ) : Option zσ :=
    zlet (sI s 1132 23 ((s.1 1132 23) + (1 : Int32))) fun u1 =>
    yb0 (f237 n x1 u1) fun u2 =>
    some u2
set_option maxRecDepth 20000 in
theorem f260_111_ok {n d : Nat} {x1 : Int32} {s : zσ} {s2 : zσ} (hd : 30 ≤ d) (h : f260_111 n x1 s = some s2) {w : zσ} {fz : Bool} {L : Nat} {xs : Nat → Int32} : zGo (zX fz L xs) d q_260 (111, [(0, .ref 1132), (1, .int x1)], [], zmk w s, 0, 0) (none, zmk w s2, 0, 0) := by
  obtain ⟨d, rfl⟩ : ∃ d0, d = d0 + 1 := ⟨d - 1, by omega⟩
  unfold f260_111 at h
  refine zGo_s (pc' := 112) (st' := [.ref 1132]) dd260_111 rfl ?_
  refine zGo_s (pc' := 113) (st' := [.ref 1132, .ref 1132]) dd260_112 rfl ?_
  refine mGI dd260_113 rfl rfl rfl rfl ?_
  refine zGo_s (pc' := 117) (st' := [.int (1 : Int32), .int (s.1 1132 23), .ref 1132]) dd260_116 rfl ?_
  refine zGo_s (pc' := 118) (st' := [.int ((s.1 1132 23) + (1 : Int32)), .ref 1132]) dd260_117 rfl ?_
  obtain ⟨u1, e_u1, h⟩ := olet h
  refine mPI dd260_118 rfl rfl rfl rfl rfl rfl e_u1 ?_
  refine zGo_s (pc' := 122) (st' := [.ref 1132]) dd260_121 rfl ?_
  refine zGo_s (pc' := 123) (st' := [.int x1, .ref 1132]) dd260_122 rfl ?_
  obtain ⟨u2, hq, h⟩ := obn0 h
  refine zCV0 (As := [.int x1]) (rest := []) (b := 1132) (q' := q_237) dd260_123 rfl rfl (rcv_m rfl rfl (by decide)) rfl rfl rfl (f237_ok (d := d) (by omega)  hq) ?_
  obtain rfl := ore0 h
  exact zGo_ret dd260_126 rfl rfl
def f260_54 (n : Nat) (y0 : Int32) (s : zσ) : Option zσ :=
    yb0 (f246 n y0 s) fun u1 =>
    some u1
set_option maxRecDepth 20000 in
theorem f260_54_ok {n d : Nat} {y0 : Int32} {s : zσ} {s2 : zσ} (hd : 30 ≤ d) (h : f260_54 n y0 s = some s2) {w : zσ} {fz : Bool} {L : Nat} {xs : Nat → Int32} : zGo (zX fz L xs) d q_260 (54, [], [.int y0, .ref 1132], zmk w s, 0, 0) (none, zmk w s2, 0, 0) := by
  obtain ⟨d, rfl⟩ : ∃ d0, d = d0 + 1 := ⟨d - 1, by omega⟩
  unfold f260_54 at h
  obtain ⟨u1, hq, h⟩ := obn0 h
  refine zCV0 (As := [.int y0]) (rest := []) (b := 1132) (q' := q_246) dd260_54 rfl rfl (rcv_m rfl rfl (by decide)) rfl rfl rfl (f246_ok (d := d) (by omega)  hq) ?_
  obtain rfl := ore0 h
  exact zGo_ret dd260_57 rfl rfl
def f260_48 (n : Nat) (s : zσ) : Option zσ :=
    f260_54 n (5 : Int32) s
set_option maxRecDepth 20000 in
theorem f260_48_ok {n d : Nat} {s : zσ} {s2 : zσ} (hd : 30 ≤ d) (h : f260_48 n s = some s2) {w : zσ} {fz : Bool} {L : Nat} {xs : Nat → Int32} : zGo (zX fz L xs) d q_260 (48, [], [.ref 1132], zmk w s, 0, 0) (none, zmk w s2, 0, 0) := by
  obtain ⟨d, rfl⟩ : ∃ d0, d = d0 + 1 := ⟨d - 1, by omega⟩
  unfold f260_48 at h
  refine zGo_s (pc' := 49) (st' := [.int (5 : Int32), .ref 1132]) dd260_48 rfl ?_
  refine zGo_s (pc' := 54) (st' := [.int (5 : Int32), .ref 1132]) dd260_49 rfl ?_
  exact f260_54_ok hd h
def f260 (n : Nat) (x1 : Int32) (x2 : Int32) (s : zσ) : Option zσ :=
    zrd 12 (s.2.2 1132 11) fun a1 =>
    if zin? x2 200 = true then
    zlet ((s.1 (a1 + 15) (nx x2))) fun v2 =>
    if v2 = (22 : Int32) then
    zrd 12 (s.2.2 1132 11) fun a15 =>
    if zin? ((4 : Int32) * x2) 800 = true then
    yb1 (f243 n x1 (s.1 (a15 + 22) (nx ((4 : Int32) * x2))) s) fun v17 u16 =>
    if v17 < (1 : Int32) then
    f260_48 n u16
    else if (19 : Int32) < v17 then
    f260_48 n u16
    else f260_54 n v17 u16
    else none
    else if v2 = (28 : Int32) then
    zrd 12 (s.2.2 1132 11) fun a11 =>
    if zin? ((4 : Int32) * x2) 800 = true then
    yb1 (f243 n x1 (s.1 (a11 + 22) (nx ((4 : Int32) * x2))) s) fun v13 u12 =>
    if (u12.1 1132 69) = (0 : Int32) then
    if (u12.1 1132 23) < (200 : Int32) then
    if zin? (u12.1 1132 23) 200 = true then
    zlet (sI u12 1221 (nx (u12.1 1132 23)) v13) fun u14 =>
    f260_111 n x1 u14
    else none
    else f260_111 n x1 u12
    else some u12
    else none
    else zrd 12 (s.2.2 1132 11) fun a3 =>
    zrd 12 (s.2.2 1132 11) fun a4 =>
    if zin? x2 200 = true then
    if zin? (s.1 (a4 + 17) (nx x2)) 1400 = true then
    zlet ((s.1 (a3 + 33) (nx (s.1 (a4 + 17) (nx x2))))) fun v5 =>
    if v2 = (25 : Int32) then
    yb0 (f261 n v5 s) fun u10 =>
    f260_210 n x1 u10
    else if v2 = (27 : Int32) then
    if zin? v5 4 = true then
    zlet (sI s 1214 (nx v5) (vp_nar .boolean (0 : Int32))) fun u9 =>
    f260_210 n x1 u9
    else none
    else if zin? v5 4 = true then
    zlet (sI s 1214 (nx v5) (vp_nar .boolean (1 : Int32))) fun u6 =>
    if zin? v5 4 = true then
    if (u6.1 1215 (nx v5)) = (0 : Int32) then
    f260_210 n x1 u6
    else if zin? v5 4 = true then
    zlet (sI u6 1215 (nx v5) (vp_nar .boolean (0 : Int32))) fun u7 =>
    yb0 (f261 n v5 u7) fun u8 =>
    f260_210 n x1 u8
    else none
    else none
    else none
    else none
    else none
    else none
set_option maxRecDepth 20000 in
theorem f260_ok {n d : Nat} {x1 : Int32} {x2 : Int32} {s : zσ} {s2 : zσ} (hd : 30 ≤ d) (h : f260 n x1 x2 s = some s2) {w : zσ} {fz : Bool} {L : Nat} {xs : Nat → Int32} : zGo (zX fz L xs) d q_260 (0, [(0, .ref 1132), (1, .int x1), (2, .int x2)], [], zmk w s, 0, 0) (none, zmk w s2, 0, 0) := by
  obtain ⟨d, rfl⟩ : ∃ d0, d = d0 + 1 := ⟨d - 1, by omega⟩
  unfold f260 at h
  refine zGo_s (pc' := 1) (st' := [.ref 1132]) dd260_0 rfl ?_
  obtain ⟨a1, e_a1, c_a1, h⟩ := ordd h
  refine mGR dd260_1 rfl rfl rfl rfl e_a1 ?_
  refine mGF (e := (a1 + 15)) dd260_4 rfl (ck12_s c_a1).1 (ck12_s c_a1).2 rfl (cf12_17 c_a1).1 ?_
  refine zGo_s (pc' := 8) (st' := [.int x2, .ref (a1 + 15)]) dd260_7 rfl ?_
  obtain ⟨hi, h⟩ := ochk h
  refine mIA dd260_8 (cf12_17 c_a1).2.1 (cf12_17 c_a1).2.2 hi ?_
  obtain ⟨v2, e_v2, h⟩ := olet h
  refine zGo_is1 e_v2 dd260_9 (x' := (10, [(3, .int v2), (0, .ref 1132), (1, .int x1), (2, .int x2)], [], _, _, _)) rfl ?_
  refine zGo_s (pc' := 11) (st' := [.int v2]) dd260_10 rfl ?_
  refine zGo_s (pc' := 13) (st' := [.int (22 : Int32), .int v2]) dd260_11 rfl ?_
  rcases oite h with ⟨hc, h⟩ | ⟨hc, h⟩
  · refine zIF dd260_13 (kNeF hc) ?_
    refine zGo_s (pc' := 17) (st' := [.ref 1132]) dd260_16 rfl ?_
    refine zGo_s (pc' := 18) (st' := [.int x1, .ref 1132]) dd260_17 rfl ?_
    refine zGo_s (pc' := 19) (st' := [.ref 1132, .int x1, .ref 1132]) dd260_18 rfl ?_
    obtain ⟨a15, e_a15, c_a15, h⟩ := ordd h
    refine mGR dd260_19 rfl rfl rfl rfl e_a15 ?_
    refine mGF (e := (a15 + 22)) dd260_22 rfl (ck12_s c_a15).1 (ck12_s c_a15).2 rfl (cf12_24 c_a15).1 ?_
    refine zGo_s (pc' := 26) (st' := [.int (4 : Int32), .ref (a15 + 22), .int x1, .ref 1132]) dd260_25 rfl ?_
    refine zGo_s (pc' := 27) (st' := [.int x2, .int (4 : Int32), .ref (a15 + 22), .int x1, .ref 1132]) dd260_26 rfl ?_
    refine zGo_s (pc' := 28) (st' := [.int ((4 : Int32) * x2), .ref (a15 + 22), .int x1, .ref 1132]) dd260_27 rfl ?_
    obtain ⟨hi, h⟩ := ochk h
    refine mIA dd260_28 (cf12_24 c_a15).2.1 (cf12_24 c_a15).2.2 hi ?_
    obtain ⟨v17, u16, hq, h⟩ := obnd h
    refine zCV1 (As := [.int x1, .int (s.1 (a15 + 22) (nx ((4 : Int32) * x2)))]) (rest := []) (b := 1132) (q' := q_243) dd260_29 rfl rfl (rcv_m rfl rfl (by decide)) rfl rfl rfl (f243_ok (d := d) (by omega)  hq) ?_
    refine zGo_s (pc' := 34) (st' := []) (lv' := [(4, .int v17), (3, .int v2), (0, .ref 1132), (1, .int x1), (2, .int x2)]) dd260_32 rfl ?_
    refine zGo_s (pc' := 35) (st' := [.ref 1132]) dd260_34 rfl ?_
    refine zGo_s (pc' := 37) (st' := [.int v17, .ref 1132]) dd260_35 rfl ?_
    refine zGo_s (pc' := 38) (st' := [.int (1 : Int32), .int v17, .ref 1132]) dd260_37 rfl ?_
    rcases oite h with ⟨hc, h⟩ | ⟨hc, h⟩
    · refine zIT dd260_38 rfl (kLtT hc) ?_
      exact zGo_lv (lv := []) ⟨by simp, by simp, by simp⟩ (f260_48_ok hd h)
    · refine zIF dd260_38 (kLtF hc) ?_
      refine zGo_s (pc' := 43) (st' := [.int v17, .ref 1132]) dd260_41 rfl ?_
      refine zGo_s (pc' := 45) (st' := [.int (19 : Int32), .int v17, .ref 1132]) dd260_43 rfl ?_
      rcases oite h with ⟨hc, h⟩ | ⟨hc, h⟩
      · refine zIF dd260_45 (kLeF hc) ?_
        exact zGo_lv (lv := []) ⟨by simp, by simp, by simp⟩ (f260_48_ok hd h)
      · refine zIT dd260_45 rfl (kLeT hc) ?_
        refine zGo_s (pc' := 54) (st' := [.int v17, .ref 1132]) dd260_52 rfl ?_
        exact zGo_lv (lv := []) ⟨by simp, by simp, by simp⟩ (f260_54_ok hd h)
  · refine zIT dd260_13 rfl (kNeT hc) ?_
    refine zGo_s (pc' := 59) (st' := [.int v2]) dd260_58 rfl ?_
    refine zGo_s (pc' := 61) (st' := [.int (28 : Int32), .int v2]) dd260_59 rfl ?_
    rcases oite h with ⟨hc, h⟩ | ⟨hc, h⟩
    · refine zIF dd260_61 (kNeF hc) ?_
      refine zGo_s (pc' := 65) (st' := [.ref 1132]) dd260_64 rfl ?_
      refine zGo_s (pc' := 66) (st' := [.int x1, .ref 1132]) dd260_65 rfl ?_
      refine zGo_s (pc' := 67) (st' := [.ref 1132, .int x1, .ref 1132]) dd260_66 rfl ?_
      obtain ⟨a11, e_a11, c_a11, h⟩ := ordd h
      refine mGR dd260_67 rfl rfl rfl rfl e_a11 ?_
      refine mGF (e := (a11 + 22)) dd260_70 rfl (ck12_s c_a11).1 (ck12_s c_a11).2 rfl (cf12_24 c_a11).1 ?_
      refine zGo_s (pc' := 74) (st' := [.int (4 : Int32), .ref (a11 + 22), .int x1, .ref 1132]) dd260_73 rfl ?_
      refine zGo_s (pc' := 75) (st' := [.int x2, .int (4 : Int32), .ref (a11 + 22), .int x1, .ref 1132]) dd260_74 rfl ?_
      refine zGo_s (pc' := 76) (st' := [.int ((4 : Int32) * x2), .ref (a11 + 22), .int x1, .ref 1132]) dd260_75 rfl ?_
      obtain ⟨hi, h⟩ := ochk h
      refine mIA dd260_76 (cf12_24 c_a11).2.1 (cf12_24 c_a11).2.2 hi ?_
      obtain ⟨v13, u12, hq, h⟩ := obnd h
      refine zCV1 (As := [.int x1, .int (s.1 (a11 + 22) (nx ((4 : Int32) * x2)))]) (rest := []) (b := 1132) (q' := q_243) dd260_77 rfl rfl (rcv_m rfl rfl (by decide)) rfl rfl rfl (f243_ok (d := d) (by omega)  hq) ?_
      refine zGo_s (pc' := 82) (st' := []) (lv' := [(4, .int v13), (3, .int v2), (0, .ref 1132), (1, .int x1), (2, .int x2)]) dd260_80 rfl ?_
      refine zGo_s (pc' := 83) (st' := [.ref 1132]) dd260_82 rfl ?_
      refine mGI dd260_83 rfl rfl rfl rfl ?_
      rcases oite h with ⟨hc, h⟩ | ⟨hc, h⟩
      · refine zUT dd260_86 rfl (kEqT hc) ?_
        refine zGo_s (pc' := 91) (st' := [.ref 1132]) dd260_90 rfl ?_
        refine mGI dd260_91 rfl rfl rfl rfl ?_
        refine zGo_s (pc' := 97) (st' := [.int (200 : Int32), .int (u12.1 1132 23)]) dd260_94 rfl ?_
        rcases oite h with ⟨hc, h⟩ | ⟨hc, h⟩
        · refine zIF dd260_97 (kGeF hc) ?_
          refine zGo_s (pc' := 101) (st' := [.ref 1132]) dd260_100 rfl ?_
          refine mGF (e := 1221) dd260_101 rfl rfl rfl rfl rfl ?_
          refine zGo_s (pc' := 105) (st' := [.ref 1132, .ref 1221]) dd260_104 rfl ?_
          refine mGI dd260_105 rfl rfl rfl rfl ?_
          refine zGo_s (pc' := 110) (st' := [.int v13, .int (u12.1 1132 23), .ref 1221]) dd260_108 rfl ?_
          obtain ⟨hi, h⟩ := ochk h
          obtain ⟨u14, e_u14, h⟩ := olet h
          refine mIS dd260_110 rfl rfl hi e_u14 ?_
          exact zGo_lv (lv := [(0, .ref 1132), (1, .int x1)]) ⟨by simp, by simp, by simp⟩ (f260_111_ok hd h)
        · refine zIT dd260_97 rfl (kGeT hc) ?_
          exact zGo_lv (lv := [(0, .ref 1132), (1, .int x1)]) ⟨by simp, by simp, by simp⟩ (f260_111_ok hd h)
      · refine zUF dd260_86 (kEqF hc) ?_
        obtain rfl := ore0 h
        exact zGo_ret dd260_89 rfl rfl
    · refine zIT dd260_61 rfl (kNeT hc) ?_
      refine zGo_s (pc' := 128) (st' := [.ref 1132]) dd260_127 rfl ?_
      obtain ⟨a3, e_a3, c_a3, h⟩ := ordd h
      refine mGR dd260_128 rfl rfl rfl rfl e_a3 ?_
      refine mGF (e := (a3 + 33)) dd260_131 rfl (ck12_s c_a3).1 (ck12_s c_a3).2 rfl (cf12_39 c_a3).1 ?_
      refine zGo_s (pc' := 135) (st' := [.ref 1132, .ref (a3 + 33)]) dd260_134 rfl ?_
      obtain ⟨a4, e_a4, c_a4, h⟩ := ordd h
      refine mGR dd260_135 rfl rfl rfl rfl e_a4 ?_
      refine mGF (e := (a4 + 17)) dd260_138 rfl (ck12_s c_a4).1 (ck12_s c_a4).2 rfl (cf12_19 c_a4).1 ?_
      refine zGo_s (pc' := 142) (st' := [.int x2, .ref (a4 + 17), .ref (a3 + 33)]) dd260_141 rfl ?_
      obtain ⟨hi, h⟩ := ochk h
      refine mIA dd260_142 (cf12_19 c_a4).2.1 (cf12_19 c_a4).2.2 hi ?_
      obtain ⟨hi, h⟩ := ochk h
      refine mIA dd260_143 (cf12_39 c_a3).2.1 (cf12_39 c_a3).2.2 hi ?_
      obtain ⟨v5, e_v5, h⟩ := olet h
      refine zGo_is1 e_v5 dd260_144 (x' := (146, [(4, .int v5), (3, .int v2), (0, .ref 1132), (1, .int x1), (2, .int x2)], [], _, _, _)) rfl ?_
      refine zGo_s (pc' := 147) (st' := [.int v2]) dd260_146 rfl ?_
      refine zGo_s (pc' := 149) (st' := [.int (25 : Int32), .int v2]) dd260_147 rfl ?_
      rcases oite h with ⟨hc, h⟩ | ⟨hc, h⟩
      · refine zIF dd260_149 (kNeF hc) ?_
        refine zGo_s (pc' := 153) (st' := [.ref 1132]) dd260_152 rfl ?_
        refine zGo_s (pc' := 155) (st' := [.int v5, .ref 1132]) dd260_153 rfl ?_
        obtain ⟨u10, hq, h⟩ := obn0 h
        refine zCV0 (As := [.int v5]) (rest := []) (b := 1132) (q' := q_261) dd260_155 rfl rfl (rcv_m rfl rfl (by decide)) rfl rfl rfl (f261_ok (d := d) (by omega)  hq) ?_
        refine zGo_s (pc' := 210) (st' := []) dd260_158 rfl ?_
        exact zGo_lv (lv := [(0, .ref 1132), (1, .int x1)]) ⟨by simp, by simp, by simp⟩ (f260_210_ok hd h)
      · refine zIT dd260_149 rfl (kNeT hc) ?_
        refine zGo_s (pc' := 162) (st' := [.int v2]) dd260_161 rfl ?_
        refine zGo_s (pc' := 164) (st' := [.int (27 : Int32), .int v2]) dd260_162 rfl ?_
        rcases oite h with ⟨hc, h⟩ | ⟨hc, h⟩
        · refine zIF dd260_164 (kNeF hc) ?_
          refine zGo_s (pc' := 168) (st' := [.ref 1132]) dd260_167 rfl ?_
          refine mGF (e := 1214) dd260_168 rfl rfl rfl rfl rfl ?_
          refine zGo_s (pc' := 173) (st' := [.int v5, .ref 1214]) dd260_171 rfl ?_
          refine zGo_s (pc' := 174) (st' := [.int (0 : Int32), .int v5, .ref 1214]) dd260_173 rfl ?_
          obtain ⟨hi, h⟩ := ochk h
          obtain ⟨u9, e_u9, h⟩ := olet h
          refine mBS dd260_174 rfl rfl rfl hi e_u9 ?_
          refine zGo_s (pc' := 210) (st' := []) dd260_175 rfl ?_
          exact zGo_lv (lv := [(0, .ref 1132), (1, .int x1)]) ⟨by simp, by simp, by simp⟩ (f260_210_ok hd h)
        · refine zIT dd260_164 rfl (kNeT hc) ?_
          refine zGo_s (pc' := 179) (st' := [.ref 1132]) dd260_178 rfl ?_
          refine mGF (e := 1214) dd260_179 rfl rfl rfl rfl rfl ?_
          refine zGo_s (pc' := 184) (st' := [.int v5, .ref 1214]) dd260_182 rfl ?_
          refine zGo_s (pc' := 185) (st' := [.int (1 : Int32), .int v5, .ref 1214]) dd260_184 rfl ?_
          obtain ⟨hi, h⟩ := ochk h
          obtain ⟨u6, e_u6, h⟩ := olet h
          refine mBS dd260_185 rfl rfl rfl hi e_u6 ?_
          refine zGo_s (pc' := 187) (st' := [.ref 1132]) dd260_186 rfl ?_
          refine mGF (e := 1215) dd260_187 rfl rfl rfl rfl rfl ?_
          refine zGo_s (pc' := 192) (st' := [.int v5, .ref 1215]) dd260_190 rfl ?_
          obtain ⟨hi, h⟩ := ochk h
          refine mBA dd260_192 rfl rfl rfl hi ?_
          rcases oite h with ⟨hc, h⟩ | ⟨hc, h⟩
          · refine zUT dd260_193 rfl (kEqT hc) ?_
            exact zGo_lv (lv := [(0, .ref 1132), (1, .int x1)]) ⟨by simp, by simp, by simp⟩ (f260_210_ok hd h)
          · refine zUF dd260_193 (kEqF hc) ?_
            refine zGo_s (pc' := 197) (st' := [.ref 1132]) dd260_196 rfl ?_
            refine mGF (e := 1215) dd260_197 rfl rfl rfl rfl rfl ?_
            refine zGo_s (pc' := 202) (st' := [.int v5, .ref 1215]) dd260_200 rfl ?_
            refine zGo_s (pc' := 203) (st' := [.int (0 : Int32), .int v5, .ref 1215]) dd260_202 rfl ?_
            obtain ⟨hi, h⟩ := ochk h
            obtain ⟨u7, e_u7, h⟩ := olet h
            refine mBS dd260_203 rfl rfl rfl hi e_u7 ?_
            refine zGo_s (pc' := 205) (st' := [.ref 1132]) dd260_204 rfl ?_
            refine zGo_s (pc' := 207) (st' := [.int v5, .ref 1132]) dd260_205 rfl ?_
            obtain ⟨u8, hq, h⟩ := obn0 h
            refine zCV0 (As := [.int v5]) (rest := []) (b := 1132) (q' := q_261) dd260_207 rfl rfl (rcv_m rfl rfl (by decide)) rfl rfl rfl (f261_ok (d := d) (by omega)  hq) ?_
            exact zGo_lv (lv := [(0, .ref 1132), (1, .int x1)]) ⟨by simp, by simp, by simp⟩ (f260_210_ok hd h)
/-! PHModel.schedules()I -/
theorem dd265_0 : decode cX13_schedules 0 = .ok (.iconst 0, 1) := by decide +kernel
theorem dd265_1 : decode cX13_schedules 1 = .ok (.istore_n 1, 1) := by decide +kernel
theorem dd265_2 : decode cX13_schedules 2 = .ok (.iconst 0, 1) := by decide +kernel
theorem dd265_3 : decode cX13_schedules 3 = .ok (.istore_n 2, 1) := by decide +kernel
theorem dd265_4 : decode cX13_schedules 4 = .ok (.iload_n 2, 1) := by decide +kernel
theorem dd265_5 : decode cX13_schedules 5 = .ok (.bipush 16, 2) := by decide +kernel
theorem dd265_7 : decode cX13_schedules 7 = .ok (.if_icmp .ge 26, 3) := by decide +kernel
theorem dd265_10 : decode cX13_schedules 10 = .ok (.iload_n 1, 1) := by decide +kernel
theorem dd265_11 : decode cX13_schedules 11 = .ok (.aload_n 0, 1) := by decide +kernel
theorem dd265_12 : decode cX13_schedules 12 = .ok (.getfield 136, 3) := by decide +kernel
theorem dd265_15 : decode cX13_schedules 15 = .ok (.iload_n 2, 1) := by decide +kernel
theorem dd265_16 : decode cX13_schedules 16 = .ok (.baload, 1) := by decide +kernel
theorem dd265_17 : decode cX13_schedules 17 = .ok (.ifCond .eq 7, 3) := by decide +kernel
theorem dd265_20 : decode cX13_schedules 20 = .ok (.iconst 1, 1) := by decide +kernel
theorem dd265_21 : decode cX13_schedules 21 = .ok (.goto 4, 3) := by decide +kernel
theorem dd265_24 : decode cX13_schedules 24 = .ok (.iconst 0, 1) := by decide +kernel
theorem dd265_25 : decode cX13_schedules 25 = .ok (.iadd, 1) := by decide +kernel
theorem dd265_26 : decode cX13_schedules 26 = .ok (.istore_n 1, 1) := by decide +kernel
theorem dd265_27 : decode cX13_schedules 27 = .ok (.iinc 2 1, 3) := by decide +kernel
theorem dd265_30 : decode cX13_schedules 30 = .ok (.goto (-26), 3) := by decide +kernel
theorem dd265_33 : decode cX13_schedules 33 = .ok (.iload_n 1, 1) := by decide +kernel
theorem dd265_34 : decode cX13_schedules 34 = .ok (.ireturn, 1) := by decide +kernel
def f265_25 (n : Nat) (r4 : Int32 → Int32 → zσ → Option (Int32 × zσ)) (x2 : Int32) (y0 : Int32) (y1 : Int32) (s : zσ) : Option (Int32 × zσ) :=
    zlet ((y1 + y0)) fun v1 =>
    r4 v1 (x2 + (1 : Int32)) s
set_option maxRecDepth 20000 in
theorem f265_25_ok {n d : Nat} {r4 : Int32 → Int32 → zσ → Option (Int32 × zσ)} {x2 : Int32} {y0 : Int32} {y1 : Int32} {s : zσ} {v : Int32} {s2 : zσ} (hd : 0 ≤ d) (hr4 : ∀ (x1 : Int32) (x2 : Int32) (s : zσ) (v : Int32) (s2 : zσ), r4 x1 x2 s = some (v, s2) → ∀ {w : zσ} {fz : Bool} {L : Nat} {xs : Nat → Int32}, zGo (zX fz L xs) d q_265 (4, [(0, .ref 1132), (1, .int x1), (2, .int x2)], [], zmk w s, 0, 0) (some (.int v), zmk w s2, 0, 0)) (h : f265_25 n r4 x2 y0 y1 s = some (v, s2)) {w : zσ} {fz : Bool} {L : Nat} {xs : Nat → Int32} : zGo (zX fz L xs) d q_265 (25, [(0, .ref 1132), (2, .int x2)], [.int y0, .int y1], zmk w s, 0, 0) (some (.int v), zmk w s2, 0, 0) := by
  unfold f265_25 at h
  refine zGo_s (pc' := 26) (st' := [.int (y1 + y0)]) dd265_25 rfl ?_
  obtain ⟨v1, e_v1, h⟩ := olet h
  refine zGo_is1 e_v1 dd265_26 (x' := (27, [(1, .int v1), (0, .ref 1132), (2, .int x2)], [], _, _, _)) rfl ?_
  refine zGo_s (pc' := 30) (st' := []) (lv' := [(2, .int (x2 + (1 : Int32))), (1, .int v1), (0, .ref 1132)]) dd265_27 rfl ?_
  refine zGo_s (pc' := 4) (st' := []) dd265_30 rfl ?_
  exact zGo_lv (lv := [(0, .ref 1132), (1, .int v1), (2, .int (x2 + (1 : Int32)))]) ⟨by simp, by simp, by simp⟩ (hr4 _ _ _ _ _ h)
def f265_4 (n : Nat) : Nat → Int32 → Int32 → zσ → Option (Int32 × zσ)
  | 0, _, _, _ => none
  | j + 1, x1, x2, s =>
    if x2 < (16 : Int32) then
    if zin? x2 16 = true then
    if (s.1 1240 (nx x2)) = (0 : Int32) then
    f265_25 n (f265_4 n j) x2 (0 : Int32) x1 s
    else f265_25 n (f265_4 n j) x2 (1 : Int32) x1 s
    else none
    else some (x1, s)
set_option maxRecDepth 20000 in
theorem f265_4_ok {n d : Nat} (hd : 0 ≤ d) : ∀ (j : Nat) (x1 : Int32) (x2 : Int32) (s : zσ) (v : Int32) (s2 : zσ), f265_4 n j x1 x2 s = some (v, s2) → ∀ {w : zσ} {fz : Bool} {L : Nat} {xs : Nat → Int32}, zGo (zX fz L xs) d q_265 (4, [(0, .ref 1132), (1, .int x1), (2, .int x2)], [], zmk w s, 0, 0) (some (.int v), zmk w s2, 0, 0) := by
  intro j
  induction j with
  | zero => intro x1 x2 s v s2 h; cases h
  | succ j ih =>
    intro x1 x2 s v s2 h w fz L xs
    rw [f265_4] at h
    refine zGo_s (pc' := 5) (st' := [.int x2]) dd265_4 rfl ?_
    refine zGo_s (pc' := 7) (st' := [.int (16 : Int32), .int x2]) dd265_5 rfl ?_
    rcases oite h with ⟨hc, h⟩ | ⟨hc, h⟩
    · refine zIF dd265_7 (kGeF hc) ?_
      refine zGo_s (pc' := 11) (st' := [.int x1]) dd265_10 rfl ?_
      refine zGo_s (pc' := 12) (st' := [.ref 1132, .int x1]) dd265_11 rfl ?_
      refine mGF (e := 1240) dd265_12 rfl rfl rfl rfl rfl ?_
      refine zGo_s (pc' := 16) (st' := [.int x2, .ref 1240, .int x1]) dd265_15 rfl ?_
      obtain ⟨hi, h⟩ := ochk h
      refine mBA dd265_16 rfl rfl rfl hi ?_
      rcases oite h with ⟨hc, h⟩ | ⟨hc, h⟩
      · refine zUT dd265_17 rfl (kEqT hc) ?_
        refine zGo_s (pc' := 25) (st' := [.int (0 : Int32), .int x1]) dd265_24 rfl ?_
        exact zGo_lv (lv := [(0, .ref 1132), (2, .int x2)]) ⟨by simp, by simp, by simp⟩ (f265_25_ok hd ih h)
      · refine zUF dd265_17 (kEqF hc) ?_
        refine zGo_s (pc' := 21) (st' := [.int (1 : Int32), .int x1]) dd265_20 rfl ?_
        refine zGo_s (pc' := 25) (st' := [.int (1 : Int32), .int x1]) dd265_21 rfl ?_
        exact zGo_lv (lv := [(0, .ref 1132), (2, .int x2)]) ⟨by simp, by simp, by simp⟩ (f265_25_ok hd ih h)
    · refine zIT dd265_7 rfl (kGeT hc) ?_
      refine zGo_s (pc' := 34) (st' := [.int x1]) dd265_33 rfl ?_
      obtain ⟨rfl, rfl⟩ := oret h
      exact zGo_ret dd265_34 rfl rfl
def f265 (n : Nat) (s : zσ) : Option (Int32 × zσ) :=
    f265_4 n n (0 : Int32) (0 : Int32) s
set_option maxRecDepth 20000 in
theorem f265_ok {n d : Nat} {s : zσ} {v : Int32} {s2 : zσ} (hd : 0 ≤ d) (h : f265 n s = some (v, s2)) {w : zσ} {fz : Bool} {L : Nat} {xs : Nat → Int32} : zGo (zX fz L xs) d q_265 (0, [(0, .ref 1132)], [], zmk w s, 0, 0) (some (.int v), zmk w s2, 0, 0) := by
  unfold f265 at h
  refine zGo_s (pc' := 1) (st' := [.int (0 : Int32)]) dd265_0 rfl ?_
  refine zGo_s (pc' := 2) (st' := []) (lv' := [(1, .int (0 : Int32)), (0, .ref 1132)]) dd265_1 rfl ?_
  refine zGo_s (pc' := 3) (st' := [.int (0 : Int32)]) dd265_2 rfl ?_
  refine zGo_s (pc' := 4) (st' := []) (lv' := [(2, .int (0 : Int32)), (1, .int (0 : Int32)), (0, .ref 1132)]) dd265_3 rfl ?_
  exact zGo_lv (lv := [(0, .ref 1132), (1, .int (0 : Int32)), (2, .int (0 : Int32))]) ⟨by simp, by simp, by simp⟩ (f265_4_ok hd _ _ _ _ _ _ h)
