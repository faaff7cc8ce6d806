/-! PH$Reader.tellName(I)I -/
theorem dd34_0 : decode cX4_tellName 0 = .ok (.aload_n 0, 1) := by decide +kernel
theorem dd34_1 : decode cX4_tellName 1 = .ok (.getfield 54, 3) := by decide +kernel
theorem dd34_4 : decode cX4_tellName 4 = .ok (.getfield 68, 3) := by decide +kernel
theorem dd34_7 : decode cX4_tellName 7 = .ok (.iconst 1, 1) := by decide +kernel
theorem dd34_8 : decode cX4_tellName 8 = .ok (.if_icmp .eq 9, 3) := by decide +kernel
theorem dd34_11 : decode cX4_tellName 11 = .ok (.aload_n 0, 1) := by decide +kernel
theorem dd34_12 : decode cX4_tellName 12 = .ok (.iconst 2, 1) := by decide +kernel
theorem dd34_13 : decode cX4_tellName 13 = .ok (.invokevirtual 73, 3) := by decide +kernel
theorem dd34_16 : decode cX4_tellName 16 = .ok (.ireturn, 1) := by decide +kernel
theorem dd34_17 : decode cX4_tellName 17 = .ok (.aload_n 0, 1) := by decide +kernel
theorem dd34_18 : decode cX4_tellName 18 = .ok (.getfield 9, 3) := by decide +kernel
theorem dd34_21 : decode cX4_tellName 21 = .ok (.iload_n 1, 1) := by decide +kernel
theorem dd34_22 : decode cX4_tellName 22 = .ok (.iaload, 1) := by decide +kernel
theorem dd34_23 : decode cX4_tellName 23 = .ok (.istore_n 2, 1) := by decide +kernel
theorem dd34_24 : decode cX4_tellName 24 = .ok (.aload_n 0, 1) := by decide +kernel
theorem dd34_25 : decode cX4_tellName 25 = .ok (.getfield 35, 3) := by decide +kernel
theorem dd34_28 : decode cX4_tellName 28 = .ok (.ifCond .ne 101, 3) := by decide +kernel
theorem dd34_31 : decode cX4_tellName 31 = .ok (.iload_n 1, 1) := by decide +kernel
theorem dd34_32 : decode cX4_tellName 32 = .ok (.iconst 5, 1) := by decide +kernel
theorem dd34_33 : decode cX4_tellName 33 = .ok (.if_icmp .eq 9, 3) := by decide +kernel
theorem dd34_36 : decode cX4_tellName 36 = .ok (.iload_n 1, 1) := by decide +kernel
theorem dd34_37 : decode cX4_tellName 37 = .ok (.bipush 6, 2) := by decide +kernel
theorem dd34_39 : decode cX4_tellName 39 = .ok (.if_icmp .ne 20, 3) := by decide +kernel
theorem dd34_42 : decode cX4_tellName 42 = .ok (.aload_n 0, 1) := by decide +kernel
theorem dd34_43 : decode cX4_tellName 43 = .ok (.getfield 9, 3) := by decide +kernel
theorem dd34_46 : decode cX4_tellName 46 = .ok (.iconst 5, 1) := by decide +kernel
theorem dd34_47 : decode cX4_tellName 47 = .ok (.iaload, 1) := by decide +kernel
theorem dd34_48 : decode cX4_tellName 48 = .ok (.aload_n 0, 1) := by decide +kernel
theorem dd34_49 : decode cX4_tellName 49 = .ok (.getfield 9, 3) := by decide +kernel
theorem dd34_52 : decode cX4_tellName 52 = .ok (.bipush 6, 2) := by decide +kernel
theorem dd34_54 : decode cX4_tellName 54 = .ok (.iaload, 1) := by decide +kernel
theorem dd34_55 : decode cX4_tellName 55 = .ok (.iadd, 1) := by decide +kernel
theorem dd34_56 : decode cX4_tellName 56 = .ok (.goto 4, 3) := by decide +kernel
theorem dd34_59 : decode cX4_tellName 59 = .ok (.iload_n 2, 1) := by decide +kernel
theorem dd34_60 : decode cX4_tellName 60 = .ok (.istore_n 3, 1) := by decide +kernel
theorem dd34_61 : decode cX4_tellName 61 = .ok (.iload_n 3, 1) := by decide +kernel
theorem dd34_62 : decode cX4_tellName 62 = .ok (.getstatic 150, 3) := by decide +kernel
theorem dd34_65 : decode cX4_tellName 65 = .ok (.iload_n 1, 1) := by decide +kernel
theorem dd34_66 : decode cX4_tellName 66 = .ok (.iaload, 1) := by decide +kernel
theorem dd34_67 : decode cX4_tellName 67 = .ok (.if_icmp .lt 9, 3) := by decide +kernel
theorem dd34_70 : decode cX4_tellName 70 = .ok (.aload_n 0, 1) := by decide +kernel
theorem dd34_71 : decode cX4_tellName 71 = .ok (.iconst 3, 1) := by decide +kernel
theorem dd34_72 : decode cX4_tellName 72 = .ok (.invokevirtual 73, 3) := by decide +kernel
theorem dd34_75 : decode cX4_tellName 75 = .ok (.ireturn, 1) := by decide +kernel
theorem dd34_76 : decode cX4_tellName 76 = .ok (.aload_n 0, 1) := by decide +kernel
theorem dd34_77 : decode cX4_tellName 77 = .ok (.getfield 23, 3) := by decide +kernel
theorem dd34_80 : decode cX4_tellName 80 = .ok (.aload_n 0, 1) := by decide +kernel
theorem dd34_81 : decode cX4_tellName 81 = .ok (.getfield 54, 3) := by decide +kernel
theorem dd34_84 : decode cX4_tellName 84 = .ok (.getfield 153, 3) := by decide +kernel
theorem dd34_87 : decode cX4_tellName 87 = .ok (.invokevirtual 157, 3) := by decide +kernel
theorem dd34_90 : decode cX4_tellName 90 = .ok (.ifCond .eq 9, 3) := by decide +kernel
theorem dd34_93 : decode cX4_tellName 93 = .ok (.aload_n 0, 1) := by decide +kernel
theorem dd34_94 : decode cX4_tellName 94 = .ok (.iconst 4, 1) := by decide +kernel
theorem dd34_95 : decode cX4_tellName 95 = .ok (.invokevirtual 73, 3) := by decide +kernel
theorem dd34_98 : decode cX4_tellName 98 = .ok (.ireturn, 1) := by decide +kernel
theorem dd34_99 : decode cX4_tellName 99 = .ok (.aload_n 0, 1) := by decide +kernel
theorem dd34_100 : decode cX4_tellName 100 = .ok (.getfield 23, 3) := by decide +kernel
theorem dd34_103 : decode cX4_tellName 103 = .ok (.getfield 161, 3) := by decide +kernel
theorem dd34_106 : decode cX4_tellName 106 = .ok (.iload_n 1, 1) := by decide +kernel
theorem dd34_107 : decode cX4_tellName 107 = .ok (.aaload, 1) := by decide +kernel
theorem dd34_108 : decode cX4_tellName 108 = .ok (.iload_n 2, 1) := by decide +kernel
theorem dd34_109 : decode cX4_tellName 109 = .ok (.aload_n 0, 1) := by decide +kernel
theorem dd34_110 : decode cX4_tellName 110 = .ok (.getfield 54, 3) := by decide +kernel
theorem dd34_113 : decode cX4_tellName 113 = .ok (.getfield 153, 3) := by decide +kernel
theorem dd34_116 : decode cX4_tellName 116 = .ok (.lastore, 1) := by decide +kernel
theorem dd34_117 : decode cX4_tellName 117 = .ok (.aload_n 0, 1) := by decide +kernel
theorem dd34_118 : decode cX4_tellName 118 = .ok (.getfield 23, 3) := by decide +kernel
theorem dd34_121 : decode cX4_tellName 121 = .ok (.getfield 165, 3) := by decide +kernel
theorem dd34_124 : decode cX4_tellName 124 = .ok (.iload_n 1, 1) := by decide +kernel
theorem dd34_125 : decode cX4_tellName 125 = .ok (.iload_n 2, 1) := by decide +kernel
theorem dd34_126 : decode cX4_tellName 126 = .ok (.iconst 1, 1) := by decide +kernel
theorem dd34_127 : decode cX4_tellName 127 = .ok (.iadd, 1) := by decide +kernel
theorem dd34_128 : decode cX4_tellName 128 = .ok (.iastore, 1) := by decide +kernel
theorem dd34_129 : decode cX4_tellName 129 = .ok (.aload_n 0, 1) := by decide +kernel
theorem dd34_130 : decode cX4_tellName 130 = .ok (.getfield 9, 3) := by decide +kernel
theorem dd34_133 : decode cX4_tellName 133 = .ok (.iload_n 1, 1) := by decide +kernel
theorem dd34_134 : decode cX4_tellName 134 = .ok (.iload_n 2, 1) := by decide +kernel
theorem dd34_135 : decode cX4_tellName 135 = .ok (.iconst 1, 1) := by decide +kernel
theorem dd34_136 : decode cX4_tellName 136 = .ok (.iadd, 1) := by decide +kernel
theorem dd34_137 : decode cX4_tellName 137 = .ok (.iastore, 1) := by decide +kernel
theorem dd34_138 : decode cX4_tellName 138 = .ok (.aload_n 0, 1) := by decide +kernel
theorem dd34_139 : decode cX4_tellName 139 = .ok (.getfield 54, 3) := by decide +kernel
theorem dd34_142 : decode cX4_tellName 142 = .ok (.invokevirtual 104, 3) := by decide +kernel
theorem dd34_145 : decode cX4_tellName 145 = .ok (.iload_n 2, 1) := by decide +kernel
theorem dd34_146 : decode cX4_tellName 146 = .ok (.ireturn, 1) := by decide +kernel
def f34_129 (n : Nat) (x1 : Int32) (x2 : Int32) (s : zσ) : Option (Int32 × zσ) :=
    if zin? x1 9 = true then
    zlet (sI s 1005 (nx x1) (x2 + (1 : Int32))) fun u1 =>
    yb0 (f26 n u1) fun u2 =>
    some (x2, u2)
    else none
set_option maxRecDepth 20000 in
theorem f34_129_ok {n d : Nat} {x1 : Int32} {x2 : Int32} {s : zσ} {v : Int32} {s2 : zσ} (hd : 8 ≤ d) (h : f34_129 n x1 x2 s = some (v, s2)) {w : zσ} {fz : Bool} {L : Nat} {xs : Nat → Int32} : zGo (zX fz L xs) d q_34 (129, [(0, .ref 1004), (1, .int x1), (2, .int x2)], [], zmk s w, 0, 0) (some (.int v), zmk s2 w, 0, 0) := by
  obtain ⟨d, rfl⟩ : ∃ d0, d = d0 + 1 := ⟨d - 1, by omega⟩
  unfold f34_129 at h
  refine zGo_s (pc' := 130) (st' := [.ref 1004]) dd34_129 rfl ?_
  refine cGF (e := 1005) dd34_130 rfl rfl rfl rfl rfl ?_
  refine zGo_s (pc' := 134) (st' := [.int x1, .ref 1005]) dd34_133 rfl ?_
  refine zGo_s (pc' := 135) (st' := [.int x2, .int x1, .ref 1005]) dd34_134 rfl ?_
  refine zGo_s (pc' := 136) (st' := [.int (1 : Int32), .int x2, .int x1, .ref 1005]) dd34_135 rfl ?_
  refine zGo_s (pc' := 137) (st' := [.int (x2 + (1 : Int32)), .int x1, .ref 1005]) dd34_136 rfl ?_
  obtain ⟨hi, h⟩ := ochk h
  obtain ⟨u1, e_u1, h⟩ := olet h
  refine cIS dd34_137 rfl rfl hi e_u1 ?_
  refine zGo_s (pc' := 139) (st' := [.ref 1004]) dd34_138 rfl ?_
  refine cGF (e := 1001) dd34_139 rfl rfl rfl rfl rfl ?_
  obtain ⟨u2, hq, h⟩ := obn0 h
  refine zCV0 (As := []) (rest := []) (b := 1001) (q' := q_26) dd34_142 rfl rfl (rcv_c rfl rfl (by decide)) rfl rfl rfl (f26_ok (d := d) (by omega)  hq) ?_
  refine zGo_s (pc' := 146) (st' := [.int x2]) dd34_145 rfl ?_
  obtain ⟨rfl, rfl⟩ := oret h
  exact zGo_ret dd34_146 rfl rfl
def f34_60 (n : Nat) (x1 : Int32) (x2 : Int32) (y0 : Int32) (s : zσ) : Option (Int32 × zσ) :=
    if zin? x1 9 = true then
    if y0 < (zmost.getD (nx x1) 0) then
    zrd 9 (s.2.2 1004 4) fun a1 =>
    yb1 (f35 n a1 (s.2.1 1001 7) s) fun v3 u2 =>
    if v3 = (0 : Int32) then
    zrd 9 (u2.2.2 1004 4) fun a4 =>
    if zin? x1 9 = true then
    zrw (u2.2.2 (a4 + 1) (nx x1)) fun a5 =>
    if zin? x2 8 = true then
    zlet (sJ u2 a5 (nx x2) (u2.2.1 1001 7)) fun u6 =>
    zrd 9 (u6.2.2 1004 4) fun a7 =>
    if zin? x1 9 = true then
    zlet (sI u6 (a7 + 11) (nx x1) (x2 + (1 : Int32))) fun u8 =>
    f34_129 n x1 x2 u8
    else none
    else none
    else none
    else yb1 (f32 n (4 : Int32) u2) fun v10 u9 =>
    some (v10, u9)
    else yb1 (f32 n (3 : Int32) s) fun v12 u11 =>
    some (v12, u11)
    else none
set_option maxRecDepth 20000 in
theorem f34_60_ok {n d : Nat} {x1 : Int32} {x2 : Int32} {y0 : Int32} {s : zσ} {v : Int32} {s2 : zσ} (hd : 8 ≤ d) (h : f34_60 n x1 x2 y0 s = some (v, s2)) {w : zσ} {fz : Bool} {L : Nat} {xs : Nat → Int32} : zGo (zX fz L xs) d q_34 (60, [(0, .ref 1004), (1, .int x1), (2, .int x2)], [.int y0], zmk s w, 0, 0) (some (.int v), zmk s2 w, 0, 0) := by
  obtain ⟨d, rfl⟩ : ∃ d0, d = d0 + 1 := ⟨d - 1, by omega⟩
  unfold f34_60 at h
  refine zGo_s (pc' := 61) (st' := []) (lv' := [(3, .int y0), (0, .ref 1004), (1, .int x1), (2, .int x2)]) dd34_60 rfl ?_
  refine zGo_s (pc' := 62) (st' := [.int y0]) dd34_61 rfl ?_
  refine zGo_s (pc' := 65) (st' := [.ref 60, .int y0]) dd34_62 rfl ?_
  refine zGo_s (pc' := 66) (st' := [.int x1, .ref 60, .int y0]) dd34_65 rfl ?_
  obtain ⟨hi, h⟩ := ochk h
  refine zGo_s60 dd34_66 hi ?_
  rcases oite h with ⟨hc, h⟩ | ⟨hc, h⟩
  · refine zIT dd34_67 rfl (kLtT hc) ?_
    refine zGo_s (pc' := 77) (st' := [.ref 1004]) dd34_76 rfl ?_
    obtain ⟨a1, e_a1, c_a1, h⟩ := ordd h
    refine cGR dd34_77 rfl rfl rfl rfl e_a1 ?_
    refine zGo_s (pc' := 81) (st' := [.ref 1004, .ref a1]) dd34_80 rfl ?_
    refine cGF (e := 1001) dd34_81 rfl rfl rfl rfl rfl ?_
    refine cGJ dd34_84 rfl rfl rfl rfl ?_
    obtain ⟨v3, u2, hq, h⟩ := obnd h
    refine zCV1 (As := [.long (s.2.1 1001 7)]) (rest := []) (b := a1) (q' := q_35) dd34_87 rfl rfl (rcv_c (ck9_s c_a1).1 (ck9_s c_a1).2 (by decide)) rfl rfl rfl (f35_ok (d := d) (by omega) c_a1 hq) ?_
    rcases oite h with ⟨hc, h⟩ | ⟨hc, h⟩
    · refine zUT dd34_90 rfl (kEqT hc) ?_
      refine zGo_s (pc' := 100) (st' := [.ref 1004]) dd34_99 rfl ?_
      obtain ⟨a4, e_a4, c_a4, h⟩ := ordd h
      refine cGR dd34_100 rfl rfl rfl rfl e_a4 ?_
      refine cGF (e := (a4 + 1)) dd34_103 rfl (ck9_s c_a4).1 (ck9_s c_a4).2 rfl (cf9_0 c_a4).1 ?_
      refine zGo_s (pc' := 107) (st' := [.int x1, .ref (a4 + 1)]) dd34_106 rfl ?_
      obtain ⟨hi, h⟩ := ochk h
      obtain ⟨a5, e_a5, c_a5, h⟩ := orww h
      refine cAA dd34_107 (cf9_0 c_a4).2.1 (cf9_0 c_a4).2.2 (Or.inr rfl) hi e_a5 ?_
      refine zGo_s (pc' := 109) (st' := [.int x2, .ref a5]) dd34_108 rfl ?_
      refine zGo_s (pc' := 110) (st' := [.ref 1004, .int x2, .ref a5]) dd34_109 rfl ?_
      refine cGF (e := 1001) dd34_110 rfl rfl rfl rfl rfl ?_
      refine cGJ dd34_113 rfl rfl rfl rfl ?_
      obtain ⟨hi, h⟩ := ochk h
      obtain ⟨u6, e_u6, h⟩ := olet h
      refine cLS dd34_116 (crw c_a5).1 (crw c_a5).2 hi e_u6 ?_
      refine zGo_s (pc' := 118) (st' := [.ref 1004]) dd34_117 rfl ?_
      obtain ⟨a7, e_a7, c_a7, h⟩ := ordd h
      refine cGR dd34_118 rfl rfl rfl rfl e_a7 ?_
      refine cGF (e := (a7 + 11)) dd34_121 rfl (ck9_s c_a7).1 (ck9_s c_a7).2 rfl (cf9_1 c_a7).1 ?_
      refine zGo_s (pc' := 125) (st' := [.int x1, .ref (a7 + 11)]) dd34_124 rfl ?_
      refine zGo_s (pc' := 126) (st' := [.int x2, .int x1, .ref (a7 + 11)]) dd34_125 rfl ?_
      refine zGo_s (pc' := 127) (st' := [.int (1 : Int32), .int x2, .int x1, .ref (a7 + 11)]) dd34_126 rfl ?_
      refine zGo_s (pc' := 128) (st' := [.int (x2 + (1 : Int32)), .int x1, .ref (a7 + 11)]) dd34_127 rfl ?_
      obtain ⟨hi, h⟩ := ochk h
      obtain ⟨u8, e_u8, h⟩ := olet h
      refine cIS dd34_128 (cf9_1 c_a7).2.1 (cf9_1 c_a7).2.2 hi e_u8 ?_
      exact zGo_lv (lv := [(0, .ref 1004), (1, .int x1), (2, .int x2)]) ⟨by simp, by simp, by simp⟩ (f34_129_ok hd h)
    · refine zUF dd34_90 (kEqF hc) ?_
      refine zGo_s (pc' := 94) (st' := [.ref 1004]) dd34_93 rfl ?_
      refine zGo_s (pc' := 95) (st' := [.int (4 : Int32), .ref 1004]) dd34_94 rfl ?_
      obtain ⟨v10, u9, hq, h⟩ := obnd h
      refine zCV1 (As := [.int (4 : Int32)]) (rest := []) (b := 1004) (q' := q_32) dd34_95 rfl rfl (rcv_c rfl rfl (by decide)) rfl rfl rfl (f32_ok (d := d) (by omega)  hq) ?_
      obtain ⟨rfl, rfl⟩ := oret h
      exact zGo_ret dd34_98 rfl rfl
  · refine zIF dd34_67 (kLtF hc) ?_
    refine zGo_s (pc' := 71) (st' := [.ref 1004]) dd34_70 rfl ?_
    refine zGo_s (pc' := 72) (st' := [.int (3 : Int32), .ref 1004]) dd34_71 rfl ?_
    obtain ⟨v12, u11, hq, h⟩ := obnd h
    refine zCV1 (As := [.int (3 : Int32)]) (rest := []) (b := 1004) (q' := q_32) dd34_72 rfl rfl (rcv_c rfl rfl (by decide)) rfl rfl rfl (f32_ok (d := d) (by omega)  hq) ?_
    obtain ⟨rfl, rfl⟩ := oret h
    exact zGo_ret dd34_75 rfl rfl
def f34_42 (n : Nat) (x1 : Int32) (x2 : Int32) (s : zσ) : Option (Int32 × zσ) :=
    if zin? (5 : Int32) 9 = true then
    if zin? (6 : Int32) 9 = true then
    f34_60 n x1 x2 ((s.1 1005 (nx (5 : Int32))) + (s.1 1005 (nx (6 : Int32)))) s
    else none
    else none
set_option maxRecDepth 20000 in
theorem f34_42_ok {n d : Nat} {x1 : Int32} {x2 : Int32} {s : zσ} {v : Int32} {s2 : zσ} (hd : 8 ≤ d) (h : f34_42 n x1 x2 s = some (v, s2)) {w : zσ} {fz : Bool} {L : Nat} {xs : Nat → Int32} : zGo (zX fz L xs) d q_34 (42, [(0, .ref 1004), (1, .int x1), (2, .int x2)], [], zmk s w, 0, 0) (some (.int v), zmk s2 w, 0, 0) := by
  obtain ⟨d, rfl⟩ : ∃ d0, d = d0 + 1 := ⟨d - 1, by omega⟩
  unfold f34_42 at h
  refine zGo_s (pc' := 43) (st' := [.ref 1004]) dd34_42 rfl ?_
  refine cGF (e := 1005) dd34_43 rfl rfl rfl rfl rfl ?_
  refine zGo_s (pc' := 47) (st' := [.int (5 : Int32), .ref 1005]) dd34_46 rfl ?_
  obtain ⟨hi, h⟩ := ochk h
  refine cIA dd34_47 rfl rfl hi ?_
  refine zGo_s (pc' := 49) (st' := [.ref 1004, .int (s.1 1005 (nx (5 : Int32)))]) dd34_48 rfl ?_
  refine cGF (e := 1005) dd34_49 rfl rfl rfl rfl rfl ?_
  refine zGo_s (pc' := 54) (st' := [.int (6 : Int32), .ref 1005, .int (s.1 1005 (nx (5 : Int32)))]) dd34_52 rfl ?_
  obtain ⟨hi, h⟩ := ochk h
  refine cIA dd34_54 rfl rfl hi ?_
  refine zGo_s (pc' := 56) (st' := [.int ((s.1 1005 (nx (5 : Int32))) + (s.1 1005 (nx (6 : Int32))))]) dd34_55 rfl ?_
  refine zGo_s (pc' := 60) (st' := [.int ((s.1 1005 (nx (5 : Int32))) + (s.1 1005 (nx (6 : Int32))))]) dd34_56 rfl ?_
  exact f34_60_ok hd h
def f34 (n : Nat) (x1 : Int32) (s : zσ) : Option (Int32 × zσ) :=
    if (s.1 1001 4) = (1 : Int32) then
    if zin? x1 9 = true then
    zlet ((s.1 1005 (nx x1))) fun v1 =>
    if (s.1 1004 7) = (0 : Int32) then
    if x1 = (5 : Int32) then
    f34_42 n x1 v1 s
    else if x1 = (6 : Int32) then
    f34_42 n x1 v1 s
    else f34_60 n x1 v1 v1 s
    else f34_129 n x1 v1 s
    else none
    else yb1 (f32 n (2 : Int32) s) fun v3 u2 =>
    some (v3, u2)
set_option maxRecDepth 20000 in
theorem f34_ok {n d : Nat} {x1 : Int32} {s : zσ} {v : Int32} {s2 : zσ} (hd : 8 ≤ d) (h : f34 n x1 s = some (v, s2)) {w : zσ} {fz : Bool} {L : Nat} {xs : Nat → Int32} : zGo (zX fz L xs) d q_34 (0, [(0, .ref 1004), (1, .int x1)], [], zmk s w, 0, 0) (some (.int v), zmk s2 w, 0, 0) := by
  obtain ⟨d, rfl⟩ : ∃ d0, d = d0 + 1 := ⟨d - 1, by omega⟩
  unfold f34 at h
  refine zGo_s (pc' := 1) (st' := [.ref 1004]) dd34_0 rfl ?_
  refine cGF (e := 1001) dd34_1 rfl rfl rfl rfl rfl ?_
  refine cGI dd34_4 rfl rfl rfl rfl ?_
  refine zGo_s (pc' := 8) (st' := [.int (1 : Int32), .int (s.1 1001 4)]) dd34_7 rfl ?_
  rcases oite h with ⟨hc, h⟩ | ⟨hc, h⟩
  · refine zIT dd34_8 rfl (kEqT hc) ?_
    refine zGo_s (pc' := 18) (st' := [.ref 1004]) dd34_17 rfl ?_
    refine cGF (e := 1005) dd34_18 rfl rfl rfl rfl rfl ?_
    refine zGo_s (pc' := 22) (st' := [.int x1, .ref 1005]) dd34_21 rfl ?_
    obtain ⟨hi, h⟩ := ochk h
    refine cIA dd34_22 rfl rfl hi ?_
    obtain ⟨v1, e_v1, h⟩ := olet h
    refine zGo_is1 e_v1 dd34_23 (x' := (24, [(2, .int v1), (0, .ref 1004), (1, .int x1)], [], _, _, _)) rfl ?_
    refine zGo_s (pc' := 25) (st' := [.ref 1004]) dd34_24 rfl ?_
    refine cGI dd34_25 rfl rfl rfl rfl ?_
    rcases oite h with ⟨hc, h⟩ | ⟨hc, h⟩
    · refine zUF dd34_28 (kNeF hc) ?_
      refine zGo_s (pc' := 32) (st' := [.int x1]) dd34_31 rfl ?_
      refine zGo_s (pc' := 33) (st' := [.int (5 : Int32), .int x1]) dd34_32 rfl ?_
      rcases oite h with ⟨hc, h⟩ | ⟨hc, h⟩
      · refine zIT dd34_33 rfl (kEqT hc) ?_
        exact zGo_lv (lv := [(0, .ref 1004), (1, .int x1), (2, .int v1)]) ⟨by simp, by simp, by simp⟩ (f34_42_ok hd h)
      · refine zIF dd34_33 (kEqF hc) ?_
        refine zGo_s (pc' := 37) (st' := [.int x1]) dd34_36 rfl ?_
        refine zGo_s (pc' := 39) (st' := [.int (6 : Int32), .int x1]) dd34_37 rfl ?_
        rcases oite h with ⟨hc, h⟩ | ⟨hc, h⟩
        · refine zIF dd34_39 (kNeF hc) ?_
          exact zGo_lv (lv := [(0, .ref 1004), (1, .int x1), (2, .int v1)]) ⟨by simp, by simp, by simp⟩ (f34_42_ok hd h)
        · refine zIT dd34_39 rfl (kNeT hc) ?_
          refine zGo_s (pc' := 60) (st' := [.int v1]) dd34_59 rfl ?_
          exact zGo_lv (lv := [(0, .ref 1004), (1, .int x1), (2, .int v1)]) ⟨by simp, by simp, by simp⟩ (f34_60_ok hd h)
    · refine zUT dd34_28 rfl (kNeT hc) ?_
      exact zGo_lv (lv := [(0, .ref 1004), (1, .int x1), (2, .int v1)]) ⟨by simp, by simp, by simp⟩ (f34_129_ok hd h)
  · refine zIF dd34_8 (kEqF hc) ?_
    refine zGo_s (pc' := 12) (st' := [.ref 1004]) dd34_11 rfl ?_
    refine zGo_s (pc' := 13) (st' := [.int (2 : Int32), .ref 1004]) dd34_12 rfl ?_
    obtain ⟨v3, u2, hq, h⟩ := obnd h
    refine zCV1 (As := [.int (2 : Int32)]) (rest := []) (b := 1004) (q' := q_32) dd34_13 rfl rfl (rcv_c rfl rfl (by decide)) rfl rfl rfl (f32_ok (d := d) (by omega)  hq) ?_
    obtain ⟨rfl, rfl⟩ := oret h
    exact zGo_ret dd34_16 rfl rfl
/-! PH$Reader.want(I)V -/
theorem dd37_0 : decode cX4_want 0 = .ok (.aload_n 0, 1) := by decide +kernel
theorem dd37_1 : decode cX4_want 1 = .ok (.getfield 54, 3) := by decide +kernel
theorem dd37_4 : decode cX4_want 4 = .ok (.getfield 68, 3) := by decide +kernel
theorem dd37_7 : decode cX4_want 7 = .ok (.iload_n 1, 1) := by decide +kernel
theorem dd37_8 : decode cX4_want 8 = .ok (.if_icmp .ne 13, 3) := by decide +kernel
theorem dd37_11 : decode cX4_want 11 = .ok (.aload_n 0, 1) := by decide +kernel
theorem dd37_12 : decode cX4_want 12 = .ok (.getfield 54, 3) := by decide +kernel
theorem dd37_15 : decode cX4_want 15 = .ok (.invokevirtual 104, 3) := by decide +kernel
theorem dd37_18 : decode cX4_want 18 = .ok (.goto 9, 3) := by decide +kernel
theorem dd37_21 : decode cX4_want 21 = .ok (.aload_n 0, 1) := by decide +kernel
theorem dd37_22 : decode cX4_want 22 = .ok (.iconst 2, 1) := by decide +kernel
theorem dd37_23 : decode cX4_want 23 = .ok (.invokevirtual 73, 3) := by decide +kernel
theorem dd37_26 : decode cX4_want 26 = .ok (.pop, 1) := by decide +kernel
theorem dd37_27 : decode cX4_want 27 = .ok (.return_, 1) := by decide +kernel
def f37 (n : Nat) (x1 : Int32) (s : zσ) : Option zσ :=
    if (s.1 1001 4) = x1 then
    yb0 (f26 n s) fun u3 =>
    some u3
    else yb1 (f32 n (2 : Int32) s) fun v2 u1 =>
    some u1
set_option maxRecDepth 20000 in
theorem f37_ok {n d : Nat} {x1 : Int32} {s : zσ} {s2 : zσ} (hd : 8 ≤ d) (h : f37 n x1 s = some s2) {w : zσ} {fz : Bool} {L : Nat} {xs : Nat → Int32} : zGo (zX fz L xs) d q_37 (0, [(0, .ref 1004), (1, .int x1)], [], zmk s w, 0, 0) (none, zmk s2 w, 0, 0) := by
  obtain ⟨d, rfl⟩ : ∃ d0, d = d0 + 1 := ⟨d - 1, by omega⟩
  unfold f37 at h
  refine zGo_s (pc' := 1) (st' := [.ref 1004]) dd37_0 rfl ?_
  refine cGF (e := 1001) dd37_1 rfl rfl rfl rfl rfl ?_
  refine cGI dd37_4 rfl rfl rfl rfl ?_
  refine zGo_s (pc' := 8) (st' := [.int x1, .int (s.1 1001 4)]) dd37_7 rfl ?_
  rcases oite h with ⟨hc, h⟩ | ⟨hc, h⟩
  · refine zIF dd37_8 (kNeF hc) ?_
    refine zGo_s (pc' := 12) (st' := [.ref 1004]) dd37_11 rfl ?_
    refine cGF (e := 1001) dd37_12 rfl rfl rfl rfl rfl ?_
    obtain ⟨u3, hq, h⟩ := obn0 h
    refine zCV0 (As := []) (rest := []) (b := 1001) (q' := q_26) dd37_15 rfl rfl (rcv_c rfl rfl (by decide)) rfl rfl rfl (f26_ok (d := d) (by omega)  hq) ?_
    refine zGo_s (pc' := 27) (st' := []) dd37_18 rfl ?_
    obtain rfl := ore0 h
    exact zGo_ret dd37_27 rfl rfl
  · refine zIT dd37_8 rfl (kNeT hc) ?_
    refine zGo_s (pc' := 22) (st' := [.ref 1004]) dd37_21 rfl ?_
    refine zGo_s (pc' := 23) (st' := [.int (2 : Int32), .ref 1004]) dd37_22 rfl ?_
    obtain ⟨v2, u1, hq, h⟩ := obnd h
    refine zCV1 (As := [.int (2 : Int32)]) (rest := []) (b := 1004) (q' := q_32) dd37_23 rfl rfl (rcv_c rfl rfl (by decide)) rfl rfl rfl (f32_ok (d := d) (by omega)  hq) ?_
    refine zGo_s (pc' := 27) (st' := []) dd37_26 rfl ?_
    obtain rfl := ore0 h
    exact zGo_ret dd37_27 rfl rfl
/-! PH$Reader.tellParameter()V -/
theorem dd38_0 : decode cX4_tellParameter 0 = .ok (.aload_n 0, 1) := by decide +kernel
theorem dd38_1 : decode cX4_tellParameter 1 = .ok (.getfield 54, 3) := by decide +kernel
theorem dd38_4 : decode cX4_tellParameter 4 = .ok (.getfield 68, 3) := by decide +kernel
theorem dd38_7 : decode cX4_tellParameter 7 = .ok (.iconst 1, 1) := by decide +kernel
theorem dd38_8 : decode cX4_tellParameter 8 = .ok (.if_icmp .eq 10, 3) := by decide +kernel
theorem dd38_11 : decode cX4_tellParameter 11 = .ok (.aload_n 0, 1) := by decide +kernel
theorem dd38_12 : decode cX4_tellParameter 12 = .ok (.iconst 2, 1) := by decide +kernel
theorem dd38_13 : decode cX4_tellParameter 13 = .ok (.invokevirtual 73, 3) := by decide +kernel
theorem dd38_16 : decode cX4_tellParameter 16 = .ok (.pop, 1) := by decide +kernel
theorem dd38_17 : decode cX4_tellParameter 17 = .ok (.return_, 1) := by decide +kernel
theorem dd38_18 : decode cX4_tellParameter 18 = .ok (.aload_n 0, 1) := by decide +kernel
theorem dd38_19 : decode cX4_tellParameter 19 = .ok (.getfield 19, 3) := by decide +kernel
theorem dd38_22 : decode cX4_tellParameter 22 = .ok (.iconst 3, 1) := by decide +kernel
theorem dd38_23 : decode cX4_tellParameter 23 = .ok (.if_icmp .lt 10, 3) := by decide +kernel
theorem dd38_26 : decode cX4_tellParameter 26 = .ok (.aload_n 0, 1) := by decide +kernel
theorem dd38_27 : decode cX4_tellParameter 27 = .ok (.iconst 3, 1) := by decide +kernel
theorem dd38_28 : decode cX4_tellParameter 28 = .ok (.invokevirtual 73, 3) := by decide +kernel
theorem dd38_31 : decode cX4_tellParameter 31 = .ok (.pop, 1) := by decide +kernel
theorem dd38_32 : decode cX4_tellParameter 32 = .ok (.return_, 1) := by decide +kernel
theorem dd38_33 : decode cX4_tellParameter 33 = .ok (.iconst 0, 1) := by decide +kernel
theorem dd38_34 : decode cX4_tellParameter 34 = .ok (.istore_n 1, 1) := by decide +kernel
theorem dd38_35 : decode cX4_tellParameter 35 = .ok (.iload_n 1, 1) := by decide +kernel
theorem dd38_36 : decode cX4_tellParameter 36 = .ok (.aload_n 0, 1) := by decide +kernel
theorem dd38_37 : decode cX4_tellParameter 37 = .ok (.getfield 19, 3) := by decide +kernel
theorem dd38_40 : decode cX4_tellParameter 40 = .ok (.if_icmp .ge 33, 3) := by decide +kernel
theorem dd38_43 : decode cX4_tellParameter 43 = .ok (.aload_n 0, 1) := by decide +kernel
theorem dd38_44 : decode cX4_tellParameter 44 = .ok (.getfield 15, 3) := by decide +kernel
theorem dd38_47 : decode cX4_tellParameter 47 = .ok (.iload_n 1, 1) := by decide +kernel
theorem dd38_48 : decode cX4_tellParameter 48 = .ok (.laload, 1) := by decide +kernel
theorem dd38_49 : decode cX4_tellParameter 49 = .ok (.aload_n 0, 1) := by decide +kernel
theorem dd38_50 : decode cX4_tellParameter 50 = .ok (.getfield 54, 3) := by decide +kernel
theorem dd38_53 : decode cX4_tellParameter 53 = .ok (.getfield 153, 3) := by decide +kernel
theorem dd38_56 : decode cX4_tellParameter 56 = .ok (.lcmp, 1) := by decide +kernel
theorem dd38_57 : decode cX4_tellParameter 57 = .ok (.ifCond .ne 10, 3) := by decide +kernel
theorem dd38_60 : decode cX4_tellParameter 60 = .ok (.aload_n 0, 1) := by decide +kernel
theorem dd38_61 : decode cX4_tellParameter 61 = .ok (.iconst 4, 1) := by decide +kernel
theorem dd38_62 : decode cX4_tellParameter 62 = .ok (.invokevirtual 73, 3) := by decide +kernel
theorem dd38_65 : decode cX4_tellParameter 65 = .ok (.pop, 1) := by decide +kernel
theorem dd38_66 : decode cX4_tellParameter 66 = .ok (.return_, 1) := by decide +kernel
theorem dd38_67 : decode cX4_tellParameter 67 = .ok (.iinc 1 1, 3) := by decide +kernel
theorem dd38_70 : decode cX4_tellParameter 70 = .ok (.goto (-35), 3) := by decide +kernel
theorem dd38_73 : decode cX4_tellParameter 73 = .ok (.aload_n 0, 1) := by decide +kernel
theorem dd38_74 : decode cX4_tellParameter 74 = .ok (.getfield 15, 3) := by decide +kernel
theorem dd38_77 : decode cX4_tellParameter 77 = .ok (.aload_n 0, 1) := by decide +kernel
theorem dd38_78 : decode cX4_tellParameter 78 = .ok (.dup, 1) := by decide +kernel
theorem dd38_79 : decode cX4_tellParameter 79 = .ok (.getfield 19, 3) := by decide +kernel
theorem dd38_82 : decode cX4_tellParameter 82 = .ok (.dup_x1, 1) := by decide +kernel
theorem dd38_83 : decode cX4_tellParameter 83 = .ok (.iconst 1, 1) := by decide +kernel
theorem dd38_84 : decode cX4_tellParameter 84 = .ok (.iadd, 1) := by decide +kernel
theorem dd38_85 : decode cX4_tellParameter 85 = .ok (.putfield 19, 3) := by decide +kernel
theorem dd38_88 : decode cX4_tellParameter 88 = .ok (.aload_n 0, 1) := by decide +kernel
theorem dd38_89 : decode cX4_tellParameter 89 = .ok (.getfield 54, 3) := by decide +kernel
theorem dd38_92 : decode cX4_tellParameter 92 = .ok (.getfield 153, 3) := by decide +kernel
theorem dd38_95 : decode cX4_tellParameter 95 = .ok (.lastore, 1) := by decide +kernel
theorem dd38_96 : decode cX4_tellParameter 96 = .ok (.aload_n 0, 1) := by decide +kernel
theorem dd38_97 : decode cX4_tellParameter 97 = .ok (.getfield 54, 3) := by decide +kernel
theorem dd38_100 : decode cX4_tellParameter 100 = .ok (.invokevirtual 104, 3) := by decide +kernel
theorem dd38_103 : decode cX4_tellParameter 103 = .ok (.return_, 1) := by decide +kernel
def f38_35 (n : Nat) : Nat → Int32 → zσ → Option zσ
  | 0, _, _ => none
  | j + 1, x1, s =>
    if x1 < (s.1 1004 3) then
    if zin? x1 3 = true then
    if (s.2.1 1006 (nx x1)) = (s.2.1 1001 7) then
    yb1 (f32 n (4 : Int32) s) fun v5 u4 =>
    some u4
    else f38_35 n j (x1 + (1 : Int32)) s
    else none
    else zlet (sI s 1004 3 ((s.1 1004 3) + (1 : Int32))) fun u1 =>
    if zin? (s.1 1004 3) 3 = true then
    zlet (sJ u1 1006 (nx (s.1 1004 3)) (u1.2.1 1001 7)) fun u2 =>
    yb0 (f26 n u2) fun u3 =>
    some u3
    else none
set_option maxRecDepth 20000 in
theorem f38_35_ok {n d : Nat} (hd : 8 ≤ d) : ∀ (j : Nat) (x1 : Int32) (s : zσ) (s2 : zσ), f38_35 n j x1 s = some s2 → ∀ {w : zσ} {fz : Bool} {L : Nat} {xs : Nat → Int32}, zGo (zX fz L xs) d q_38 (35, [(0, .ref 1004), (1, .int x1)], [], zmk s w, 0, 0) (none, zmk s2 w, 0, 0) := by
  obtain ⟨d, rfl⟩ : ∃ d0, d = d0 + 1 := ⟨d - 1, by omega⟩
  intro j
  induction j with
  | zero => intro x1 s s2 h; cases h
  | succ j ih =>
    intro x1 s s2 h w fz L xs
    rw [f38_35] at h
    refine zGo_s (pc' := 36) (st' := [.int x1]) dd38_35 rfl ?_
    refine zGo_s (pc' := 37) (st' := [.ref 1004, .int x1]) dd38_36 rfl ?_
    refine cGI dd38_37 rfl rfl rfl rfl ?_
    rcases oite h with ⟨hc, h⟩ | ⟨hc, h⟩
    · refine zIF dd38_40 (kGeF hc) ?_
      refine zGo_s (pc' := 44) (st' := [.ref 1004]) dd38_43 rfl ?_
      refine cGF (e := 1006) dd38_44 rfl rfl rfl rfl rfl ?_
      refine zGo_s (pc' := 48) (st' := [.int x1, .ref 1006]) dd38_47 rfl ?_
      obtain ⟨hi, h⟩ := ochk h
      refine cLA dd38_48 rfl rfl hi ?_
      refine zGo_s (pc' := 50) (st' := [.ref 1004, .long (s.2.1 1006 (nx x1))]) dd38_49 rfl ?_
      refine cGF (e := 1001) dd38_50 rfl rfl rfl rfl rfl ?_
      refine cGJ dd38_53 rfl rfl rfl rfl ?_
      refine zGo_s (pc' := 57) (st' := [.int (lg_cmp (s.2.1 1006 (nx x1)) (s.2.1 1001 7))]) dd38_56 rfl ?_
      rcases oite h with ⟨hc, h⟩ | ⟨hc, h⟩
      · refine zUF dd38_57 (kcNeF hc) ?_
        refine zGo_s (pc' := 61) (st' := [.ref 1004]) dd38_60 rfl ?_
        refine zGo_s (pc' := 62) (st' := [.int (4 : Int32), .ref 1004]) dd38_61 rfl ?_
        obtain ⟨v5, u4, hq, h⟩ := obnd h
        refine zCV1 (As := [.int (4 : Int32)]) (rest := []) (b := 1004) (q' := q_32) dd38_62 rfl rfl (rcv_c rfl rfl (by decide)) rfl rfl rfl (f32_ok (d := d) (by omega)  hq) ?_
        refine zGo_s (pc' := 66) (st' := []) dd38_65 rfl ?_
        obtain rfl := ore0 h
        exact zGo_ret dd38_66 rfl rfl
      · refine zUT dd38_57 rfl (kcNeT hc) ?_
        refine zGo_s (pc' := 70) (st' := []) (lv' := [(1, .int (x1 + (1 : Int32))), (0, .ref 1004)]) dd38_67 rfl ?_
        refine zGo_s (pc' := 35) (st' := []) dd38_70 rfl ?_
        exact zGo_lv (lv := [(0, .ref 1004), (1, .int (x1 + (1 : Int32)))]) ⟨by simp, by simp, by simp⟩ (ih _ _ _ h)
    · refine zIT dd38_40 rfl (kGeT hc) ?_
      refine zGo_s (pc' := 74) (st' := [.ref 1004]) dd38_73 rfl ?_
      refine cGF (e := 1006) dd38_74 rfl rfl rfl rfl rfl ?_
      refine zGo_s (pc' := 78) (st' := [.ref 1004, .ref 1006]) dd38_77 rfl ?_
      refine zGo_s (pc' := 79) (st' := [.ref 1004, .ref 1004, .ref 1006]) dd38_78 rfl ?_
      refine cGI dd38_79 rfl rfl rfl rfl ?_
      refine zGo_s (pc' := 83) (st' := [.int (s.1 1004 3), .ref 1004, .int (s.1 1004 3), .ref 1006]) dd38_82 rfl ?_
      refine zGo_s (pc' := 84) (st' := [.int (1 : Int32), .int (s.1 1004 3), .ref 1004, .int (s.1 1004 3), .ref 1006]) dd38_83 rfl ?_
      refine zGo_s (pc' := 85) (st' := [.int ((s.1 1004 3) + (1 : Int32)), .ref 1004, .int (s.1 1004 3), .ref 1006]) dd38_84 rfl ?_
      obtain ⟨u1, e_u1, h⟩ := olet h
      refine cPI dd38_85 rfl rfl rfl rfl rfl rfl e_u1 ?_
      refine zGo_s (pc' := 89) (st' := [.ref 1004, .int (s.1 1004 3), .ref 1006]) dd38_88 rfl ?_
      refine cGF (e := 1001) dd38_89 rfl rfl rfl rfl rfl ?_
      refine cGJ dd38_92 rfl rfl rfl rfl ?_
      obtain ⟨hi, h⟩ := ochk h
      obtain ⟨u2, e_u2, h⟩ := olet h
      refine cLS dd38_95 rfl rfl hi e_u2 ?_
      refine zGo_s (pc' := 97) (st' := [.ref 1004]) dd38_96 rfl ?_
      refine cGF (e := 1001) dd38_97 rfl rfl rfl rfl rfl ?_
      obtain ⟨u3, hq, h⟩ := obn0 h
      refine zCV0 (As := []) (rest := []) (b := 1001) (q' := q_26) dd38_100 rfl rfl (rcv_c rfl rfl (by decide)) rfl rfl rfl (f26_ok (d := d) (by omega)  hq) ?_
      obtain rfl := ore0 h
      exact zGo_ret dd38_103 rfl rfl
def f38 (n : Nat) (s : zσ) : Option zσ :=
    if (s.1 1001 4) = (1 : Int32) then
    if (s.1 1004 3) < (3 : Int32) then
    f38_35 n n (0 : Int32) s
    else yb1 (f32 n (3 : Int32) s) fun v2 u1 =>
    some u1
    else yb1 (f32 n (2 : Int32) s) fun v4 u3 =>
    some u3
set_option maxRecDepth 20000 in
theorem f38_ok {n d : Nat} {s : zσ} {s2 : zσ} (hd : 8 ≤ d) (h : f38 n s = some s2) {w : zσ} {fz : Bool} {L : Nat} {xs : Nat → Int32} : zGo (zX fz L xs) d q_38 (0, [(0, .ref 1004)], [], zmk s w, 0, 0) (none, zmk s2 w, 0, 0) := by
  obtain ⟨d, rfl⟩ : ∃ d0, d = d0 + 1 := ⟨d - 1, by omega⟩
  unfold f38 at h
  refine zGo_s (pc' := 1) (st' := [.ref 1004]) dd38_0 rfl ?_
  refine cGF (e := 1001) dd38_1 rfl rfl rfl rfl rfl ?_
  refine cGI dd38_4 rfl rfl rfl rfl ?_
  refine zGo_s (pc' := 8) (st' := [.int (1 : Int32), .int (s.1 1001 4)]) dd38_7 rfl ?_
  rcases oite h with ⟨hc, h⟩ | ⟨hc, h⟩
  · refine zIT dd38_8 rfl (kEqT hc) ?_
    refine zGo_s (pc' := 19) (st' := [.ref 1004]) dd38_18 rfl ?_
    refine cGI dd38_19 rfl rfl rfl rfl ?_
    refine zGo_s (pc' := 23) (st' := [.int (3 : Int32), .int (s.1 1004 3)]) dd38_22 rfl ?_
    rcases oite h with ⟨hc, h⟩ | ⟨hc, h⟩
    · refine zIT dd38_23 rfl (kLtT hc) ?_
      refine zGo_s (pc' := 34) (st' := [.int (0 : Int32)]) dd38_33 rfl ?_
      refine zGo_s (pc' := 35) (st' := []) (lv' := [(1, .int (0 : Int32)), (0, .ref 1004)]) dd38_34 rfl ?_
      exact zGo_lv (lv := [(0, .ref 1004), (1, .int (0 : Int32))]) ⟨by simp, by simp, by simp⟩ (f38_35_ok hd _ _ _ _ h)
    · refine zIF dd38_23 (kLtF hc) ?_
      refine zGo_s (pc' := 27) (st' := [.ref 1004]) dd38_26 rfl ?_
      refine zGo_s (pc' := 28) (st' := [.int (3 : Int32), .ref 1004]) dd38_27 rfl ?_
      obtain ⟨v2, u1, hq, h⟩ := obnd h
      refine zCV1 (As := [.int (3 : Int32)]) (rest := []) (b := 1004) (q' := q_32) dd38_28 rfl rfl (rcv_c rfl rfl (by decide)) rfl rfl rfl (f32_ok (d := d) (by omega)  hq) ?_
      refine zGo_s (pc' := 32) (st' := []) dd38_31 rfl ?_
      obtain rfl := ore0 h
      exact zGo_ret dd38_32 rfl rfl
  · refine zIF dd38_8 (kEqF hc) ?_
    refine zGo_s (pc' := 12) (st' := [.ref 1004]) dd38_11 rfl ?_
    refine zGo_s (pc' := 13) (st' := [.int (2 : Int32), .ref 1004]) dd38_12 rfl ?_
    obtain ⟨v4, u3, hq, h⟩ := obnd h
    refine zCV1 (As := [.int (2 : Int32)]) (rest := []) (b := 1004) (q' := q_32) dd38_13 rfl rfl (rcv_c rfl rfl (by decide)) rfl rfl rfl (f32_ok (d := d) (by omega)  hq) ?_
    refine zGo_s (pc' := 17) (st' := []) dd38_16 rfl ?_
    obtain rfl := ore0 h
    exact zGo_ret dd38_17 rfl rfl
/-! PH$Reader.accept(I)Z -/
theorem dd39_0 : decode cX4_accept 0 = .ok (.aload_n 0, 1) := by decide +kernel
theorem dd39_1 : decode cX4_accept 1 = .ok (.getfield 54, 3) := by decide +kernel
theorem dd39_4 : decode cX4_accept 4 = .ok (.getfield 68, 3) := by decide +kernel
theorem dd39_7 : decode cX4_accept 7 = .ok (.iload_n 1, 1) := by decide +kernel
theorem dd39_8 : decode cX4_accept 8 = .ok (.if_icmp .eq 5, 3) := by decide +kernel
theorem dd39_11 : decode cX4_accept 11 = .ok (.iconst 0, 1) := by decide +kernel
theorem dd39_12 : decode cX4_accept 12 = .ok (.ireturn, 1) := by decide +kernel
theorem dd39_13 : decode cX4_accept 13 = .ok (.aload_n 0, 1) := by decide +kernel
theorem dd39_14 : decode cX4_accept 14 = .ok (.getfield 54, 3) := by decide +kernel
theorem dd39_17 : decode cX4_accept 17 = .ok (.invokevirtual 104, 3) := by decide +kernel
theorem dd39_20 : decode cX4_accept 20 = .ok (.iconst 1, 1) := by decide +kernel
theorem dd39_21 : decode cX4_accept 21 = .ok (.ireturn, 1) := by decide +kernel
def f39 (n : Nat) (x1 : Int32) (s : zσ) : Option (Int32 × zσ) :=
    if (s.1 1001 4) = x1 then
    yb0 (f26 n s) fun u1 =>
    some ((1 : Int32), u1)
    else some ((0 : Int32), s)
set_option maxRecDepth 20000 in
theorem f39_ok {n d : Nat} {x1 : Int32} {s : zσ} {v : Int32} {s2 : zσ} (hd : 8 ≤ d) (h : f39 n x1 s = some (v, s2)) {w : zσ} {fz : Bool} {L : Nat} {xs : Nat → Int32} : zGo (zX fz L xs) d q_39 (0, [(0, .ref 1004), (1, .int x1)], [], zmk s w, 0, 0) (some (.int v), zmk s2 w, 0, 0) := by
  obtain ⟨d, rfl⟩ : ∃ d0, d = d0 + 1 := ⟨d - 1, by omega⟩
  unfold f39 at h
  refine zGo_s (pc' := 1) (st' := [.ref 1004]) dd39_0 rfl ?_
  refine cGF (e := 1001) dd39_1 rfl rfl rfl rfl rfl ?_
  refine cGI dd39_4 rfl rfl rfl rfl ?_
  refine zGo_s (pc' := 8) (st' := [.int x1, .int (s.1 1001 4)]) dd39_7 rfl ?_
  rcases oite h with ⟨hc, h⟩ | ⟨hc, h⟩
  · refine zIT dd39_8 rfl (kEqT hc) ?_
    refine zGo_s (pc' := 14) (st' := [.ref 1004]) dd39_13 rfl ?_
    refine cGF (e := 1001) dd39_14 rfl rfl rfl rfl rfl ?_
    obtain ⟨u1, hq, h⟩ := obn0 h
    refine zCV0 (As := []) (rest := []) (b := 1001) (q' := q_26) dd39_17 rfl rfl (rcv_c rfl rfl (by decide)) rfl rfl rfl (f26_ok (d := d) (by omega)  hq) ?_
    refine zGo_s (pc' := 21) (st' := [.int (1 : Int32)]) dd39_20 rfl ?_
    obtain ⟨rfl, rfl⟩ := oret h
    exact zGo_ret dd39_21 rfl rfl
  · refine zIF dd39_8 (kEqF hc) ?_
    refine zGo_s (pc' := 12) (st' := [.int (0 : Int32)]) dd39_11 rfl ?_
    obtain ⟨rfl, rfl⟩ := oret h
    exact zGo_ret dd39_12 rfl rfl
/-! PH$Reader.deeper(I)Z -/
theorem dd41_0 : decode cX4_deeper 0 = .ok (.aload_n 0, 1) := by decide +kernel
theorem dd41_1 : decode cX4_deeper 1 = .ok (.getfield 54, 3) := by decide +kernel
theorem dd41_4 : decode cX4_deeper 4 = .ok (.getfield 68, 3) := by decide +kernel
theorem dd41_7 : decode cX4_deeper 7 = .ok (.iload_n 1, 1) := by decide +kernel
theorem dd41_8 : decode cX4_deeper 8 = .ok (.if_icmp .eq 11, 3) := by decide +kernel
theorem dd41_11 : decode cX4_deeper 11 = .ok (.aload_n 0, 1) := by decide +kernel
theorem dd41_12 : decode cX4_deeper 12 = .ok (.iconst 2, 1) := by decide +kernel
theorem dd41_13 : decode cX4_deeper 13 = .ok (.invokevirtual 73, 3) := by decide +kernel
theorem dd41_16 : decode cX4_deeper 16 = .ok (.pop, 1) := by decide +kernel
theorem dd41_17 : decode cX4_deeper 17 = .ok (.iconst 0, 1) := by decide +kernel
theorem dd41_18 : decode cX4_deeper 18 = .ok (.ireturn, 1) := by decide +kernel
theorem dd41_19 : decode cX4_deeper 19 = .ok (.aload_n 0, 1) := by decide +kernel
theorem dd41_20 : decode cX4_deeper 20 = .ok (.getfield 42, 3) := by decide +kernel
theorem dd41_23 : decode cX4_deeper 23 = .ok (.bipush 12, 2) := by decide +kernel
theorem dd41_25 : decode cX4_deeper 25 = .ok (.if_icmp .lt 11, 3) := by decide +kernel
theorem dd41_28 : decode cX4_deeper 28 = .ok (.aload_n 0, 1) := by decide +kernel
theorem dd41_29 : decode cX4_deeper 29 = .ok (.iconst 3, 1) := by decide +kernel
theorem dd41_30 : decode cX4_deeper 30 = .ok (.invokevirtual 73, 3) := by decide +kernel
theorem dd41_33 : decode cX4_deeper 33 = .ok (.pop, 1) := by decide +kernel
theorem dd41_34 : decode cX4_deeper 34 = .ok (.iconst 0, 1) := by decide +kernel
theorem dd41_35 : decode cX4_deeper 35 = .ok (.ireturn, 1) := by decide +kernel
theorem dd41_36 : decode cX4_deeper 36 = .ok (.aload_n 0, 1) := by decide +kernel
theorem dd41_37 : decode cX4_deeper 37 = .ok (.dup, 1) := by decide +kernel
theorem dd41_38 : decode cX4_deeper 38 = .ok (.getfield 42, 3) := by decide +kernel
theorem dd41_41 : decode cX4_deeper 41 = .ok (.iconst 1, 1) := by decide +kernel
theorem dd41_42 : decode cX4_deeper 42 = .ok (.iadd, 1) := by decide +kernel
theorem dd41_43 : decode cX4_deeper 43 = .ok (.putfield 42, 3) := by decide +kernel
theorem dd41_46 : decode cX4_deeper 46 = .ok (.aload_n 0, 1) := by decide +kernel
theorem dd41_47 : decode cX4_deeper 47 = .ok (.getfield 54, 3) := by decide +kernel
theorem dd41_50 : decode cX4_deeper 50 = .ok (.invokevirtual 104, 3) := by decide +kernel
theorem dd41_53 : decode cX4_deeper 53 = .ok (.iconst 1, 1) := by decide +kernel
theorem dd41_54 : decode cX4_deeper 54 = .ok (.ireturn, 1) := by decide +kernel
def f41 (n : Nat) (x1 : Int32) (s : zσ) : Option (Int32 × zσ) :=
    if (s.1 1001 4) = x1 then
    if (s.1 1004 9) < (12 : Int32) then
    zlet (sI s 1004 9 ((s.1 1004 9) + (1 : Int32))) fun u1 =>
    yb0 (f26 n u1) fun u2 =>
    some ((1 : Int32), u2)
    else yb1 (f32 n (3 : Int32) s) fun v4 u3 =>
    some ((0 : Int32), u3)
    else yb1 (f32 n (2 : Int32) s) fun v6 u5 =>
    some ((0 : Int32), u5)
set_option maxRecDepth 20000 in
theorem f41_ok {n d : Nat} {x1 : Int32} {s : zσ} {v : Int32} {s2 : zσ} (hd : 8 ≤ d) (h : f41 n x1 s = some (v, s2)) {w : zσ} {fz : Bool} {L : Nat} {xs : Nat → Int32} : zGo (zX fz L xs) d q_41 (0, [(0, .ref 1004), (1, .int x1)], [], zmk s w, 0, 0) (some (.int v), zmk s2 w, 0, 0) := by
  obtain ⟨d, rfl⟩ : ∃ d0, d = d0 + 1 := ⟨d - 1, by omega⟩
  unfold f41 at h
  refine zGo_s (pc' := 1) (st' := [.ref 1004]) dd41_0 rfl ?_
  refine cGF (e := 1001) dd41_1 rfl rfl rfl rfl rfl ?_
  refine cGI dd41_4 rfl rfl rfl rfl ?_
  refine zGo_s (pc' := 8) (st' := [.int x1, .int (s.1 1001 4)]) dd41_7 rfl ?_
  rcases oite h with ⟨hc, h⟩ | ⟨hc, h⟩
  · refine zIT dd41_8 rfl (kEqT hc) ?_
    refine zGo_s (pc' := 20) (st' := [.ref 1004]) dd41_19 rfl ?_
    refine cGI dd41_20 rfl rfl rfl rfl ?_
    refine zGo_s (pc' := 25) (st' := [.int (12 : Int32), .int (s.1 1004 9)]) dd41_23 rfl ?_
    rcases oite h with ⟨hc, h⟩ | ⟨hc, h⟩
    · refine zIT dd41_25 rfl (kLtT hc) ?_
      refine zGo_s (pc' := 37) (st' := [.ref 1004]) dd41_36 rfl ?_
      refine zGo_s (pc' := 38) (st' := [.ref 1004, .ref 1004]) dd41_37 rfl ?_
      refine cGI dd41_38 rfl rfl rfl rfl ?_
      refine zGo_s (pc' := 42) (st' := [.int (1 : Int32), .int (s.1 1004 9), .ref 1004]) dd41_41 rfl ?_
      refine zGo_s (pc' := 43) (st' := [.int ((s.1 1004 9) + (1 : Int32)), .ref 1004]) dd41_42 rfl ?_
      obtain ⟨u1, e_u1, h⟩ := olet h
      refine cPI dd41_43 rfl rfl rfl rfl rfl rfl e_u1 ?_
      refine zGo_s (pc' := 47) (st' := [.ref 1004]) dd41_46 rfl ?_
      refine cGF (e := 1001) dd41_47 rfl rfl rfl rfl rfl ?_
      obtain ⟨u2, hq, h⟩ := obn0 h
      refine zCV0 (As := []) (rest := []) (b := 1001) (q' := q_26) dd41_50 rfl rfl (rcv_c rfl rfl (by decide)) rfl rfl rfl (f26_ok (d := d) (by omega)  hq) ?_
      refine zGo_s (pc' := 54) (st' := [.int (1 : Int32)]) dd41_53 rfl ?_
      obtain ⟨rfl, rfl⟩ := oret h
      exact zGo_ret dd41_54 rfl rfl
    · refine zIF dd41_25 (kLtF hc) ?_
      refine zGo_s (pc' := 29) (st' := [.ref 1004]) dd41_28 rfl ?_
      refine zGo_s (pc' := 30) (st' := [.int (3 : Int32), .ref 1004]) dd41_29 rfl ?_
      obtain ⟨v4, u3, hq, h⟩ := obnd h
      refine zCV1 (As := [.int (3 : Int32)]) (rest := []) (b := 1004) (q' := q_32) dd41_30 rfl rfl (rcv_c rfl rfl (by decide)) rfl rfl rfl (f32_ok (d := d) (by omega)  hq) ?_
      refine zGo_s (pc' := 34) (st' := []) dd41_33 rfl ?_
      refine zGo_s (pc' := 35) (st' := [.int (0 : Int32)]) dd41_34 rfl ?_
      obtain ⟨rfl, rfl⟩ := oret h
      exact zGo_ret dd41_35 rfl rfl
  · refine zIF dd41_8 (kEqF hc) ?_
    refine zGo_s (pc' := 12) (st' := [.ref 1004]) dd41_11 rfl ?_
    refine zGo_s (pc' := 13) (st' := [.int (2 : Int32), .ref 1004]) dd41_12 rfl ?_
    obtain ⟨v6, u5, hq, h⟩ := obnd h
    refine zCV1 (As := [.int (2 : Int32)]) (rest := []) (b := 1004) (q' := q_32) dd41_13 rfl rfl (rcv_c rfl rfl (by decide)) rfl rfl rfl (f32_ok (d := d) (by omega)  hq) ?_
    refine zGo_s (pc' := 17) (st' := []) dd41_16 rfl ?_
    refine zGo_s (pc' := 18) (st' := [.int (0 : Int32)]) dd41_17 rfl ?_
    obtain ⟨rfl, rfl⟩ := oret h
    exact zGo_ret dd41_18 rfl rfl
/-! PH$Blocks.add(II)I -/
theorem dd42_0 : decode cX0_add 0 = .ok (.aload_n 0, 1) := by decide +kernel
theorem dd42_1 : decode cX0_add 1 = .ok (.getfield 30, 3) := by decide +kernel
theorem dd42_4 : decode cX0_add 4 = .ok (.sipush 700, 3) := by decide +kernel
theorem dd42_7 : decode cX0_add 7 = .ok (.if_icmp .lt 5, 3) := by decide +kernel
theorem dd42_10 : decode cX0_add 10 = .ok (.iconst (-1), 1) := by decide +kernel
theorem dd42_11 : decode cX0_add 11 = .ok (.ireturn, 1) := by decide +kernel
theorem dd42_12 : decode cX0_add 12 = .ok (.aload_n 0, 1) := by decide +kernel
theorem dd42_13 : decode cX0_add 13 = .ok (.dup, 1) := by decide +kernel
theorem dd42_14 : decode cX0_add 14 = .ok (.getfield 30, 3) := by decide +kernel
theorem dd42_17 : decode cX0_add 17 = .ok (.dup_x1, 1) := by decide +kernel
theorem dd42_18 : decode cX0_add 18 = .ok (.iconst 1, 1) := by decide +kernel
theorem dd42_19 : decode cX0_add 19 = .ok (.iadd, 1) := by decide +kernel
theorem dd42_20 : decode cX0_add 20 = .ok (.putfield 30, 3) := by decide +kernel
theorem dd42_23 : decode cX0_add 23 = .ok (.istore_n 3, 1) := by decide +kernel
theorem dd42_24 : decode cX0_add 24 = .ok (.aload_n 0, 1) := by decide +kernel
theorem dd42_25 : decode cX0_add 25 = .ok (.getfield 9, 3) := by decide +kernel
theorem dd42_28 : decode cX0_add 28 = .ok (.iload_n 3, 1) := by decide +kernel
theorem dd42_29 : decode cX0_add 29 = .ok (.iload_n 1, 1) := by decide +kernel
theorem dd42_30 : decode cX0_add 30 = .ok (.iastore, 1) := by decide +kernel
theorem dd42_31 : decode cX0_add 31 = .ok (.aload_n 0, 1) := by decide +kernel
theorem dd42_32 : decode cX0_add 32 = .ok (.getfield 15, 3) := by decide +kernel
theorem dd42_35 : decode cX0_add 35 = .ok (.iload_n 3, 1) := by decide +kernel
theorem dd42_36 : decode cX0_add 36 = .ok (.iload_n 2, 1) := by decide +kernel
theorem dd42_37 : decode cX0_add 37 = .ok (.iastore, 1) := by decide +kernel
theorem dd42_38 : decode cX0_add 38 = .ok (.aload_n 0, 1) := by decide +kernel
theorem dd42_39 : decode cX0_add 39 = .ok (.getfield 18, 3) := by decide +kernel
theorem dd42_42 : decode cX0_add 42 = .ok (.iload_n 3, 1) := by decide +kernel
theorem dd42_43 : decode cX0_add 43 = .ok (.iconst (-1), 1) := by decide +kernel
theorem dd42_44 : decode cX0_add 44 = .ok (.iastore, 1) := by decide +kernel
theorem dd42_45 : decode cX0_add 45 = .ok (.aload_n 0, 1) := by decide +kernel
theorem dd42_46 : decode cX0_add 46 = .ok (.getfield 21, 3) := by decide +kernel
theorem dd42_49 : decode cX0_add 49 = .ok (.iload_n 3, 1) := by decide +kernel
theorem dd42_50 : decode cX0_add 50 = .ok (.iconst (-1), 1) := by decide +kernel
theorem dd42_51 : decode cX0_add 51 = .ok (.iastore, 1) := by decide +kernel
theorem dd42_52 : decode cX0_add 52 = .ok (.aload_n 0, 1) := by decide +kernel
theorem dd42_53 : decode cX0_add 53 = .ok (.getfield 24, 3) := by decide +kernel
theorem dd42_56 : decode cX0_add 56 = .ok (.iload_n 3, 1) := by decide +kernel
theorem dd42_57 : decode cX0_add 57 = .ok (.iconst (-1), 1) := by decide +kernel
theorem dd42_58 : decode cX0_add 58 = .ok (.iastore, 1) := by decide +kernel
theorem dd42_59 : decode cX0_add 59 = .ok (.aload_n 0, 1) := by decide +kernel
theorem dd42_60 : decode cX0_add 60 = .ok (.getfield 27, 3) := by decide +kernel
theorem dd42_63 : decode cX0_add 63 = .ok (.iload_n 3, 1) := by decide +kernel
theorem dd42_64 : decode cX0_add 64 = .ok (.iconst 0, 1) := by decide +kernel
theorem dd42_65 : decode cX0_add 65 = .ok (.iastore, 1) := by decide +kernel
theorem dd42_66 : decode cX0_add 66 = .ok (.iload_n 3, 1) := by decide +kernel
theorem dd42_67 : decode cX0_add 67 = .ok (.ireturn, 1) := by decide +kernel
def f42 (n : Nat) (x0 : Nat) (x1 : Int32) (x2 : Int32) (s : zσ) : Option (Int32 × zσ) :=
    if (s.1 x0 6) < (700 : Int32) then
    zlet (sI s x0 6 ((s.1 x0 6) + (1 : Int32))) fun u1 =>
    zlet ((s.1 x0 6)) fun v2 =>
    if zin? v2 700 = true then
    zlet (sI u1 (x0 + 1) (nx v2) x1) fun u3 =>
    if zin? v2 700 = true then
    zlet (sI u3 (x0 + 2) (nx v2) x2) fun u4 =>
    if zin? v2 700 = true then
    zlet (sI u4 (x0 + 3) (nx v2) (-1 : Int32)) fun u5 =>
    if zin? v2 700 = true then
    zlet (sI u5 (x0 + 4) (nx v2) (-1 : Int32)) fun u6 =>
    if zin? v2 700 = true then
    zlet (sI u6 (x0 + 5) (nx v2) (-1 : Int32)) fun u7 =>
    if zin? v2 700 = true then
    zlet (sI u7 (x0 + 6) (nx v2) (0 : Int32)) fun u8 =>
    some (v2, u8)
    else none
    else none
    else none
    else none
    else none
    else none
    else some ((-1 : Int32), s)
set_option maxRecDepth 20000 in
theorem f42_ok {n d : Nat} {x0 : Nat} {x1 : Int32} {x2 : Int32} {s : zσ} {v : Int32} {s2 : zσ} (hd : 0 ≤ d) (hx0 : zck 0 x0 = true) (h : f42 n x0 x1 x2 s = some (v, s2)) {w : zσ} {fz : Bool} {L : Nat} {xs : Nat → Int32} : zGo (zX fz L xs) d q_42 (0, [(0, .ref x0), (1, .int x1), (2, .int x2)], [], zmk s w, 0, 0) (some (.int v), zmk s2 w, 0, 0) := by
  unfold f42 at h
  refine zGo_s (pc' := 1) (st' := [.ref x0]) dd42_0 rfl ?_
  refine cGI dd42_1 rfl (ck0_s hx0).1 (ck0_s hx0).2 rfl ?_
  refine zGo_s (pc' := 7) (st' := [.int (700 : Int32), .int (s.1 x0 6)]) dd42_4 rfl ?_
  rcases oite h with ⟨hc, h⟩ | ⟨hc, h⟩
  · refine zIT dd42_7 rfl (kLtT hc) ?_
    refine zGo_s (pc' := 13) (st' := [.ref x0]) dd42_12 rfl ?_
    refine zGo_s (pc' := 14) (st' := [.ref x0, .ref x0]) dd42_13 rfl ?_
    refine cGI dd42_14 rfl (ck0_s hx0).1 (ck0_s hx0).2 rfl ?_
    refine zGo_s (pc' := 18) (st' := [.int (s.1 x0 6), .ref x0, .int (s.1 x0 6)]) dd42_17 rfl ?_
    refine zGo_s (pc' := 19) (st' := [.int (1 : Int32), .int (s.1 x0 6), .ref x0, .int (s.1 x0 6)]) dd42_18 rfl ?_
    refine zGo_s (pc' := 20) (st' := [.int ((s.1 x0 6) + (1 : Int32)), .ref x0, .int (s.1 x0 6)]) dd42_19 rfl ?_
    obtain ⟨u1, e_u1, h⟩ := olet h
    refine cPI dd42_20 rfl (ck0_s hx0).1 (ck0_s hx0).2 rfl rfl rfl e_u1 ?_
    obtain ⟨v2, e_v2, h⟩ := olet h
    refine zGo_is1 e_v2 dd42_23 (x' := (24, [(3, .int v2), (0, .ref x0), (1, .int x1), (2, .int x2)], [], _, _, _)) rfl ?_
    refine zGo_s (pc' := 25) (st' := [.ref x0]) dd42_24 rfl ?_
    refine cGF (e := (x0 + 1)) dd42_25 rfl (ck0_s hx0).1 (ck0_s hx0).2 rfl (cf0_0 hx0).1 ?_
    refine zGo_s (pc' := 29) (st' := [.int v2, .ref (x0 + 1)]) dd42_28 rfl ?_
    refine zGo_s (pc' := 30) (st' := [.int x1, .int v2, .ref (x0 + 1)]) dd42_29 rfl ?_
    obtain ⟨hi, h⟩ := ochk h
    obtain ⟨u3, e_u3, h⟩ := olet h
    refine cIS dd42_30 (cf0_0 hx0).2.1 (cf0_0 hx0).2.2 hi e_u3 ?_
    refine zGo_s (pc' := 32) (st' := [.ref x0]) dd42_31 rfl ?_
    refine cGF (e := (x0 + 2)) dd42_32 rfl (ck0_s hx0).1 (ck0_s hx0).2 rfl (cf0_1 hx0).1 ?_
    refine zGo_s (pc' := 36) (st' := [.int v2, .ref (x0 + 2)]) dd42_35 rfl ?_
    refine zGo_s (pc' := 37) (st' := [.int x2, .int v2, .ref (x0 + 2)]) dd42_36 rfl ?_
    obtain ⟨hi, h⟩ := ochk h
    obtain ⟨u4, e_u4, h⟩ := olet h
    refine cIS dd42_37 (cf0_1 hx0).2.1 (cf0_1 hx0).2.2 hi e_u4 ?_
    refine zGo_s (pc' := 39) (st' := [.ref x0]) dd42_38 rfl ?_
    refine cGF (e := (x0 + 3)) dd42_39 rfl (ck0_s hx0).1 (ck0_s hx0).2 rfl (cf0_2 hx0).1 ?_
    refine zGo_s (pc' := 43) (st' := [.int v2, .ref (x0 + 3)]) dd42_42 rfl ?_
    refine zGo_s (pc' := 44) (st' := [.int (-1 : Int32), .int v2, .ref (x0 + 3)]) dd42_43 rfl ?_
    obtain ⟨hi, h⟩ := ochk h
    obtain ⟨u5, e_u5, h⟩ := olet h
    refine cIS dd42_44 (cf0_2 hx0).2.1 (cf0_2 hx0).2.2 hi e_u5 ?_
    refine zGo_s (pc' := 46) (st' := [.ref x0]) dd42_45 rfl ?_
    refine cGF (e := (x0 + 4)) dd42_46 rfl (ck0_s hx0).1 (ck0_s hx0).2 rfl (cf0_3 hx0).1 ?_
    refine zGo_s (pc' := 50) (st' := [.int v2, .ref (x0 + 4)]) dd42_49 rfl ?_
    refine zGo_s (pc' := 51) (st' := [.int (-1 : Int32), .int v2, .ref (x0 + 4)]) dd42_50 rfl ?_
    obtain ⟨hi, h⟩ := ochk h
    obtain ⟨u6, e_u6, h⟩ := olet h
    refine cIS dd42_51 (cf0_3 hx0).2.1 (cf0_3 hx0).2.2 hi e_u6 ?_
    refine zGo_s (pc' := 53) (st' := [.ref x0]) dd42_52 rfl ?_
    refine cGF (e := (x0 + 5)) dd42_53 rfl (ck0_s hx0).1 (ck0_s hx0).2 rfl (cf0_4 hx0).1 ?_
    refine zGo_s (pc' := 57) (st' := [.int v2, .ref (x0 + 5)]) dd42_56 rfl ?_
    refine zGo_s (pc' := 58) (st' := [.int (-1 : Int32), .int v2, .ref (x0 + 5)]) dd42_57 rfl ?_
    obtain ⟨hi, h⟩ := ochk h
    obtain ⟨u7, e_u7, h⟩ := olet h
    refine cIS dd42_58 (cf0_4 hx0).2.1 (cf0_4 hx0).2.2 hi e_u7 ?_
    refine zGo_s (pc' := 60) (st' := [.ref x0]) dd42_59 rfl ?_
    refine cGF (e := (x0 + 6)) dd42_60 rfl (ck0_s hx0).1 (ck0_s hx0).2 rfl (cf0_5 hx0).1 ?_
    refine zGo_s (pc' := 64) (st' := [.int v2, .ref (x0 + 6)]) dd42_63 rfl ?_
    refine zGo_s (pc' := 65) (st' := [.int (0 : Int32), .int v2, .ref (x0 + 6)]) dd42_64 rfl ?_
    obtain ⟨hi, h⟩ := ochk h
    obtain ⟨u8, e_u8, h⟩ := olet h
    refine cIS dd42_65 (cf0_5 hx0).2.1 (cf0_5 hx0).2.2 hi e_u8 ?_
    refine zGo_s (pc' := 67) (st' := [.int v2]) dd42_66 rfl ?_
    obtain ⟨rfl, rfl⟩ := oret h
    exact zGo_ret dd42_67 rfl rfl
  · refine zIF dd42_7 (kLtF hc) ?_
    refine zGo_s (pc' := 11) (st' := [.int (-1 : Int32)]) dd42_10 rfl ?_
    obtain ⟨rfl, rfl⟩ := oret h
    exact zGo_ret dd42_11 rfl rfl
/-! PH$Blocks.reactionTo(II)I -/
theorem dd44_0 : decode cX0_reactionTo 0 = .ok (.aload_n 0, 1) := by decide +kernel
theorem dd44_1 : decode cX0_reactionTo 1 = .ok (.getfield 21, 3) := by decide +kernel
theorem dd44_4 : decode cX0_reactionTo 4 = .ok (.iload_n 1, 1) := by decide +kernel
theorem dd44_5 : decode cX0_reactionTo 5 = .ok (.iaload, 1) := by decide +kernel
theorem dd44_6 : decode cX0_reactionTo 6 = .ok (.istore_n 3, 1) := by decide +kernel
theorem dd44_7 : decode cX0_reactionTo 7 = .ok (.iconst 0, 1) := by decide +kernel
theorem dd44_8 : decode cX0_reactionTo 8 = .ok (.istore 4, 2) := by decide +kernel
theorem dd44_10 : decode cX0_reactionTo 10 = .ok (.iload 4, 2) := by decide +kernel
theorem dd44_12 : decode cX0_reactionTo 12 = .ok (.sipush 700, 3) := by decide +kernel
theorem dd44_15 : decode cX0_reactionTo 15 = .ok (.if_icmp .ge 33, 3) := by decide +kernel
theorem dd44_18 : decode cX0_reactionTo 18 = .ok (.iload_n 3, 1) := by decide +kernel
theorem dd44_19 : decode cX0_reactionTo 19 = .ok (.iconst (-1), 1) := by decide +kernel
theorem dd44_20 : decode cX0_reactionTo 20 = .ok (.if_icmp .eq 28, 3) := by decide +kernel
theorem dd44_23 : decode cX0_reactionTo 23 = .ok (.aload_n 0, 1) := by decide +kernel
theorem dd44_24 : decode cX0_reactionTo 24 = .ok (.getfield 27, 3) := by decide +kernel
theorem dd44_27 : decode cX0_reactionTo 27 = .ok (.iload_n 3, 1) := by decide +kernel
theorem dd44_28 : decode cX0_reactionTo 28 = .ok (.iaload, 1) := by decide +kernel
theorem dd44_29 : decode cX0_reactionTo 29 = .ok (.iload_n 2, 1) := by decide +kernel
theorem dd44_30 : decode cX0_reactionTo 30 = .ok (.if_icmp .ne 5, 3) := by decide +kernel
theorem dd44_33 : decode cX0_reactionTo 33 = .ok (.iload_n 3, 1) := by decide +kernel
theorem dd44_34 : decode cX0_reactionTo 34 = .ok (.ireturn, 1) := by decide +kernel
theorem dd44_35 : decode cX0_reactionTo 35 = .ok (.aload_n 0, 1) := by decide +kernel
theorem dd44_36 : decode cX0_reactionTo 36 = .ok (.getfield 24, 3) := by decide +kernel
theorem dd44_39 : decode cX0_reactionTo 39 = .ok (.iload_n 3, 1) := by decide +kernel
theorem dd44_40 : decode cX0_reactionTo 40 = .ok (.iaload, 1) := by decide +kernel
theorem dd44_41 : decode cX0_reactionTo 41 = .ok (.istore_n 3, 1) := by decide +kernel
theorem dd44_42 : decode cX0_reactionTo 42 = .ok (.iinc 4 1, 3) := by decide +kernel
theorem dd44_45 : decode cX0_reactionTo 45 = .ok (.goto (-35), 3) := by decide +kernel
theorem dd44_48 : decode cX0_reactionTo 48 = .ok (.iconst (-1), 1) := by decide +kernel
theorem dd44_49 : decode cX0_reactionTo 49 = .ok (.ireturn, 1) := by decide +kernel
def f44_10 (n : Nat) : Nat → Nat → Int32 → Int32 → Int32 → zσ → Option (Int32 × zσ)
  | 0, _, _, _, _, _ => none
  | j + 1, x0, x2, x3, x4, s =>
    if x4 < (700 : Int32) then
    if x3 = (-1 : Int32) then
    some ((-1 : Int32), s)
    else if zin? x3 700 = true then
    if (s.1 (x0 + 6) (nx x3)) = x2 then
    some (x3, s)
    else if zin? x3 700 = true then
    zlet ((s.1 (x0 + 5) (nx x3))) fun v1 =>
    f44_10 n j x0 x2 v1 (x4 + (1 : Int32)) s
    else none
    else none
    else some ((-1 : Int32), s)
set_option maxRecDepth 20000 in
theorem f44_10_ok {n d : Nat} (hd : 0 ≤ d) : ∀ (j : Nat) (x0 : Nat) (x2 : Int32) (x3 : Int32) (x4 : Int32) (s : zσ) (v : Int32) (s2 : zσ), zck 0 x0 = true → f44_10 n j x0 x2 x3 x4 s = some (v, s2) → ∀ {w : zσ} {fz : Bool} {L : Nat} {xs : Nat → Int32}, zGo (zX fz L xs) d q_44 (10, [(0, .ref x0), (2, .int x2), (3, .int x3), (4, .int x4)], [], zmk s w, 0, 0) (some (.int v), zmk s2 w, 0, 0) := by
  intro j
  induction j with
  | zero => intro x0 x2 x3 x4 s v s2 hx0 h; cases h
  | succ j ih =>
    intro x0 x2 x3 x4 s v s2 hx0 h w fz L xs
    rw [f44_10] at h
    refine zGo_s (pc' := 12) (st' := [.int x4]) dd44_10 rfl ?_
    refine zGo_s (pc' := 15) (st' := [.int (700 : Int32), .int x4]) dd44_12 rfl ?_
    rcases oite h with ⟨hc, h⟩ | ⟨hc, h⟩
    · refine zIF dd44_15 (kGeF hc) ?_
      refine zGo_s (pc' := 19) (st' := [.int x3]) dd44_18 rfl ?_
      refine zGo_s (pc' := 20) (st' := [.int (-1 : Int32), .int x3]) dd44_19 rfl ?_
      rcases oite h with ⟨hc, h⟩ | ⟨hc, h⟩
      · refine zIT dd44_20 rfl (kEqT hc) ?_
        refine zGo_s (pc' := 49) (st' := [.int (-1 : Int32)]) dd44_48 rfl ?_
        obtain ⟨rfl, rfl⟩ := oret h
        exact zGo_ret dd44_49 rfl rfl
      · refine zIF dd44_20 (kEqF hc) ?_
        refine zGo_s (pc' := 24) (st' := [.ref x0]) dd44_23 rfl ?_
        refine cGF (e := (x0 + 6)) dd44_24 rfl (ck0_s hx0).1 (ck0_s hx0).2 rfl (cf0_5 hx0).1 ?_
        refine zGo_s (pc' := 28) (st' := [.int x3, .ref (x0 + 6)]) dd44_27 rfl ?_
        obtain ⟨hi, h⟩ := ochk h
        refine cIA dd44_28 (cf0_5 hx0).2.1 (cf0_5 hx0).2.2 hi ?_
        refine zGo_s (pc' := 30) (st' := [.int x2, .int (s.1 (x0 + 6) (nx x3))]) dd44_29 rfl ?_
        rcases oite h with ⟨hc, h⟩ | ⟨hc, h⟩
        · refine zIF dd44_30 (kNeF hc) ?_
          refine zGo_s (pc' := 34) (st' := [.int x3]) dd44_33 rfl ?_
          obtain ⟨rfl, rfl⟩ := oret h
          exact zGo_ret dd44_34 rfl rfl
        · refine zIT dd44_30 rfl (kNeT hc) ?_
          refine zGo_s (pc' := 36) (st' := [.ref x0]) dd44_35 rfl ?_
          refine cGF (e := (x0 + 5)) dd44_36 rfl (ck0_s hx0).1 (ck0_s hx0).2 rfl (cf0_4 hx0).1 ?_
          refine zGo_s (pc' := 40) (st' := [.int x3, .ref (x0 + 5)]) dd44_39 rfl ?_
          obtain ⟨hi, h⟩ := ochk h
          refine cIA dd44_40 (cf0_4 hx0).2.1 (cf0_4 hx0).2.2 hi ?_
          obtain ⟨v1, e_v1, h⟩ := olet h
          refine zGo_is1 e_v1 dd44_41 (x' := (42, [(3, .int v1), (0, .ref x0), (2, .int x2), (4, .int x4)], [], _, _, _)) rfl ?_
          refine zGo_s (pc' := 45) (st' := []) (lv' := [(4, .int (x4 + (1 : Int32))), (3, .int v1), (0, .ref x0), (2, .int x2)]) dd44_42 rfl ?_
          refine zGo_s (pc' := 10) (st' := []) dd44_45 rfl ?_
          exact zGo_lv (lv := [(0, .ref x0), (2, .int x2), (3, .int v1), (4, .int (x4 + (1 : Int32)))]) ⟨by simp, by simp, by simp⟩ (ih _ _ _ _ _ _ _ hx0 h)
    · refine zIT dd44_15 rfl (kGeT hc) ?_
      refine zGo_s (pc' := 49) (st' := [.int (-1 : Int32)]) dd44_48 rfl ?_
      obtain ⟨rfl, rfl⟩ := oret h
      exact zGo_ret dd44_49 rfl rfl
def f44 (n : Nat) (x0 : Nat) (x1 : Int32) (x2 : Int32) (s : zσ) : Option (Int32 × zσ) :=
    if zin? x1 700 = true then
    zlet ((s.1 (x0 + 4) (nx x1))) fun v1 =>
    f44_10 n n x0 x2 v1 (0 : Int32) s
    else none
set_option maxRecDepth 20000 in
theorem f44_ok {n d : Nat} {x0 : Nat} {x1 : Int32} {x2 : Int32} {s : zσ} {v : Int32} {s2 : zσ} (hd : 0 ≤ d) (hx0 : zck 0 x0 = true) (h : f44 n x0 x1 x2 s = some (v, s2)) {w : zσ} {fz : Bool} {L : Nat} {xs : Nat → Int32} : zGo (zX fz L xs) d q_44 (0, [(0, .ref x0), (1, .int x1), (2, .int x2)], [], zmk s w, 0, 0) (some (.int v), zmk s2 w, 0, 0) := by
  unfold f44 at h
  refine zGo_s (pc' := 1) (st' := [.ref x0]) dd44_0 rfl ?_
  refine cGF (e := (x0 + 4)) dd44_1 rfl (ck0_s hx0).1 (ck0_s hx0).2 rfl (cf0_3 hx0).1 ?_
  refine zGo_s (pc' := 5) (st' := [.int x1, .ref (x0 + 4)]) dd44_4 rfl ?_
  obtain ⟨hi, h⟩ := ochk h
  refine cIA dd44_5 (cf0_3 hx0).2.1 (cf0_3 hx0).2.2 hi ?_
  obtain ⟨v1, e_v1, h⟩ := olet h
  refine zGo_is1 e_v1 dd44_6 (x' := (7, [(3, .int v1), (0, .ref x0), (1, .int x1), (2, .int x2)], [], _, _, _)) rfl ?_
  refine zGo_s (pc' := 8) (st' := [.int (0 : Int32)]) dd44_7 rfl ?_
  refine zGo_s (pc' := 10) (st' := []) (lv' := [(4, .int (0 : Int32)), (3, .int v1), (0, .ref x0), (1, .int x1), (2, .int x2)]) dd44_8 rfl ?_
  exact zGo_lv (lv := [(0, .ref x0), (2, .int x2), (3, .int v1), (4, .int (0 : Int32))]) ⟨by simp, by simp, by simp⟩ (f44_10_ok hd _ _ _ _ _ _ _ _ hx0 h)
/-! PH$Blocks.react(III)V -/
theorem dd45_0 : decode cX0_react 0 = .ok (.aload_n 0, 1) := by decide +kernel
theorem dd45_1 : decode cX0_react 1 = .ok (.getfield 27, 3) := by decide +kernel
theorem dd45_4 : decode cX0_react 4 = .ok (.iload_n 2, 1) := by decide +kernel
theorem dd45_5 : decode cX0_react 5 = .ok (.iload_n 3, 1) := by decide +kernel
theorem dd45_6 : decode cX0_react 6 = .ok (.iastore, 1) := by decide +kernel
theorem dd45_7 : decode cX0_react 7 = .ok (.aload_n 0, 1) := by decide +kernel
theorem dd45_8 : decode cX0_react 8 = .ok (.getfield 24, 3) := by decide +kernel
theorem dd45_11 : decode cX0_react 11 = .ok (.iload_n 2, 1) := by decide +kernel
theorem dd45_12 : decode cX0_react 12 = .ok (.aload_n 0, 1) := by decide +kernel
theorem dd45_13 : decode cX0_react 13 = .ok (.getfield 21, 3) := by decide +kernel
theorem dd45_16 : decode cX0_react 16 = .ok (.iload_n 1, 1) := by decide +kernel
theorem dd45_17 : decode cX0_react 17 = .ok (.iaload, 1) := by decide +kernel
theorem dd45_18 : decode cX0_react 18 = .ok (.iastore, 1) := by decide +kernel
theorem dd45_19 : decode cX0_react 19 = .ok (.aload_n 0, 1) := by decide +kernel
theorem dd45_20 : decode cX0_react 20 = .ok (.getfield 21, 3) := by decide +kernel
theorem dd45_23 : decode cX0_react 23 = .ok (.iload_n 1, 1) := by decide +kernel
theorem dd45_24 : decode cX0_react 24 = .ok (.iload_n 2, 1) := by decide +kernel
theorem dd45_25 : decode cX0_react 25 = .ok (.iastore, 1) := by decide +kernel
theorem dd45_26 : decode cX0_react 26 = .ok (.return_, 1) := by decide +kernel
def f45 (n : Nat) (x0 : Nat) (x1 : Int32) (x2 : Int32) (x3 : Int32) (s : zσ) : Option zσ :=
    if zin? x2 700 = true then
    zlet (sI s (x0 + 6) (nx x2) x3) fun u1 =>
    if zin? x1 700 = true then
    if zin? x2 700 = true then
    zlet (sI u1 (x0 + 5) (nx x2) (u1.1 (x0 + 4) (nx x1))) fun u2 =>
    if zin? x1 700 = true then
    zlet (sI u2 (x0 + 4) (nx x1) x2) fun u3 =>
    some u3
    else none
    else none
    else none
    else none
set_option maxRecDepth 20000 in
theorem f45_ok {n d : Nat} {x0 : Nat} {x1 : Int32} {x2 : Int32} {x3 : Int32} {s : zσ} {s2 : zσ} (hd : 0 ≤ d) (hx0 : zck 0 x0 = true) (h : f45 n x0 x1 x2 x3 s = some s2) {w : zσ} {fz : Bool} {L : Nat} {xs : Nat → Int32} : zGo (zX fz L xs) d q_45 (0, [(0, .ref x0), (1, .int x1), (2, .int x2), (3, .int x3)], [], zmk s w, 0, 0) (none, zmk s2 w, 0, 0) := by
  unfold f45 at h
  refine zGo_s (pc' := 1) (st' := [.ref x0]) dd45_0 rfl ?_
  refine cGF (e := (x0 + 6)) dd45_1 rfl (ck0_s hx0).1 (ck0_s hx0).2 rfl (cf0_5 hx0).1 ?_
  refine zGo_s (pc' := 5) (st' := [.int x2, .ref (x0 + 6)]) dd45_4 rfl ?_
  refine zGo_s (pc' := 6) (st' := [.int x3, .int x2, .ref (x0 + 6)]) dd45_5 rfl ?_
  obtain ⟨hi, h⟩ := ochk h
  obtain ⟨u1, e_u1, h⟩ := olet h
  refine cIS dd45_6 (cf0_5 hx0).2.1 (cf0_5 hx0).2.2 hi e_u1 ?_
  refine zGo_s (pc' := 8) (st' := [.ref x0]) dd45_7 rfl ?_
  refine cGF (e := (x0 + 5)) dd45_8 rfl (ck0_s hx0).1 (ck0_s hx0).2 rfl (cf0_4 hx0).1 ?_
  refine zGo_s (pc' := 12) (st' := [.int x2, .ref (x0 + 5)]) dd45_11 rfl ?_
  refine zGo_s (pc' := 13) (st' := [.ref x0, .int x2, .ref (x0 + 5)]) dd45_12 rfl ?_
  refine cGF (e := (x0 + 4)) dd45_13 rfl (ck0_s hx0).1 (ck0_s hx0).2 rfl (cf0_3 hx0).1 ?_
  refine zGo_s (pc' := 17) (st' := [.int x1, .ref (x0 + 4), .int x2, .ref (x0 + 5)]) dd45_16 rfl ?_
  obtain ⟨hi, h⟩ := ochk h
  refine cIA dd45_17 (cf0_3 hx0).2.1 (cf0_3 hx0).2.2 hi ?_
  obtain ⟨hi, h⟩ := ochk h
  obtain ⟨u2, e_u2, h⟩ := olet h
  refine cIS dd45_18 (cf0_4 hx0).2.1 (cf0_4 hx0).2.2 hi e_u2 ?_
  refine zGo_s (pc' := 20) (st' := [.ref x0]) dd45_19 rfl ?_
  refine cGF (e := (x0 + 4)) dd45_20 rfl (ck0_s hx0).1 (ck0_s hx0).2 rfl (cf0_3 hx0).1 ?_
  refine zGo_s (pc' := 24) (st' := [.int x1, .ref (x0 + 4)]) dd45_23 rfl ?_
  refine zGo_s (pc' := 25) (st' := [.int x2, .int x1, .ref (x0 + 4)]) dd45_24 rfl ?_
  obtain ⟨hi, h⟩ := ochk h
  obtain ⟨u3, e_u3, h⟩ := olet h
  refine cIS dd45_25 (cf0_3 hx0).2.1 (cf0_3 hx0).2.2 hi e_u3 ?_
  obtain rfl := ore0 h
  exact zGo_ret dd45_26 rfl rfl
/-! PH$Reader.reaction(I)V -/
theorem dd43_0 : decode cX4_reaction 0 = .ok (.aload_n 0, 1) := by decide +kernel
theorem dd43_1 : decode cX4_reaction 1 = .ok (.getfield 54, 3) := by decide +kernel
theorem dd43_4 : decode cX4_reaction 4 = .ok (.invokevirtual 104, 3) := by decide +kernel
theorem dd43_7 : decode cX4_reaction 7 = .ok (.aload_n 0, 1) := by decide +kernel
theorem dd43_8 : decode cX4_reaction 8 = .ok (.getfield 54, 3) := by decide +kernel
theorem dd43_11 : decode cX4_reaction 11 = .ok (.getfield 68, 3) := by decide +kernel
theorem dd43_14 : decode cX4_reaction 14 = .ok (.sipush 139, 3) := by decide +kernel
theorem dd43_17 : decode cX4_reaction 17 = .ok (.if_icmp .ne 7, 3) := by decide +kernel
theorem dd43_20 : decode cX4_reaction 20 = .ok (.iconst 1, 1) := by decide +kernel
theorem dd43_21 : decode cX4_reaction 21 = .ok (.goto 4, 3) := by decide +kernel
theorem dd43_24 : decode cX4_reaction 24 = .ok (.iconst 0, 1) := by decide +kernel
theorem dd43_25 : decode cX4_reaction 25 = .ok (.istore_n 2, 1) := by decide +kernel
theorem dd43_26 : decode cX4_reaction 26 = .ok (.iload_n 2, 1) := by decide +kernel
theorem dd43_27 : decode cX4_reaction 27 = .ok (.ifCond .ne 21, 3) := by decide +kernel
theorem dd43_30 : decode cX4_reaction 30 = .ok (.aload_n 0, 1) := by decide +kernel
theorem dd43_31 : decode cX4_reaction 31 = .ok (.getfield 54, 3) := by decide +kernel
theorem dd43_34 : decode cX4_reaction 34 = .ok (.getfield 68, 3) := by decide +kernel
theorem dd43_37 : decode cX4_reaction 37 = .ok (.iconst 2, 1) := by decide +kernel
theorem dd43_38 : decode cX4_reaction 38 = .ok (.if_icmp .eq 10, 3) := by decide +kernel
theorem dd43_41 : decode cX4_reaction 41 = .ok (.aload_n 0, 1) := by decide +kernel
theorem dd43_42 : decode cX4_reaction 42 = .ok (.iconst 2, 1) := by decide +kernel
theorem dd43_43 : decode cX4_reaction 43 = .ok (.invokevirtual 73, 3) := by decide +kernel
theorem dd43_46 : decode cX4_reaction 46 = .ok (.pop, 1) := by decide +kernel
theorem dd43_47 : decode cX4_reaction 47 = .ok (.return_, 1) := by decide +kernel
theorem dd43_48 : decode cX4_reaction 48 = .ok (.iload_n 2, 1) := by decide +kernel
theorem dd43_49 : decode cX4_reaction 49 = .ok (.ifCond .eq 7, 3) := by decide +kernel
theorem dd43_52 : decode cX4_reaction 52 = .ok (.iconst 0, 1) := by decide +kernel
theorem dd43_53 : decode cX4_reaction 53 = .ok (.goto 10, 3) := by decide +kernel
theorem dd43_56 : decode cX4_reaction 56 = .ok (.aload_n 0, 1) := by decide +kernel
theorem dd43_57 : decode cX4_reaction 57 = .ok (.getfield 54, 3) := by decide +kernel
theorem dd43_60 : decode cX4_reaction 60 = .ok (.getfield 186, 3) := by decide +kernel
theorem dd43_63 : decode cX4_reaction 63 = .ok (.istore_n 3, 1) := by decide +kernel
theorem dd43_64 : decode cX4_reaction 64 = .ok (.iload_n 2, 1) := by decide +kernel
theorem dd43_65 : decode cX4_reaction 65 = .ok (.ifCond .ne 14, 3) := by decide +kernel
theorem dd43_68 : decode cX4_reaction 68 = .ok (.iload_n 3, 1) := by decide +kernel
theorem dd43_69 : decode cX4_reaction 69 = .ok (.iconst 1, 1) := by decide +kernel
theorem dd43_70 : decode cX4_reaction 70 = .ok (.if_icmp .lt 22, 3) := by decide +kernel
theorem dd43_73 : decode cX4_reaction 73 = .ok (.iload_n 3, 1) := by decide +kernel
theorem dd43_74 : decode cX4_reaction 74 = .ok (.bipush 19, 2) := by decide +kernel
theorem dd43_76 : decode cX4_reaction 76 = .ok (.if_icmp .gt 16, 3) := by decide +kernel
theorem dd43_79 : decode cX4_reaction 79 = .ok (.aload_n 0, 1) := by decide +kernel
theorem dd43_80 : decode cX4_reaction 80 = .ok (.getfield 31, 3) := by decide +kernel
theorem dd43_83 : decode cX4_reaction 83 = .ok (.iload_n 1, 1) := by decide +kernel
theorem dd43_84 : decode cX4_reaction 84 = .ok (.iload_n 3, 1) := by decide +kernel
theorem dd43_85 : decode cX4_reaction 85 = .ok (.invokevirtual 189, 3) := by decide +kernel
theorem dd43_88 : decode cX4_reaction 88 = .ok (.iconst (-1), 1) := by decide +kernel
theorem dd43_89 : decode cX4_reaction 89 = .ok (.if_icmp .eq 10, 3) := by decide +kernel
theorem dd43_92 : decode cX4_reaction 92 = .ok (.aload_n 0, 1) := by decide +kernel
theorem dd43_93 : decode cX4_reaction 93 = .ok (.iconst 5, 1) := by decide +kernel
theorem dd43_94 : decode cX4_reaction 94 = .ok (.invokevirtual 73, 3) := by decide +kernel
theorem dd43_97 : decode cX4_reaction 97 = .ok (.pop, 1) := by decide +kernel
theorem dd43_98 : decode cX4_reaction 98 = .ok (.return_, 1) := by decide +kernel
theorem dd43_99 : decode cX4_reaction 99 = .ok (.aload_n 0, 1) := by decide +kernel
theorem dd43_100 : decode cX4_reaction 100 = .ok (.getfield 54, 3) := by decide +kernel
theorem dd43_103 : decode cX4_reaction 103 = .ok (.invokevirtual 104, 3) := by decide +kernel
theorem dd43_106 : decode cX4_reaction 106 = .ok (.aload_n 0, 1) := by decide +kernel
theorem dd43_107 : decode cX4_reaction 107 = .ok (.iconst 4, 1) := by decide +kernel
theorem dd43_108 : decode cX4_reaction 108 = .ok (.iload_n 1, 1) := by decide +kernel
theorem dd43_109 : decode cX4_reaction 109 = .ok (.invokevirtual 128, 3) := by decide +kernel
theorem dd43_112 : decode cX4_reaction 112 = .ok (.istore 4, 2) := by decide +kernel
theorem dd43_114 : decode cX4_reaction 114 = .ok (.iload 4, 2) := by decide +kernel
theorem dd43_116 : decode cX4_reaction 116 = .ok (.iconst (-1), 1) := by decide +kernel
theorem dd43_117 : decode cX4_reaction 117 = .ok (.if_icmp .eq 14, 3) := by decide +kernel
theorem dd43_120 : decode cX4_reaction 120 = .ok (.aload_n 0, 1) := by decide +kernel
theorem dd43_121 : decode cX4_reaction 121 = .ok (.getfield 31, 3) := by decide +kernel
theorem dd43_124 : decode cX4_reaction 124 = .ok (.iload_n 1, 1) := by decide +kernel
theorem dd43_125 : decode cX4_reaction 125 = .ok (.iload 4, 2) := by decide +kernel
theorem dd43_127 : decode cX4_reaction 127 = .ok (.iload_n 3, 1) := by decide +kernel
theorem dd43_128 : decode cX4_reaction 128 = .ok (.invokevirtual 192, 3) := by decide +kernel
theorem dd43_131 : decode cX4_reaction 131 = .ok (.return_, 1) := by decide +kernel
def f43_92 (n : Nat) (g : Int32 → Int32 → zσ → Option (Int32 × zσ)) (s : zσ) : Option zσ :=
    yb1 (f32 n (5 : Int32) s) fun v2 u1 =>
    some u1
set_option maxRecDepth 20000 in
theorem f43_92_ok {n d : Nat} {Df : Nat} {g : Int32 → Int32 → zσ → Option (Int32 × zσ)} {s : zσ} {s2 : zσ} (hd : Df + 1 ≤ d ∧ 138 ≤ Df) (hg : ∀ (x1 : Int32) (x2 : Int32) (s : zσ) (v : Int32) (s2 : zσ), g x1 x2 s = some (v, s2) → ∀ {d : Nat}, Df ≤ d → ∀ {w : zσ} {fz : Bool} {L : Nat} {xs : Nat → Int32}, zGo (zX fz L xs) d q_40 (0, [(0, .ref 1004), (1, .int x1), (2, .int x2)], [], zmk s w, 0, 0) (some (.int v), zmk s2 w, 0, 0)) (h : f43_92 n g s = some s2) {w : zσ} {fz : Bool} {L : Nat} {xs : Nat → Int32} : zGo (zX fz L xs) d q_43 (92, [(0, .ref 1004)], [], zmk s w, 0, 0) (none, zmk s2 w, 0, 0) := by
  obtain ⟨d, rfl⟩ : ∃ d0, d = d0 + 1 := ⟨d - 1, by omega⟩
  unfold f43_92 at h
  refine zGo_s (pc' := 93) (st' := [.ref 1004]) dd43_92 rfl ?_
  refine zGo_s (pc' := 94) (st' := [.int (5 : Int32), .ref 1004]) dd43_93 rfl ?_
  obtain ⟨v2, u1, hq, h⟩ := obnd h
  refine zCV1 (As := [.int (5 : Int32)]) (rest := []) (b := 1004) (q' := q_32) dd43_94 rfl rfl (rcv_c rfl rfl (by decide)) rfl rfl rfl (f32_ok (d := d) (by omega)  hq) ?_
  refine zGo_s (pc' := 98) (st' := []) dd43_97 rfl ?_
  obtain rfl := ore0 h
  exact zGo_ret dd43_98 rfl rfl
def f43_79 (n : Nat) (g : Int32 → Int32 → zσ → Option (Int32 × zσ)) (x1 : Int32) (x3 : Int32) (s : zσ) : Option zσ :=
    zrd 0 (s.2.2 1004 6) fun a1 =>
    yb1 (f44 n a1 x1 x3 s) fun v3 u2 =>
    if v3 = (-1 : Int32) then
    yb0 (f26 n u2) fun u4 =>
    yb1 (g (4 : Int32) x1 u4) fun v6 u5 =>
    if v6 = (-1 : Int32) then
    some u5
    else zrd 0 (u5.2.2 1004 6) fun a7 =>
    yb0 (f45 n a7 x1 v6 x3 u5) fun u8 =>
    some u8
    else f43_92 n g u2
set_option maxRecDepth 20000 in
theorem f43_79_ok {n d : Nat} {Df : Nat} {g : Int32 → Int32 → zσ → Option (Int32 × zσ)} {x1 : Int32} {x3 : Int32} {s : zσ} {s2 : zσ} (hd : Df + 1 ≤ d ∧ 138 ≤ Df) (hg : ∀ (x1 : Int32) (x2 : Int32) (s : zσ) (v : Int32) (s2 : zσ), g x1 x2 s = some (v, s2) → ∀ {d : Nat}, Df ≤ d → ∀ {w : zσ} {fz : Bool} {L : Nat} {xs : Nat → Int32}, zGo (zX fz L xs) d q_40 (0, [(0, .ref 1004), (1, .int x1), (2, .int x2)], [], zmk s w, 0, 0) (some (.int v), zmk s2 w, 0, 0)) (h : f43_79 n g x1 x3 s = some s2) {w : zσ} {fz : Bool} {L : Nat} {xs : Nat → Int32} : zGo (zX fz L xs) d q_43 (79, [(0, .ref 1004), (1, .int x1), (3, .int x3)], [], zmk s w, 0, 0) (none, zmk s2 w, 0, 0) := by
  obtain ⟨d, rfl⟩ : ∃ d0, d = d0 + 1 := ⟨d - 1, by omega⟩
  unfold f43_79 at h
  refine zGo_s (pc' := 80) (st' := [.ref 1004]) dd43_79 rfl ?_
  obtain ⟨a1, e_a1, c_a1, h⟩ := ordd h
  refine cGR dd43_80 rfl rfl rfl rfl e_a1 ?_
  refine zGo_s (pc' := 84) (st' := [.int x1, .ref a1]) dd43_83 rfl ?_
  refine zGo_s (pc' := 85) (st' := [.int x3, .int x1, .ref a1]) dd43_84 rfl ?_
  obtain ⟨v3, u2, hq, h⟩ := obnd h
  refine zCV1 (As := [.int x1, .int x3]) (rest := []) (b := a1) (q' := q_44) dd43_85 rfl rfl (rcv_c (ck0_s c_a1).1 (ck0_s c_a1).2 (by decide)) rfl rfl rfl (f44_ok (d := d) (by omega) c_a1 hq) ?_
  refine zGo_s (pc' := 89) (st' := [.int (-1 : Int32), .int v3]) dd43_88 rfl ?_
  rcases oite h with ⟨hc, h⟩ | ⟨hc, h⟩
  · refine zIT dd43_89 rfl (kEqT hc) ?_
    refine zGo_s (pc' := 100) (st' := [.ref 1004]) dd43_99 rfl ?_
    refine cGF (e := 1001) dd43_100 rfl rfl rfl rfl rfl ?_
    obtain ⟨u4, hq, h⟩ := obn0 h
    refine zCV0 (As := []) (rest := []) (b := 1001) (q' := q_26) dd43_103 rfl rfl (rcv_c rfl rfl (by decide)) rfl rfl rfl (f26_ok (d := d) (by omega)  hq) ?_
    refine zGo_s (pc' := 107) (st' := [.ref 1004]) dd43_106 rfl ?_
    refine zGo_s (pc' := 108) (st' := [.int (4 : Int32), .ref 1004]) dd43_107 rfl ?_
    refine zGo_s (pc' := 109) (st' := [.int x1, .int (4 : Int32), .ref 1004]) dd43_108 rfl ?_
    obtain ⟨v6, u5, hq, h⟩ := obnd h
    refine zCV1 (As := [.int (4 : Int32), .int x1]) (rest := []) (b := 1004) (q' := q_40) dd43_109 rfl rfl (rcv_c rfl rfl (by decide)) rfl rfl rfl (hg _ _ _ _ _  hq (by omega)) ?_
    refine zGo_s (pc' := 114) (st' := []) (lv' := [(4, .int v6), (0, .ref 1004), (1, .int x1), (3, .int x3)]) dd43_112 rfl ?_
    refine zGo_s (pc' := 116) (st' := [.int v6]) dd43_114 rfl ?_
    refine zGo_s (pc' := 117) (st' := [.int (-1 : Int32), .int v6]) dd43_116 rfl ?_
    rcases oite h with ⟨hc, h⟩ | ⟨hc, h⟩
    · refine zIT dd43_117 rfl (kEqT hc) ?_
      obtain rfl := ore0 h
      exact zGo_ret dd43_131 rfl rfl
    · refine zIF dd43_117 (kEqF hc) ?_
      refine zGo_s (pc' := 121) (st' := [.ref 1004]) dd43_120 rfl ?_
      obtain ⟨a7, e_a7, c_a7, h⟩ := ordd h
      refine cGR dd43_121 rfl rfl rfl rfl e_a7 ?_
      refine zGo_s (pc' := 125) (st' := [.int x1, .ref a7]) dd43_124 rfl ?_
      refine zGo_s (pc' := 127) (st' := [.int v6, .int x1, .ref a7]) dd43_125 rfl ?_
      refine zGo_s (pc' := 128) (st' := [.int x3, .int v6, .int x1, .ref a7]) dd43_127 rfl ?_
      obtain ⟨u8, hq, h⟩ := obn0 h
      refine zCV0 (As := [.int x1, .int v6, .int x3]) (rest := []) (b := a7) (q' := q_45) dd43_128 rfl rfl (rcv_c (ck0_s c_a7).1 (ck0_s c_a7).2 (by decide)) rfl rfl rfl (f45_ok (d := d) (by omega) c_a7 hq) ?_
      obtain rfl := ore0 h
      exact zGo_ret dd43_131 rfl rfl
  · refine zIF dd43_89 (kEqF hc) ?_
    exact zGo_lv (lv := [(0, .ref 1004)]) ⟨by simp, by simp, by simp⟩ (f43_92_ok hd hg h)
def f43_63 (n : Nat) (g : Int32 → Int32 → zσ → Option (Int32 × zσ)) (x1 : Int32) (x2 : Int32) (y0 : Int32) (s : zσ) : Option zσ :=
    if x2 = (0 : Int32) then
    if y0 < (1 : Int32) then
    f43_92 n g s
    else if (19 : Int32) < y0 then
    f43_92 n g s
    else f43_79 n g x1 y0 s
    else f43_79 n g x1 y0 s
set_option maxRecDepth 20000 in
theorem f43_63_ok {n d : Nat} {Df : Nat} {g : Int32 → Int32 → zσ → Option (Int32 × zσ)} {x1 : Int32} {x2 : Int32} {y0 : Int32} {s : zσ} {s2 : zσ} (hd : Df + 1 ≤ d ∧ 138 ≤ Df) (hg : ∀ (x1 : Int32) (x2 : Int32) (s : zσ) (v : Int32) (s2 : zσ), g x1 x2 s = some (v, s2) → ∀ {d : Nat}, Df ≤ d → ∀ {w : zσ} {fz : Bool} {L : Nat} {xs : Nat → Int32}, zGo (zX fz L xs) d q_40 (0, [(0, .ref 1004), (1, .int x1), (2, .int x2)], [], zmk s w, 0, 0) (some (.int v), zmk s2 w, 0, 0)) (h : f43_63 n g x1 x2 y0 s = some s2) {w : zσ} {fz : Bool} {L : Nat} {xs : Nat → Int32} : zGo (zX fz L xs) d q_43 (63, [(0, .ref 1004), (1, .int x1), (2, .int x2)], [.int y0], zmk s w, 0, 0) (none, zmk s2 w, 0, 0) := by
  obtain ⟨d, rfl⟩ : ∃ d0, d = d0 + 1 := ⟨d - 1, by omega⟩
  unfold f43_63 at h
  refine zGo_s (pc' := 64) (st' := []) (lv' := [(3, .int y0), (0, .ref 1004), (1, .int x1), (2, .int x2)]) dd43_63 rfl ?_
  refine zGo_s (pc' := 65) (st' := [.int x2]) dd43_64 rfl ?_
  rcases oite h with ⟨hc, h⟩ | ⟨hc, h⟩
  · refine zUF dd43_65 (kNeF hc) ?_
    refine zGo_s (pc' := 69) (st' := [.int y0]) dd43_68 rfl ?_
    refine zGo_s (pc' := 70) (st' := [.int (1 : Int32), .int y0]) dd43_69 rfl ?_
    rcases oite h with ⟨hc, h⟩ | ⟨hc, h⟩
    · refine zIT dd43_70 rfl (kLtT hc) ?_
      exact zGo_lv (lv := [(0, .ref 1004)]) ⟨by simp, by simp, by simp⟩ (f43_92_ok hd hg h)
    · refine zIF dd43_70 (kLtF hc) ?_
      refine zGo_s (pc' := 74) (st' := [.int y0]) dd43_73 rfl ?_
      refine zGo_s (pc' := 76) (st' := [.int (19 : Int32), .int y0]) dd43_74 rfl ?_
      rcases oite h with ⟨hc, h⟩ | ⟨hc, h⟩
      · refine zIT dd43_76 rfl (kGtT hc) ?_
        exact zGo_lv (lv := [(0, .ref 1004)]) ⟨by simp, by simp, by simp⟩ (f43_92_ok hd hg h)
      · refine zIF dd43_76 (kGtF hc) ?_
        exact zGo_lv (lv := [(0, .ref 1004), (1, .int x1), (3, .int y0)]) ⟨by simp, by simp, by simp⟩ (f43_79_ok hd hg h)
  · refine zUT dd43_65 rfl (kNeT hc) ?_
    exact zGo_lv (lv := [(0, .ref 1004), (1, .int x1), (3, .int y0)]) ⟨by simp, by simp, by simp⟩ (f43_79_ok hd hg h)
def f43_48 (n : Nat) (g : Int32 → Int32 → zσ → Option (Int32 × zσ)) (x1 : Int32) (x2 : Int32) (s : zσ) : Option zσ :=
    if x2 = (0 : Int32) then
    f43_63 n g x1 x2 (s.1 1001 6) s
    else f43_63 n g x1 x2 (0 : Int32) s
set_option maxRecDepth 20000 in
theorem f43_48_ok {n d : Nat} {Df : Nat} {g : Int32 → Int32 → zσ → Option (Int32 × zσ)} {x1 : Int32} {x2 : Int32} {s : zσ} {s2 : zσ} (hd : Df + 1 ≤ d ∧ 138 ≤ Df) (hg : ∀ (x1 : Int32) (x2 : Int32) (s : zσ) (v : Int32) (s2 : zσ), g x1 x2 s = some (v, s2) → ∀ {d : Nat}, Df ≤ d → ∀ {w : zσ} {fz : Bool} {L : Nat} {xs : Nat → Int32}, zGo (zX fz L xs) d q_40 (0, [(0, .ref 1004), (1, .int x1), (2, .int x2)], [], zmk s w, 0, 0) (some (.int v), zmk s2 w, 0, 0)) (h : f43_48 n g x1 x2 s = some s2) {w : zσ} {fz : Bool} {L : Nat} {xs : Nat → Int32} : zGo (zX fz L xs) d q_43 (48, [(0, .ref 1004), (1, .int x1), (2, .int x2)], [], zmk s w, 0, 0) (none, zmk s2 w, 0, 0) := by
  obtain ⟨d, rfl⟩ : ∃ d0, d = d0 + 1 := ⟨d - 1, by omega⟩
  unfold f43_48 at h
  refine zGo_s (pc' := 49) (st' := [.int x2]) dd43_48 rfl ?_
  rcases oite h with ⟨hc, h⟩ | ⟨hc, h⟩
  · refine zUT dd43_49 rfl (kEqT hc) ?_
    refine zGo_s (pc' := 57) (st' := [.ref 1004]) dd43_56 rfl ?_
    refine cGF (e := 1001) dd43_57 rfl rfl rfl rfl rfl ?_
    refine cGI dd43_60 rfl rfl rfl rfl ?_
    exact f43_63_ok hd hg h
  · refine zUF dd43_49 (kEqF hc) ?_
    refine zGo_s (pc' := 53) (st' := [.int (0 : Int32)]) dd43_52 rfl ?_
    refine zGo_s (pc' := 63) (st' := [.int (0 : Int32)]) dd43_53 rfl ?_
    exact f43_63_ok hd hg h
def f43_25 (n : Nat) (g : Int32 → Int32 → zσ → Option (Int32 × zσ)) (x1 : Int32) (y0 : Int32) (s : zσ) : Option zσ :=
    if y0 = (0 : Int32) then
    if (s.1 1001 4) = (2 : Int32) then
    f43_48 n g x1 y0 s
    else yb1 (f32 n (2 : Int32) s) fun v2 u1 =>
    some u1
    else f43_48 n g x1 y0 s
set_option maxRecDepth 20000 in
theorem f43_25_ok {n d : Nat} {Df : Nat} {g : Int32 → Int32 → zσ → Option (Int32 × zσ)} {x1 : Int32} {y0 : Int32} {s : zσ} {s2 : zσ} (hd : Df + 1 ≤ d ∧ 138 ≤ Df) (hg : ∀ (x1 : Int32) (x2 : Int32) (s : zσ) (v : Int32) (s2 : zσ), g x1 x2 s = some (v, s2) → ∀ {d : Nat}, Df ≤ d → ∀ {w : zσ} {fz : Bool} {L : Nat} {xs : Nat → Int32}, zGo (zX fz L xs) d q_40 (0, [(0, .ref 1004), (1, .int x1), (2, .int x2)], [], zmk s w, 0, 0) (some (.int v), zmk s2 w, 0, 0)) (h : f43_25 n g x1 y0 s = some s2) {w : zσ} {fz : Bool} {L : Nat} {xs : Nat → Int32} : zGo (zX fz L xs) d q_43 (25, [(0, .ref 1004), (1, .int x1)], [.int y0], zmk s w, 0, 0) (none, zmk s2 w, 0, 0) := by
  obtain ⟨d, rfl⟩ : ∃ d0, d = d0 + 1 := ⟨d - 1, by omega⟩
  unfold f43_25 at h
  refine zGo_s (pc' := 26) (st' := []) (lv' := [(2, .int y0), (0, .ref 1004), (1, .int x1)]) dd43_25 rfl ?_
  refine zGo_s (pc' := 27) (st' := [.int y0]) dd43_26 rfl ?_
  rcases oite h with ⟨hc, h⟩ | ⟨hc, h⟩
  · refine zUF dd43_27 (kNeF hc) ?_
    refine zGo_s (pc' := 31) (st' := [.ref 1004]) dd43_30 rfl ?_
    refine cGF (e := 1001) dd43_31 rfl rfl rfl rfl rfl ?_
    refine cGI dd43_34 rfl rfl rfl rfl ?_
    refine zGo_s (pc' := 38) (st' := [.int (2 : Int32), .int (s.1 1001 4)]) dd43_37 rfl ?_
    rcases oite h with ⟨hc, h⟩ | ⟨hc, h⟩
    · refine zIT dd43_38 rfl (kEqT hc) ?_
      exact zGo_lv (lv := [(0, .ref 1004), (1, .int x1), (2, .int y0)]) ⟨by simp, by simp, by simp⟩ (f43_48_ok hd hg h)
    · refine zIF dd43_38 (kEqF hc) ?_
      refine zGo_s (pc' := 42) (st' := [.ref 1004]) dd43_41 rfl ?_
      refine zGo_s (pc' := 43) (st' := [.int (2 : Int32), .ref 1004]) dd43_42 rfl ?_
      obtain ⟨v2, u1, hq, h⟩ := obnd h
      refine zCV1 (As := [.int (2 : Int32)]) (rest := []) (b := 1004) (q' := q_32) dd43_43 rfl rfl (rcv_c rfl rfl (by decide)) rfl rfl rfl (f32_ok (d := d) (by omega)  hq) ?_
      refine zGo_s (pc' := 47) (st' := []) dd43_46 rfl ?_
      obtain rfl := ore0 h
      exact zGo_ret dd43_47 rfl rfl
  · refine zUT dd43_27 rfl (kNeT hc) ?_
    exact zGo_lv (lv := [(0, .ref 1004), (1, .int x1), (2, .int y0)]) ⟨by simp, by simp, by simp⟩ (f43_48_ok hd hg h)
def f43 (n : Nat) (g : Int32 → Int32 → zσ → Option (Int32 × zσ)) (x1 : Int32) (s : zσ) : Option zσ :=
    yb0 (f26 n s) fun u1 =>
    if (u1.1 1001 4) = (139 : Int32) then
    f43_25 n g x1 (1 : Int32) u1
    else f43_25 n g x1 (0 : Int32) u1
set_option maxRecDepth 20000 in
theorem f43_ok {n d : Nat} {Df : Nat} {g : Int32 → Int32 → zσ → Option (Int32 × zσ)} {x1 : Int32} {s : zσ} {s2 : zσ} (hd : Df + 1 ≤ d ∧ 138 ≤ Df) (hg : ∀ (x1 : Int32) (x2 : Int32) (s : zσ) (v : Int32) (s2 : zσ), g x1 x2 s = some (v, s2) → ∀ {d : Nat}, Df ≤ d → ∀ {w : zσ} {fz : Bool} {L : Nat} {xs : Nat → Int32}, zGo (zX fz L xs) d q_40 (0, [(0, .ref 1004), (1, .int x1), (2, .int x2)], [], zmk s w, 0, 0) (some (.int v), zmk s2 w, 0, 0)) (h : f43 n g x1 s = some s2) {w : zσ} {fz : Bool} {L : Nat} {xs : Nat → Int32} : zGo (zX fz L xs) d q_43 (0, [(0, .ref 1004), (1, .int x1)], [], zmk s w, 0, 0) (none, zmk s2 w, 0, 0) := by
  obtain ⟨d, rfl⟩ : ∃ d0, d = d0 + 1 := ⟨d - 1, by omega⟩
  unfold f43 at h
  refine zGo_s (pc' := 1) (st' := [.ref 1004]) dd43_0 rfl ?_
  refine cGF (e := 1001) dd43_1 rfl rfl rfl rfl rfl ?_
  obtain ⟨u1, hq, h⟩ := obn0 h
  refine zCV0 (As := []) (rest := []) (b := 1001) (q' := q_26) dd43_4 rfl rfl (rcv_c rfl rfl (by decide)) rfl rfl rfl (f26_ok (d := d) (by omega)  hq) ?_
  refine zGo_s (pc' := 8) (st' := [.ref 1004]) dd43_7 rfl ?_
  refine cGF (e := 1001) dd43_8 rfl rfl rfl rfl rfl ?_
  refine cGI dd43_11 rfl rfl rfl rfl ?_
  refine zGo_s (pc' := 17) (st' := [.int (139 : Int32), .int (u1.1 1001 4)]) dd43_14 rfl ?_
  rcases oite h with ⟨hc, h⟩ | ⟨hc, h⟩
  · refine zIF dd43_17 (kNeF hc) ?_
    refine zGo_s (pc' := 21) (st' := [.int (1 : Int32)]) dd43_20 rfl ?_
    refine zGo_s (pc' := 25) (st' := [.int (1 : Int32)]) dd43_21 rfl ?_
    exact f43_25_ok hd hg h
  · refine zIT dd43_17 rfl (kNeT hc) ?_
    refine zGo_s (pc' := 25) (st' := [.int (0 : Int32)]) dd43_24 rfl ?_
    exact f43_25_ok hd hg h
/-! PH$Statements.add(II)I -/
theorem dd47_0 : decode cX6_add 0 = .ok (.aload_n 0, 1) := by decide +kernel
theorem dd47_1 : decode cX6_add 1 = .ok (.getfield 39, 3) := by decide +kernel
theorem dd47_4 : decode cX6_add 4 = .ok (.sipush 200, 3) := by decide +kernel
theorem dd47_7 : decode cX6_add 7 = .ok (.if_icmp .lt 5, 3) := by decide +kernel
theorem dd47_10 : decode cX6_add 10 = .ok (.iconst (-1), 1) := by decide +kernel
theorem dd47_11 : decode cX6_add 11 = .ok (.ireturn, 1) := by decide +kernel
theorem dd47_12 : decode cX6_add 12 = .ok (.aload_n 0, 1) := by decide +kernel
theorem dd47_13 : decode cX6_add 13 = .ok (.dup, 1) := by decide +kernel
theorem dd47_14 : decode cX6_add 14 = .ok (.getfield 39, 3) := by decide +kernel
theorem dd47_17 : decode cX6_add 17 = .ok (.dup_x1, 1) := by decide +kernel
theorem dd47_18 : decode cX6_add 18 = .ok (.iconst 1, 1) := by decide +kernel
theorem dd47_19 : decode cX6_add 19 = .ok (.iadd, 1) := by decide +kernel
theorem dd47_20 : decode cX6_add 20 = .ok (.putfield 39, 3) := by decide +kernel
theorem dd47_23 : decode cX6_add 23 = .ok (.istore_n 3, 1) := by decide +kernel
theorem dd47_24 : decode cX6_add 24 = .ok (.aload_n 0, 1) := by decide +kernel
theorem dd47_25 : decode cX6_add 25 = .ok (.getfield 9, 3) := by decide +kernel
theorem dd47_28 : decode cX6_add 28 = .ok (.iload_n 3, 1) := by decide +kernel
theorem dd47_29 : decode cX6_add 29 = .ok (.iload_n 1, 1) := by decide +kernel
theorem dd47_30 : decode cX6_add 30 = .ok (.iastore, 1) := by decide +kernel
theorem dd47_31 : decode cX6_add 31 = .ok (.aload_n 0, 1) := by decide +kernel
theorem dd47_32 : decode cX6_add 32 = .ok (.getfield 15, 3) := by decide +kernel
theorem dd47_35 : decode cX6_add 35 = .ok (.iload_n 3, 1) := by decide +kernel
theorem dd47_36 : decode cX6_add 36 = .ok (.iconst (-1), 1) := by decide +kernel
theorem dd47_37 : decode cX6_add 37 = .ok (.iastore, 1) := by decide +kernel
theorem dd47_38 : decode cX6_add 38 = .ok (.aload_n 0, 1) := by decide +kernel
theorem dd47_39 : decode cX6_add 39 = .ok (.getfield 18, 3) := by decide +kernel
theorem dd47_42 : decode cX6_add 42 = .ok (.iload_n 3, 1) := by decide +kernel
theorem dd47_43 : decode cX6_add 43 = .ok (.iconst (-1), 1) := by decide +kernel
theorem dd47_44 : decode cX6_add 44 = .ok (.iastore, 1) := by decide +kernel
theorem dd47_45 : decode cX6_add 45 = .ok (.aload_n 0, 1) := by decide +kernel
theorem dd47_46 : decode cX6_add 46 = .ok (.getfield 21, 3) := by decide +kernel
theorem dd47_49 : decode cX6_add 49 = .ok (.iload_n 3, 1) := by decide +kernel
theorem dd47_50 : decode cX6_add 50 = .ok (.aload_n 0, 1) := by decide +kernel
theorem dd47_51 : decode cX6_add 51 = .ok (.getfield 46, 3) := by decide +kernel
theorem dd47_54 : decode cX6_add 54 = .ok (.iastore, 1) := by decide +kernel
theorem dd47_55 : decode cX6_add 55 = .ok (.aload_n 0, 1) := by decide +kernel
theorem dd47_56 : decode cX6_add 56 = .ok (.getfield 24, 3) := by decide +kernel
theorem dd47_59 : decode cX6_add 59 = .ok (.iload_n 3, 1) := by decide +kernel
theorem dd47_60 : decode cX6_add 60 = .ok (.aload_n 0, 1) := by decide +kernel
theorem dd47_61 : decode cX6_add 61 = .ok (.getfield 46, 3) := by decide +kernel
theorem dd47_64 : decode cX6_add 64 = .ok (.iastore, 1) := by decide +kernel
theorem dd47_65 : decode cX6_add 65 = .ok (.aload_n 0, 1) := by decide +kernel
theorem dd47_66 : decode cX6_add 66 = .ok (.getfield 27, 3) := by decide +kernel
theorem dd47_69 : decode cX6_add 69 = .ok (.iload_n 3, 1) := by decide +kernel
theorem dd47_70 : decode cX6_add 70 = .ok (.iconst (-1), 1) := by decide +kernel
theorem dd47_71 : decode cX6_add 71 = .ok (.iastore, 1) := by decide +kernel
theorem dd47_72 : decode cX6_add 72 = .ok (.aload_n 0, 1) := by decide +kernel
theorem dd47_73 : decode cX6_add 73 = .ok (.getfield 30, 3) := by decide +kernel
theorem dd47_76 : decode cX6_add 76 = .ok (.iload_n 3, 1) := by decide +kernel
theorem dd47_77 : decode cX6_add 77 = .ok (.iload_n 2, 1) := by decide +kernel
theorem dd47_78 : decode cX6_add 78 = .ok (.iastore, 1) := by decide +kernel
theorem dd47_79 : decode cX6_add 79 = .ok (.iload_n 3, 1) := by decide +kernel
theorem dd47_80 : decode cX6_add 80 = .ok (.ireturn, 1) := by decide +kernel
def f47 (n : Nat) (x0 : Nat) (x1 : Int32) (x2 : Int32) (s : zσ) : Option (Int32 × zσ) :=
    if (s.1 x0 9) < (200 : Int32) then
    zlet (sI s x0 9 ((s.1 x0 9) + (1 : Int32))) fun u1 =>
    zlet ((s.1 x0 9)) fun v2 =>
    if zin? v2 200 = true then
    zlet (sI u1 (x0 + 1) (nx v2) x1) fun u3 =>
    if zin? v2 200 = true then
    zlet (sI u3 (x0 + 2) (nx v2) (-1 : Int32)) fun u4 =>
    if zin? v2 200 = true then
    zlet (sI u4 (x0 + 3) (nx v2) (-1 : Int32)) fun u5 =>
    if zin? v2 200 = true then
    zlet (sI u5 (x0 + 4) (nx v2) (u5.1 x0 11)) fun u6 =>
    if zin? v2 200 = true then
    zlet (sI u6 (x0 + 5) (nx v2) (u6.1 x0 11)) fun u7 =>
    if zin? v2 200 = true then
    zlet (sI u7 (x0 + 6) (nx v2) (-1 : Int32)) fun u8 =>
    if zin? v2 200 = true then
    zlet (sI u8 (x0 + 7) (nx v2) x2) fun u9 =>
    some (v2, u9)
    else none
    else none
    else none
    else none
    else none
    else none
    else none
    else some ((-1 : Int32), s)
set_option maxRecDepth 20000 in
theorem f47_ok {n d : Nat} {x0 : Nat} {x1 : Int32} {x2 : Int32} {s : zσ} {v : Int32} {s2 : zσ} (hd : 0 ≤ d) (hx0 : zck 6 x0 = true) (h : f47 n x0 x1 x2 s = some (v, s2)) {w : zσ} {fz : Bool} {L : Nat} {xs : Nat → Int32} : zGo (zX fz L xs) d q_47 (0, [(0, .ref x0), (1, .int x1), (2, .int x2)], [], zmk s w, 0, 0) (some (.int v), zmk s2 w, 0, 0) := by
  unfold f47 at h
  refine zGo_s (pc' := 1) (st' := [.ref x0]) dd47_0 rfl ?_
  refine cGI dd47_1 rfl (ck6_s hx0).1 (ck6_s hx0).2 rfl ?_
  refine zGo_s (pc' := 7) (st' := [.int (200 : Int32), .int (s.1 x0 9)]) dd47_4 rfl ?_
  rcases oite h with ⟨hc, h⟩ | ⟨hc, h⟩
  · refine zIT dd47_7 rfl (kLtT hc) ?_
    refine zGo_s (pc' := 13) (st' := [.ref x0]) dd47_12 rfl ?_
    refine zGo_s (pc' := 14) (st' := [.ref x0, .ref x0]) dd47_13 rfl ?_
    refine cGI dd47_14 rfl (ck6_s hx0).1 (ck6_s hx0).2 rfl ?_
    refine zGo_s (pc' := 18) (st' := [.int (s.1 x0 9), .ref x0, .int (s.1 x0 9)]) dd47_17 rfl ?_
    refine zGo_s (pc' := 19) (st' := [.int (1 : Int32), .int (s.1 x0 9), .ref x0, .int (s.1 x0 9)]) dd47_18 rfl ?_
    refine zGo_s (pc' := 20) (st' := [.int ((s.1 x0 9) + (1 : Int32)), .ref x0, .int (s.1 x0 9)]) dd47_19 rfl ?_
    obtain ⟨u1, e_u1, h⟩ := olet h
    refine cPI dd47_20 rfl (ck6_s hx0).1 (ck6_s hx0).2 rfl rfl rfl e_u1 ?_
    obtain ⟨v2, e_v2, h⟩ := olet h
    refine zGo_is1 e_v2 dd47_23 (x' := (24, [(3, .int v2), (0, .ref x0), (1, .int x1), (2, .int x2)], [], _, _, _)) rfl ?_
    refine zGo_s (pc' := 25) (st' := [.ref x0]) dd47_24 rfl ?_
    refine cGF (e := (x0 + 1)) dd47_25 rfl (ck6_s hx0).1 (ck6_s hx0).2 rfl (cf6_0 hx0).1 ?_
    refine zGo_s (pc' := 29) (st' := [.int v2, .ref (x0 + 1)]) dd47_28 rfl ?_
    refine zGo_s (pc' := 30) (st' := [.int x1, .int v2, .ref (x0 + 1)]) dd47_29 rfl ?_
    obtain ⟨hi, h⟩ := ochk h
    obtain ⟨u3, e_u3, h⟩ := olet h
    refine cIS dd47_30 (cf6_0 hx0).2.1 (cf6_0 hx0).2.2 hi e_u3 ?_
    refine zGo_s (pc' := 32) (st' := [.ref x0]) dd47_31 rfl ?_
    refine cGF (e := (x0 + 2)) dd47_32 rfl (ck6_s hx0).1 (ck6_s hx0).2 rfl (cf6_1 hx0).1 ?_
    refine zGo_s (pc' := 36) (st' := [.int v2, .ref (x0 + 2)]) dd47_35 rfl ?_
    refine zGo_s (pc' := 37) (st' := [.int (-1 : Int32), .int v2, .ref (x0 + 2)]) dd47_36 rfl ?_
    obtain ⟨hi, h⟩ := ochk h
    obtain ⟨u4, e_u4, h⟩ := olet h
    refine cIS dd47_37 (cf6_1 hx0).2.1 (cf6_1 hx0).2.2 hi e_u4 ?_
    refine zGo_s (pc' := 39) (st' := [.ref x0]) dd47_38 rfl ?_
    refine cGF (e := (x0 + 3)) dd47_39 rfl (ck6_s hx0).1 (ck6_s hx0).2 rfl (cf6_2 hx0).1 ?_
    refine zGo_s (pc' := 43) (st' := [.int v2, .ref (x0 + 3)]) dd47_42 rfl ?_
    refine zGo_s (pc' := 44) (st' := [.int (-1 : Int32), .int v2, .ref (x0 + 3)]) dd47_43 rfl ?_
    obtain ⟨hi, h⟩ := ochk h
    obtain ⟨u5, e_u5, h⟩ := olet h
    refine cIS dd47_44 (cf6_2 hx0).2.1 (cf6_2 hx0).2.2 hi e_u5 ?_
    refine zGo_s (pc' := 46) (st' := [.ref x0]) dd47_45 rfl ?_
    refine cGF (e := (x0 + 4)) dd47_46 rfl (ck6_s hx0).1 (ck6_s hx0).2 rfl (cf6_3 hx0).1 ?_
    refine zGo_s (pc' := 50) (st' := [.int v2, .ref (x0 + 4)]) dd47_49 rfl ?_
    refine zGo_s (pc' := 51) (st' := [.ref x0, .int v2, .ref (x0 + 4)]) dd47_50 rfl ?_
    refine cGI dd47_51 rfl (ck6_s hx0).1 (ck6_s hx0).2 rfl ?_
    obtain ⟨hi, h⟩ := ochk h
    obtain ⟨u6, e_u6, h⟩ := olet h
    refine cIS dd47_54 (cf6_3 hx0).2.1 (cf6_3 hx0).2.2 hi e_u6 ?_
    refine zGo_s (pc' := 56) (st' := [.ref x0]) dd47_55 rfl ?_
    refine cGF (e := (x0 + 5)) dd47_56 rfl (ck6_s hx0).1 (ck6_s hx0).2 rfl (cf6_4 hx0).1 ?_
    refine zGo_s (pc' := 60) (st' := [.int v2, .ref (x0 + 5)]) dd47_59 rfl ?_
    refine zGo_s (pc' := 61) (st' := [.ref x0, .int v2, .ref (x0 + 5)]) dd47_60 rfl ?_
    refine cGI dd47_61 rfl (ck6_s hx0).1 (ck6_s hx0).2 rfl ?_
    obtain ⟨hi, h⟩ := ochk h
    obtain ⟨u7, e_u7, h⟩ := olet h
    refine cIS dd47_64 (cf6_4 hx0).2.1 (cf6_4 hx0).2.2 hi e_u7 ?_
    refine zGo_s (pc' := 66) (st' := [.ref x0]) dd47_65 rfl ?_
    refine cGF (e := (x0 + 6)) dd47_66 rfl (ck6_s hx0).1 (ck6_s hx0).2 rfl (cf6_5 hx0).1 ?_
    refine zGo_s (pc' := 70) (st' := [.int v2, .ref (x0 + 6)]) dd47_69 rfl ?_
    refine zGo_s (pc' := 71) (st' := [.int (-1 : Int32), .int v2, .ref (x0 + 6)]) dd47_70 rfl ?_
    obtain ⟨hi, h⟩ := ochk h
    obtain ⟨u8, e_u8, h⟩ := olet h
    refine cIS dd47_71 (cf6_5 hx0).2.1 (cf6_5 hx0).2.2 hi e_u8 ?_
    refine zGo_s (pc' := 73) (st' := [.ref x0]) dd47_72 rfl ?_
    refine cGF (e := (x0 + 7)) dd47_73 rfl (ck6_s hx0).1 (ck6_s hx0).2 rfl (cf6_6 hx0).1 ?_
    refine zGo_s (pc' := 77) (st' := [.int v2, .ref (x0 + 7)]) dd47_76 rfl ?_
    refine zGo_s (pc' := 78) (st' := [.int x2, .int v2, .ref (x0 + 7)]) dd47_77 rfl ?_
    obtain ⟨hi, h⟩ := ochk h
    obtain ⟨u9, e_u9, h⟩ := olet h
    refine cIS dd47_78 (cf6_6 hx0).2.1 (cf6_6 hx0).2.2 hi e_u9 ?_
    refine zGo_s (pc' := 80) (st' := [.int v2]) dd47_79 rfl ?_
    obtain ⟨rfl, rfl⟩ := oret h
    exact zGo_ret dd47_80 rfl rfl
  · refine zIF dd47_7 (kLtF hc) ?_
    refine zGo_s (pc' := 11) (st' := [.int (-1 : Int32)]) dd47_10 rfl ?_
    obtain ⟨rfl, rfl⟩ := oret h
    exact zGo_ret dd47_11 rfl rfl
/-! PH$Statements.emit(II)V -/
theorem dd54_0 : decode cX6_emit 0 = .ok (.aload_n 0, 1) := by decide +kernel
theorem dd54_1 : decode cX6_emit 1 = .ok (.getfield 46, 3) := by decide +kernel
theorem dd54_4 : decode cX6_emit 4 = .ok (.sipush 400, 3) := by decide +kernel
theorem dd54_7 : decode cX6_emit 7 = .ok (.if_icmp .ge 33, 3) := by decide +kernel
theorem dd54_10 : decode cX6_emit 10 = .ok (.aload_n 0, 1) := by decide +kernel
theorem dd54_11 : decode cX6_emit 11 = .ok (.getfield 33, 3) := by decide +kernel
theorem dd54_14 : decode cX6_emit 14 = .ok (.aload_n 0, 1) := by decide +kernel
theorem dd54_15 : decode cX6_emit 15 = .ok (.getfield 46, 3) := by decide +kernel
theorem dd54_18 : decode cX6_emit 18 = .ok (.iload_n 1, 1) := by decide +kernel
theorem dd54_19 : decode cX6_emit 19 = .ok (.iastore, 1) := by decide +kernel
theorem dd54_20 : decode cX6_emit 20 = .ok (.aload_n 0, 1) := by decide +kernel
theorem dd54_21 : decode cX6_emit 21 = .ok (.getfield 36, 3) := by decide +kernel
theorem dd54_24 : decode cX6_emit 24 = .ok (.aload_n 0, 1) := by decide +kernel
theorem dd54_25 : decode cX6_emit 25 = .ok (.getfield 46, 3) := by decide +kernel
theorem dd54_28 : decode cX6_emit 28 = .ok (.iload_n 2, 1) := by decide +kernel
theorem dd54_29 : decode cX6_emit 29 = .ok (.iastore, 1) := by decide +kernel
theorem dd54_30 : decode cX6_emit 30 = .ok (.aload_n 0, 1) := by decide +kernel
theorem dd54_31 : decode cX6_emit 31 = .ok (.dup, 1) := by decide +kernel
theorem dd54_32 : decode cX6_emit 32 = .ok (.getfield 46, 3) := by decide +kernel
theorem dd54_35 : decode cX6_emit 35 = .ok (.iconst 1, 1) := by decide +kernel
theorem dd54_36 : decode cX6_emit 36 = .ok (.iadd, 1) := by decide +kernel
theorem dd54_37 : decode cX6_emit 37 = .ok (.putfield 46, 3) := by decide +kernel
theorem dd54_40 : decode cX6_emit 40 = .ok (.return_, 1) := by decide +kernel
def f54 (n : Nat) (x0 : Nat) (x1 : Int32) (x2 : Int32) (s : zσ) : Option zσ :=
    if (s.1 x0 11) < (400 : Int32) then
    if zin? (s.1 x0 11) 400 = true then
    zlet (sI s (x0 + 8) (nx (s.1 x0 11)) x1) fun u1 =>
    if zin? (u1.1 x0 11) 400 = true then
    zlet (sI u1 (x0 + 9) (nx (u1.1 x0 11)) x2) fun u2 =>
    zlet (sI u2 x0 11 ((u2.1 x0 11) + (1 : Int32))) fun u3 =>
    some u3
    else none
    else none
    else some s
set_option maxRecDepth 20000 in
theorem f54_ok {n d : Nat} {x0 : Nat} {x1 : Int32} {x2 : Int32} {s : zσ} {s2 : zσ} (hd : 0 ≤ d) (hx0 : zck 6 x0 = true) (h : f54 n x0 x1 x2 s = some s2) {w : zσ} {fz : Bool} {L : Nat} {xs : Nat → Int32} : zGo (zX fz L xs) d q_54 (0, [(0, .ref x0), (1, .int x1), (2, .int x2)], [], zmk s w, 0, 0) (none, zmk s2 w, 0, 0) := by
  unfold f54 at h
  refine zGo_s (pc' := 1) (st' := [.ref x0]) dd54_0 rfl ?_
  refine cGI dd54_1 rfl (ck6_s hx0).1 (ck6_s hx0).2 rfl ?_
  refine zGo_s (pc' := 7) (st' := [.int (400 : Int32), .int (s.1 x0 11)]) dd54_4 rfl ?_
  rcases oite h with ⟨hc, h⟩ | ⟨hc, h⟩
  · refine zIF dd54_7 (kGeF hc) ?_
    refine zGo_s (pc' := 11) (st' := [.ref x0]) dd54_10 rfl ?_
    refine cGF (e := (x0 + 8)) dd54_11 rfl (ck6_s hx0).1 (ck6_s hx0).2 rfl (cf6_7 hx0).1 ?_
    refine zGo_s (pc' := 15) (st' := [.ref x0, .ref (x0 + 8)]) dd54_14 rfl ?_
    refine cGI dd54_15 rfl (ck6_s hx0).1 (ck6_s hx0).2 rfl ?_
    refine zGo_s (pc' := 19) (st' := [.int x1, .int (s.1 x0 11), .ref (x0 + 8)]) dd54_18 rfl ?_
    obtain ⟨hi, h⟩ := ochk h
    obtain ⟨u1, e_u1, h⟩ := olet h
    refine cIS dd54_19 (cf6_7 hx0).2.1 (cf6_7 hx0).2.2 hi e_u1 ?_
    refine zGo_s (pc' := 21) (st' := [.ref x0]) dd54_20 rfl ?_
    refine cGF (e := (x0 + 9)) dd54_21 rfl (ck6_s hx0).1 (ck6_s hx0).2 rfl (cf6_8 hx0).1 ?_
    refine zGo_s (pc' := 25) (st' := [.ref x0, .ref (x0 + 9)]) dd54_24 rfl ?_
    refine cGI dd54_25 rfl (ck6_s hx0).1 (ck6_s hx0).2 rfl ?_
    refine zGo_s (pc' := 29) (st' := [.int x2, .int (u1.1 x0 11), .ref (x0 + 9)]) dd54_28 rfl ?_
    obtain ⟨hi, h⟩ := ochk h
    obtain ⟨u2, e_u2, h⟩ := olet h
    refine cIS dd54_29 (cf6_8 hx0).2.1 (cf6_8 hx0).2.2 hi e_u2 ?_
    refine zGo_s (pc' := 31) (st' := [.ref x0]) dd54_30 rfl ?_
    refine zGo_s (pc' := 32) (st' := [.ref x0, .ref x0]) dd54_31 rfl ?_
    refine cGI dd54_32 rfl (ck6_s hx0).1 (ck6_s hx0).2 rfl ?_
    refine zGo_s (pc' := 36) (st' := [.int (1 : Int32), .int (u2.1 x0 11), .ref x0]) dd54_35 rfl ?_
    refine zGo_s (pc' := 37) (st' := [.int ((u2.1 x0 11) + (1 : Int32)), .ref x0]) dd54_36 rfl ?_
    obtain ⟨u3, e_u3, h⟩ := olet h
    refine cPI dd54_37 rfl (ck6_s hx0).1 (ck6_s hx0).2 rfl rfl rfl e_u3 ?_
    obtain rfl := ore0 h
    exact zGo_ret dd54_40 rfl rfl
  · refine zIT dd54_7 rfl (kGeT hc) ?_
    obtain rfl := ore0 h
    exact zGo_ret dd54_40 rfl rfl
