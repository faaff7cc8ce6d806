/-! PHModel.task(II)I -/
theorem dd269_0 : decode cX13_task 0 = .ok (.aload_n 0, 1) := by decide +kernel
theorem dd269_1 : decode cX13_task 1 = .ok (.getfield 557, 3) := by decide +kernel
theorem dd269_4 : decode cX13_task 4 = .ok (.ifCond .ne 6, 3) := by decide +kernel
theorem dd269_7 : decode cX13_task 7 = .ok (.bipush (-3), 2) := by decide +kernel
theorem dd269_9 : decode cX13_task 9 = .ok (.ireturn, 1) := by decide +kernel
theorem dd269_10 : decode cX13_task 10 = .ok (.aload_n 0, 1) := by decide +kernel
theorem dd269_11 : decode cX13_task 11 = .ok (.iload_n 1, 1) := by decide +kernel
theorem dd269_12 : decode cX13_task 12 = .ok (.invokevirtual 774, 3) := by decide +kernel
theorem dd269_15 : decode cX13_task 15 = .ok (.ifCond .ne 5, 3) := by decide +kernel
theorem dd269_18 : decode cX13_task 18 = .ok (.iconst (-1), 1) := by decide +kernel
theorem dd269_19 : decode cX13_task 19 = .ok (.ireturn, 1) := by decide +kernel
theorem dd269_20 : decode cX13_task 20 = .ok (.iload_n 2, 1) := by decide +kernel
theorem dd269_21 : decode cX13_task 21 = .ok (.tableswitch 131 0 8 #[51, 58, 65, 89, 96, 103, 110, 117, 124], 51) := by decide +kernel
theorem dd269_72 : decode cX13_task 72 = .ok (.aload_n 0, 1) := by decide +kernel
theorem dd269_73 : decode cX13_task 73 = .ok (.getfield 91, 3) := by decide +kernel
theorem dd269_76 : decode cX13_task 76 = .ok (.iload_n 1, 1) := by decide +kernel
theorem dd269_77 : decode cX13_task 77 = .ok (.iaload, 1) := by decide +kernel
theorem dd269_78 : decode cX13_task 78 = .ok (.ireturn, 1) := by decide +kernel
theorem dd269_79 : decode cX13_task 79 = .ok (.aload_n 0, 1) := by decide +kernel
theorem dd269_80 : decode cX13_task 80 = .ok (.getfield 94, 3) := by decide +kernel
theorem dd269_83 : decode cX13_task 83 = .ok (.iload_n 1, 1) := by decide +kernel
theorem dd269_84 : decode cX13_task 84 = .ok (.iaload, 1) := by decide +kernel
theorem dd269_85 : decode cX13_task 85 = .ok (.ireturn, 1) := by decide +kernel
theorem dd269_86 : decode cX13_task 86 = .ok (.aload_n 0, 1) := by decide +kernel
theorem dd269_87 : decode cX13_task 87 = .ok (.getfield 121, 3) := by decide +kernel
theorem dd269_90 : decode cX13_task 90 = .ok (.iload_n 1, 1) := by decide +kernel
theorem dd269_91 : decode cX13_task 91 = .ok (.iaload, 1) := by decide +kernel
theorem dd269_92 : decode cX13_task 92 = .ok (.ifCond .ne 7, 3) := by decide +kernel
theorem dd269_95 : decode cX13_task 95 = .ok (.iconst (-1), 1) := by decide +kernel
theorem dd269_96 : decode cX13_task 96 = .ok (.goto 13, 3) := by decide +kernel
theorem dd269_99 : decode cX13_task 99 = .ok (.aload_n 0, 1) := by decide +kernel
theorem dd269_100 : decode cX13_task 100 = .ok (.getfield 127, 3) := by decide +kernel
theorem dd269_103 : decode cX13_task 103 = .ok (.aload_n 0, 1) := by decide +kernel
theorem dd269_104 : decode cX13_task 104 = .ok (.iload_n 1, 1) := by decide +kernel
theorem dd269_105 : decode cX13_task 105 = .ok (.invokevirtual 591, 3) := by decide +kernel
theorem dd269_108 : decode cX13_task 108 = .ok (.iaload, 1) := by decide +kernel
theorem dd269_109 : decode cX13_task 109 = .ok (.ireturn, 1) := by decide +kernel
theorem dd269_110 : decode cX13_task 110 = .ok (.aload_n 0, 1) := by decide +kernel
theorem dd269_111 : decode cX13_task 111 = .ok (.getfield 103, 3) := by decide +kernel
theorem dd269_114 : decode cX13_task 114 = .ok (.iload_n 1, 1) := by decide +kernel
theorem dd269_115 : decode cX13_task 115 = .ok (.iaload, 1) := by decide +kernel
theorem dd269_116 : decode cX13_task 116 = .ok (.ireturn, 1) := by decide +kernel
theorem dd269_117 : decode cX13_task 117 = .ok (.aload_n 0, 1) := by decide +kernel
theorem dd269_118 : decode cX13_task 118 = .ok (.getfield 106, 3) := by decide +kernel
theorem dd269_121 : decode cX13_task 121 = .ok (.iload_n 1, 1) := by decide +kernel
theorem dd269_122 : decode cX13_task 122 = .ok (.iaload, 1) := by decide +kernel
theorem dd269_123 : decode cX13_task 123 = .ok (.ireturn, 1) := by decide +kernel
theorem dd269_124 : decode cX13_task 124 = .ok (.aload_n 0, 1) := by decide +kernel
theorem dd269_125 : decode cX13_task 125 = .ok (.getfield 109, 3) := by decide +kernel
theorem dd269_128 : decode cX13_task 128 = .ok (.iload_n 1, 1) := by decide +kernel
theorem dd269_129 : decode cX13_task 129 = .ok (.iaload, 1) := by decide +kernel
theorem dd269_130 : decode cX13_task 130 = .ok (.ireturn, 1) := by decide +kernel
theorem dd269_131 : decode cX13_task 131 = .ok (.aload_n 0, 1) := by decide +kernel
theorem dd269_132 : decode cX13_task 132 = .ok (.getfield 112, 3) := by decide +kernel
theorem dd269_135 : decode cX13_task 135 = .ok (.iload_n 1, 1) := by decide +kernel
theorem dd269_136 : decode cX13_task 136 = .ok (.iaload, 1) := by decide +kernel
theorem dd269_137 : decode cX13_task 137 = .ok (.ireturn, 1) := by decide +kernel
theorem dd269_138 : decode cX13_task 138 = .ok (.aload_n 0, 1) := by decide +kernel
theorem dd269_139 : decode cX13_task 139 = .ok (.getfield 115, 3) := by decide +kernel
theorem dd269_142 : decode cX13_task 142 = .ok (.iload_n 1, 1) := by decide +kernel
theorem dd269_143 : decode cX13_task 143 = .ok (.iaload, 1) := by decide +kernel
theorem dd269_144 : decode cX13_task 144 = .ok (.ireturn, 1) := by decide +kernel
theorem dd269_145 : decode cX13_task 145 = .ok (.aload_n 0, 1) := by decide +kernel
theorem dd269_146 : decode cX13_task 146 = .ok (.getfield 118, 3) := by decide +kernel
theorem dd269_149 : decode cX13_task 149 = .ok (.iload_n 1, 1) := by decide +kernel
theorem dd269_150 : decode cX13_task 150 = .ok (.iaload, 1) := by decide +kernel
theorem dd269_151 : decode cX13_task 151 = .ok (.ireturn, 1) := by decide +kernel
theorem dd269_152 : decode cX13_task 152 = .ok (.bipush (-2), 2) := by decide +kernel
theorem dd269_154 : decode cX13_task 154 = .ok (.ireturn, 1) := by decide +kernel
def f269 (n : Nat) (x1 : Int32) (x2 : Int32) (s : zσ) : Option (Int32 × zσ) :=
    if (s.1 1132 17) = (0 : Int32) then
    some ((-3 : Int32), s)
    else yb1 (f270 n x1 s) fun v2 u1 =>
    if v2 = (0 : Int32) then
    some ((-1 : Int32), u1)
    else if x2 = (0 : Int32) then
    if zin? x1 8 = true then
    some ((u1.1 1225 (nx x1)), u1)
    else none
    else if x2 = (1 : Int32) then
    if zin? x1 8 = true then
    some ((u1.1 1226 (nx x1)), u1)
    else none
    else if x2 = (2 : Int32) then
    if zin? x1 8 = true then
    if (u1.1 1235 (nx x1)) = (0 : Int32) then
    some ((-1 : Int32), u1)
    else yb1 (f214 n x1 u1) fun v4 u3 =>
    if zin? v4 1120 = true then
    some ((u3.1 1237 (nx v4)), u3)
    else none
    else none
    else if x2 = (3 : Int32) then
    if zin? x1 8 = true then
    some ((u1.1 1229 (nx x1)), u1)
    else none
    else if x2 = (4 : Int32) then
    if zin? x1 8 = true then
    some ((u1.1 1230 (nx x1)), u1)
    else none
    else if x2 = (5 : Int32) then
    if zin? x1 8 = true then
    some ((u1.1 1231 (nx x1)), u1)
    else none
    else if x2 = (6 : Int32) then
    if zin? x1 8 = true then
    some ((u1.1 1232 (nx x1)), u1)
    else none
    else if x2 = (7 : Int32) then
    if zin? x1 8 = true then
    some ((u1.1 1233 (nx x1)), u1)
    else none
    else if x2 = (8 : Int32) then
    if zin? x1 8 = true then
    some ((u1.1 1234 (nx x1)), u1)
    else none
    else some ((-2 : Int32), u1)
set_option maxRecDepth 20000 in
theorem f269_ok {n d : Nat} {x1 : Int32} {x2 : Int32} {s : zσ} {v : Int32} {s2 : zσ} (hd : 2 ≤ d) (h : f269 n x1 x2 s = some (v, s2)) {w : zσ} {fz : Bool} {L : Nat} {xs : Nat → Int32} : zGo (zX fz L xs) d q_269 (0, [(0, .ref 1132), (1, .int x1), (2, .int x2)], [], zmk w s, 0, 0) (some (.int v), zmk w s2, 0, 0) := by
  obtain ⟨d, rfl⟩ : ∃ d0, d = d0 + 1 := ⟨d - 1, by omega⟩
  unfold f269 at h
  refine zGo_s (pc' := 1) (st' := [.ref 1132]) dd269_0 rfl ?_
  refine mGI dd269_1 rfl rfl rfl rfl ?_
  rcases oite h with ⟨hc, h⟩ | ⟨hc, h⟩
  · refine zUF dd269_4 (kNeF hc) ?_
    refine zGo_s (pc' := 9) (st' := [.int (-3 : Int32)]) dd269_7 rfl ?_
    obtain ⟨rfl, rfl⟩ := oret h
    exact zGo_ret dd269_9 rfl rfl
  · refine zUT dd269_4 rfl (kNeT hc) ?_
    refine zGo_s (pc' := 11) (st' := [.ref 1132]) dd269_10 rfl ?_
    refine zGo_s (pc' := 12) (st' := [.int x1, .ref 1132]) dd269_11 rfl ?_
    obtain ⟨v2, u1, hq, h⟩ := obnd h
    refine zCV1 (As := [.int x1]) (rest := []) (b := 1132) (q' := q_270) dd269_12 rfl rfl (rcv_m rfl rfl (by decide)) rfl rfl rfl (f270_ok (d := d) (by omega)  hq) ?_
    rcases oite h with ⟨hc, h⟩ | ⟨hc, h⟩
    · refine zUF dd269_15 (kNeF hc) ?_
      refine zGo_s (pc' := 19) (st' := [.int (-1 : Int32)]) dd269_18 rfl ?_
      obtain ⟨rfl, rfl⟩ := oret h
      exact zGo_ret dd269_19 rfl rfl
    · refine zUT dd269_15 rfl (kNeT hc) ?_
      refine zGo_s (pc' := 21) (st' := [.int x2]) dd269_20 rfl ?_
      rcases oite h with ⟨hc, h⟩ | ⟨hn0, h⟩
      · refine zGo_sw dd269_21 (o := 51) (by rw [hc]; decide +kernel) rfl ?_
        refine zGo_s (pc' := 73) (st' := [.ref 1132]) dd269_72 rfl ?_
        refine mGF (e := 1225) dd269_73 rfl rfl rfl rfl rfl ?_
        refine zGo_s (pc' := 77) (st' := [.int x1, .ref 1225]) dd269_76 rfl ?_
        obtain ⟨hi, h⟩ := ochk h
        refine mIA dd269_77 rfl rfl hi ?_
        obtain ⟨rfl, rfl⟩ := oret h
        exact zGo_ret dd269_78 rfl rfl
      rcases oite h with ⟨hc, h⟩ | ⟨hn1, h⟩
      · refine zGo_sw dd269_21 (o := 58) (by rw [hc]; decide +kernel) rfl ?_
        refine zGo_s (pc' := 80) (st' := [.ref 1132]) dd269_79 rfl ?_
        refine mGF (e := 1226) dd269_80 rfl rfl rfl rfl rfl ?_
        refine zGo_s (pc' := 84) (st' := [.int x1, .ref 1226]) dd269_83 rfl ?_
        obtain ⟨hi, h⟩ := ochk h
        refine mIA dd269_84 rfl rfl hi ?_
        obtain ⟨rfl, rfl⟩ := oret h
        exact zGo_ret dd269_85 rfl rfl
      rcases oite h with ⟨hc, h⟩ | ⟨hn2, h⟩
      · refine zGo_sw dd269_21 (o := 65) (by rw [hc]; decide +kernel) rfl ?_
        refine zGo_s (pc' := 87) (st' := [.ref 1132]) dd269_86 rfl ?_
        refine mGF (e := 1235) dd269_87 rfl rfl rfl rfl rfl ?_
        refine zGo_s (pc' := 91) (st' := [.int x1, .ref 1235]) dd269_90 rfl ?_
        obtain ⟨hi, h⟩ := ochk h
        refine mIA dd269_91 rfl rfl hi ?_
        rcases oite h with ⟨hc, h⟩ | ⟨hc, h⟩
        · refine zUF dd269_92 (kNeF hc) ?_
          refine zGo_s (pc' := 96) (st' := [.int (-1 : Int32)]) dd269_95 rfl ?_
          refine zGo_s (pc' := 109) (st' := [.int (-1 : Int32)]) dd269_96 rfl ?_
          obtain ⟨rfl, rfl⟩ := oret h
          exact zGo_ret dd269_109 rfl rfl
        · refine zUT dd269_92 rfl (kNeT hc) ?_
          refine zGo_s (pc' := 100) (st' := [.ref 1132]) dd269_99 rfl ?_
          refine mGF (e := 1237) dd269_100 rfl rfl rfl rfl rfl ?_
          refine zGo_s (pc' := 104) (st' := [.ref 1132, .ref 1237]) dd269_103 rfl ?_
          refine zGo_s (pc' := 105) (st' := [.int x1, .ref 1132, .ref 1237]) dd269_104 rfl ?_
          obtain ⟨v4, u3, hq, h⟩ := obnd h
          refine zCV1 (As := [.int x1]) (rest := [.ref 1237]) (b := 1132) (q' := q_214) dd269_105 rfl rfl (rcv_m rfl rfl (by decide)) rfl rfl rfl (f214_ok (d := d) (by omega)  hq) ?_
          obtain ⟨hi, h⟩ := ochk h
          refine mIA dd269_108 rfl rfl hi ?_
          obtain ⟨rfl, rfl⟩ := oret h
          exact zGo_ret dd269_109 rfl rfl
      rcases oite h with ⟨hc, h⟩ | ⟨hn3, h⟩
      · refine zGo_sw dd269_21 (o := 89) (by rw [hc]; decide +kernel) rfl ?_
        refine zGo_s (pc' := 111) (st' := [.ref 1132]) dd269_110 rfl ?_
        refine mGF (e := 1229) dd269_111 rfl rfl rfl rfl rfl ?_
        refine zGo_s (pc' := 115) (st' := [.int x1, .ref 1229]) dd269_114 rfl ?_
        obtain ⟨hi, h⟩ := ochk h
        refine mIA dd269_115 rfl rfl hi ?_
        obtain ⟨rfl, rfl⟩ := oret h
        exact zGo_ret dd269_116 rfl rfl
      rcases oite h with ⟨hc, h⟩ | ⟨hn4, h⟩
      · refine zGo_sw dd269_21 (o := 96) (by rw [hc]; decide +kernel) rfl ?_
        refine zGo_s (pc' := 118) (st' := [.ref 1132]) dd269_117 rfl ?_
        refine mGF (e := 1230) dd269_118 rfl rfl rfl rfl rfl ?_
        refine zGo_s (pc' := 122) (st' := [.int x1, .ref 1230]) dd269_121 rfl ?_
        obtain ⟨hi, h⟩ := ochk h
        refine mIA dd269_122 rfl rfl hi ?_
        obtain ⟨rfl, rfl⟩ := oret h
        exact zGo_ret dd269_123 rfl rfl
      rcases oite h with ⟨hc, h⟩ | ⟨hn5, h⟩
      · refine zGo_sw dd269_21 (o := 103) (by rw [hc]; decide +kernel) rfl ?_
        refine zGo_s (pc' := 125) (st' := [.ref 1132]) dd269_124 rfl ?_
        refine mGF (e := 1231) dd269_125 rfl rfl rfl rfl rfl ?_
        refine zGo_s (pc' := 129) (st' := [.int x1, .ref 1231]) dd269_128 rfl ?_
        obtain ⟨hi, h⟩ := ochk h
        refine mIA dd269_129 rfl rfl hi ?_
        obtain ⟨rfl, rfl⟩ := oret h
        exact zGo_ret dd269_130 rfl rfl
      rcases oite h with ⟨hc, h⟩ | ⟨hn6, h⟩
      · refine zGo_sw dd269_21 (o := 110) (by rw [hc]; decide +kernel) rfl ?_
        refine zGo_s (pc' := 132) (st' := [.ref 1132]) dd269_131 rfl ?_
        refine mGF (e := 1232) dd269_132 rfl rfl rfl rfl rfl ?_
        refine zGo_s (pc' := 136) (st' := [.int x1, .ref 1232]) dd269_135 rfl ?_
        obtain ⟨hi, h⟩ := ochk h
        refine mIA dd269_136 rfl rfl hi ?_
        obtain ⟨rfl, rfl⟩ := oret h
        exact zGo_ret dd269_137 rfl rfl
      rcases oite h with ⟨hc, h⟩ | ⟨hn7, h⟩
      · refine zGo_sw dd269_21 (o := 117) (by rw [hc]; decide +kernel) rfl ?_
        refine zGo_s (pc' := 139) (st' := [.ref 1132]) dd269_138 rfl ?_
        refine mGF (e := 1233) dd269_139 rfl rfl rfl rfl rfl ?_
        refine zGo_s (pc' := 143) (st' := [.int x1, .ref 1233]) dd269_142 rfl ?_
        obtain ⟨hi, h⟩ := ochk h
        refine mIA dd269_143 rfl rfl hi ?_
        obtain ⟨rfl, rfl⟩ := oret h
        exact zGo_ret dd269_144 rfl rfl
      rcases oite h with ⟨hc, h⟩ | ⟨hn8, h⟩
      · refine zGo_sw dd269_21 (o := 124) (by rw [hc]; decide +kernel) rfl ?_
        refine zGo_s (pc' := 146) (st' := [.ref 1132]) dd269_145 rfl ?_
        refine mGF (e := 1234) dd269_146 rfl rfl rfl rfl rfl ?_
        refine zGo_s (pc' := 150) (st' := [.int x1, .ref 1234]) dd269_149 rfl ?_
        obtain ⟨hi, h⟩ := ochk h
        refine mIA dd269_150 rfl rfl hi ?_
        obtain ⟨rfl, rfl⟩ := oret h
        exact zGo_ret dd269_151 rfl rfl
      refine zGo_sw dd269_21 (o := 131) (zto_d (by decide) (by decide) fun k hk => ?_) rfl ?_
      · have hk2 : k = 0 ∨ k = 1 ∨ k = 2 ∨ k = 3 ∨ k = 4 ∨ k = 5 ∨ k = 6 ∨ k = 7 ∨ k = 8 := by omega
        rcases hk2 with rfl | rfl | rfl | rfl | rfl | rfl | rfl | rfl | rfl
        · exact Or.inr hn0
        · exact Or.inr hn1
        · exact Or.inr hn2
        · exact Or.inr hn3
        · exact Or.inr hn4
        · exact Or.inr hn5
        · exact Or.inr hn6
        · exact Or.inr hn7
        · exact Or.inr hn8
      refine zGo_s (pc' := 154) (st' := [.int (-2 : Int32)]) dd269_152 rfl ?_
      obtain ⟨rfl, rfl⟩ := oret h
      exact zGo_ret dd269_154 rfl rfl
/-! PHModel.value(I)I -/
theorem dd271_0 : decode cX13_value 0 = .ok (.aload_n 0, 1) := by decide +kernel
theorem dd271_1 : decode cX13_value 1 = .ok (.getfield 557, 3) := by decide +kernel
theorem dd271_4 : decode cX13_value 4 = .ok (.ifCond .eq 20, 3) := by decide +kernel
theorem dd271_7 : decode cX13_value 7 = .ok (.iload_n 1, 1) := by decide +kernel
theorem dd271_8 : decode cX13_value 8 = .ok (.ifCond .lt 16, 3) := by decide +kernel
theorem dd271_11 : decode cX13_value 11 = .ok (.iload_n 1, 1) := by decide +kernel
theorem dd271_12 : decode cX13_value 12 = .ok (.aload_n 0, 1) := by decide +kernel
theorem dd271_13 : decode cX13_value 13 = .ok (.getfield 20, 3) := by decide +kernel
theorem dd271_16 : decode cX13_value 16 = .ok (.getfield 270, 3) := by decide +kernel
theorem dd271_19 : decode cX13_value 19 = .ok (.iconst 0, 1) := by decide +kernel
theorem dd271_20 : decode cX13_value 20 = .ok (.iaload, 1) := by decide +kernel
theorem dd271_21 : decode cX13_value 21 = .ok (.if_icmp .lt 7, 3) := by decide +kernel
theorem dd271_24 : decode cX13_value 24 = .ok (.iconst 0, 1) := by decide +kernel
theorem dd271_25 : decode cX13_value 25 = .ok (.goto 9, 3) := by decide +kernel
theorem dd271_28 : decode cX13_value 28 = .ok (.aload_n 0, 1) := by decide +kernel
theorem dd271_29 : decode cX13_value 29 = .ok (.getfield 36, 3) := by decide +kernel
theorem dd271_32 : decode cX13_value 32 = .ok (.iload_n 1, 1) := by decide +kernel
theorem dd271_33 : decode cX13_value 33 = .ok (.iaload, 1) := by decide +kernel
theorem dd271_34 : decode cX13_value 34 = .ok (.ireturn, 1) := by decide +kernel
def f271_24 (n : Nat) (s : zσ) : Option (Int32 × zσ) :=
    some ((0 : Int32), s)
set_option maxRecDepth 20000 in
theorem f271_24_ok {n d : Nat} {s : zσ} {v : Int32} {s2 : zσ} (hd : 0 ≤ d) (h : f271_24 n s = some (v, s2)) {w : zσ} {fz : Bool} {L : Nat} {xs : Nat → Int32} : zGo (zX fz L xs) d q_271 (24, [], [], zmk w s, 0, 0) (some (.int v), zmk w s2, 0, 0) := by
  unfold f271_24 at h
  refine zGo_s (pc' := 25) (st' := [.int (0 : Int32)]) dd271_24 rfl ?_
  refine zGo_s (pc' := 34) (st' := [.int (0 : Int32)]) dd271_25 rfl ?_
  obtain ⟨rfl, rfl⟩ := oret h
  exact zGo_ret dd271_34 rfl rfl
def f271 (n : Nat) (x1 : Int32) (s : zσ) : Option (Int32 × zσ) :=
    if (s.1 1132 17) = (0 : Int32) then
    f271_24 n s
    else if x1 < (0 : Int32) then
    f271_24 n s
    else zrd 12 (s.2.2 1132 11) fun a1 =>
    if zin? (0 : Int32) 9 = true then
    if x1 < (s.1 (a1 + 4) (nx (0 : Int32))) then
    if zin? x1 8 = true then
    some ((s.1 1207 (nx x1)), s)
    else none
    else f271_24 n s
    else none
set_option maxRecDepth 20000 in
theorem f271_ok {n d : Nat} {x1 : Int32} {s : zσ} {v : Int32} {s2 : zσ} (hd : 0 ≤ d) (h : f271 n x1 s = some (v, s2)) {w : zσ} {fz : Bool} {L : Nat} {xs : Nat → Int32} : zGo (zX fz L xs) d q_271 (0, [(0, .ref 1132), (1, .int x1)], [], zmk w s, 0, 0) (some (.int v), zmk w s2, 0, 0) := by
  unfold f271 at h
  refine zGo_s (pc' := 1) (st' := [.ref 1132]) dd271_0 rfl ?_
  refine mGI dd271_1 rfl rfl rfl rfl ?_
  rcases oite h with ⟨hc, h⟩ | ⟨hc, h⟩
  · refine zUT dd271_4 rfl (kEqT hc) ?_
    exact zGo_lv (lv := []) ⟨by simp, by simp, by simp⟩ (f271_24_ok hd h)
  · refine zUF dd271_4 (kEqF hc) ?_
    refine zGo_s (pc' := 8) (st' := [.int x1]) dd271_7 rfl ?_
    rcases oite h with ⟨hc, h⟩ | ⟨hc, h⟩
    · refine zUT dd271_8 rfl (kLtT hc) ?_
      exact zGo_lv (lv := []) ⟨by simp, by simp, by simp⟩ (f271_24_ok hd h)
    · refine zUF dd271_8 (kLtF hc) ?_
      refine zGo_s (pc' := 12) (st' := [.int x1]) dd271_11 rfl ?_
      refine zGo_s (pc' := 13) (st' := [.ref 1132, .int x1]) dd271_12 rfl ?_
      obtain ⟨a1, e_a1, c_a1, h⟩ := ordd h
      refine mGR dd271_13 rfl rfl rfl rfl e_a1 ?_
      refine mGF (e := (a1 + 4)) dd271_16 rfl (ck12_s c_a1).1 (ck12_s c_a1).2 rfl (cf12_4 c_a1).1 ?_
      refine zGo_s (pc' := 20) (st' := [.int (0 : Int32), .ref (a1 + 4), .int x1]) dd271_19 rfl ?_
      obtain ⟨hi, h⟩ := ochk h
      refine mIA dd271_20 (cf12_4 c_a1).2.1 (cf12_4 c_a1).2.2 hi ?_
      rcases oite h with ⟨hc, h⟩ | ⟨hc, h⟩
      · refine zIT dd271_21 rfl (kLtT hc) ?_
        refine zGo_s (pc' := 29) (st' := [.ref 1132]) dd271_28 rfl ?_
        refine mGF (e := 1207) dd271_29 rfl rfl rfl rfl rfl ?_
        refine zGo_s (pc' := 33) (st' := [.int x1, .ref 1207]) dd271_32 rfl ?_
        obtain ⟨hi, h⟩ := ochk h
        refine mIA dd271_33 rfl rfl hi ?_
        obtain ⟨rfl, rfl⟩ := oret h
        exact zGo_ret dd271_34 rfl rfl
      · refine zIF dd271_21 (kLtF hc) ?_
        exact zGo_lv (lv := []) ⟨by simp, by simp, by simp⟩ (f271_24_ok hd h)
/-! PHModel.item(II)I -/
theorem dd272_0 : decode cX13_item 0 = .ok (.aload_n 0, 1) := by decide +kernel
theorem dd272_1 : decode cX13_item 1 = .ok (.getfield 557, 3) := by decide +kernel
theorem dd272_4 : decode cX13_item 4 = .ok (.ifCond .eq 24, 3) := by decide +kernel
theorem dd272_7 : decode cX13_item 7 = .ok (.iload_n 1, 1) := by decide +kernel
theorem dd272_8 : decode cX13_item 8 = .ok (.ifCond .lt 20, 3) := by decide +kernel
theorem dd272_11 : decode cX13_item 11 = .ok (.iload_n 1, 1) := by decide +kernel
theorem dd272_12 : decode cX13_item 12 = .ok (.aload_n 0, 1) := by decide +kernel
theorem dd272_13 : decode cX13_item 13 = .ok (.getfield 20, 3) := by decide +kernel
theorem dd272_16 : decode cX13_item 16 = .ok (.getfield 270, 3) := by decide +kernel
theorem dd272_19 : decode cX13_item 19 = .ok (.iconst 1, 1) := by decide +kernel
theorem dd272_20 : decode cX13_item 20 = .ok (.iaload, 1) := by decide +kernel
theorem dd272_21 : decode cX13_item 21 = .ok (.if_icmp .ge 7, 3) := by decide +kernel
theorem dd272_24 : decode cX13_item 24 = .ok (.iconst 1, 1) := by decide +kernel
theorem dd272_25 : decode cX13_item 25 = .ok (.goto 4, 3) := by decide +kernel
theorem dd272_28 : decode cX13_item 28 = .ok (.iconst 0, 1) := by decide +kernel
theorem dd272_29 : decode cX13_item 29 = .ok (.istore_n 3, 1) := by decide +kernel
theorem dd272_30 : decode cX13_item 30 = .ok (.iload_n 2, 1) := by decide +kernel
theorem dd272_31 : decode cX13_item 31 = .ok (.iconst (-1), 1) := by decide +kernel
theorem dd272_32 : decode cX13_item 32 = .ok (.if_icmp .ne 37, 3) := by decide +kernel
theorem dd272_35 : decode cX13_item 35 = .ok (.iload_n 3, 1) := by decide +kernel
theorem dd272_36 : decode cX13_item 36 = .ok (.ifCond .ne 7, 3) := by decide +kernel
theorem dd272_39 : decode cX13_item 39 = .ok (.iconst 0, 1) := by decide +kernel
theorem dd272_40 : decode cX13_item 40 = .ok (.goto 28, 3) := by decide +kernel
theorem dd272_43 : decode cX13_item 43 = .ok (.aload_n 0, 1) := by decide +kernel
theorem dd272_44 : decode cX13_item 44 = .ok (.getfield 39, 3) := by decide +kernel
theorem dd272_47 : decode cX13_item 47 = .ok (.iload_n 1, 1) := by decide +kernel
theorem dd272_48 : decode cX13_item 48 = .ok (.iaload, 1) := by decide +kernel
theorem dd272_49 : decode cX13_item 49 = .ok (.iconst (-1), 1) := by decide +kernel
theorem dd272_50 : decode cX13_item 50 = .ok (.if_icmp .ne 7, 3) := by decide +kernel
theorem dd272_53 : decode cX13_item 53 = .ok (.iconst (-1), 1) := by decide +kernel
theorem dd272_54 : decode cX13_item 54 = .ok (.goto 14, 3) := by decide +kernel
theorem dd272_57 : decode cX13_item 57 = .ok (.aload_n 0, 1) := by decide +kernel
theorem dd272_58 : decode cX13_item 58 = .ok (.getfield 42, 3) := by decide +kernel
theorem dd272_61 : decode cX13_item 61 = .ok (.aload_n 0, 1) := by decide +kernel
theorem dd272_62 : decode cX13_item 62 = .ok (.getfield 39, 3) := by decide +kernel
theorem dd272_65 : decode cX13_item 65 = .ok (.iload_n 1, 1) := by decide +kernel
theorem dd272_66 : decode cX13_item 66 = .ok (.iaload, 1) := by decide +kernel
theorem dd272_67 : decode cX13_item 67 = .ok (.iaload, 1) := by decide +kernel
theorem dd272_68 : decode cX13_item 68 = .ok (.ireturn, 1) := by decide +kernel
theorem dd272_69 : decode cX13_item 69 = .ok (.iload_n 3, 1) := by decide +kernel
theorem dd272_70 : decode cX13_item 70 = .ok (.ifCond .eq 32, 3) := by decide +kernel
theorem dd272_73 : decode cX13_item 73 = .ok (.aload_n 0, 1) := by decide +kernel
theorem dd272_74 : decode cX13_item 74 = .ok (.getfield 39, 3) := by decide +kernel
theorem dd272_77 : decode cX13_item 77 = .ok (.iload_n 1, 1) := by decide +kernel
theorem dd272_78 : decode cX13_item 78 = .ok (.iaload, 1) := by decide +kernel
theorem dd272_79 : decode cX13_item 79 = .ok (.iconst (-1), 1) := by decide +kernel
theorem dd272_80 : decode cX13_item 80 = .ok (.if_icmp .eq 22, 3) := by decide +kernel
theorem dd272_83 : decode cX13_item 83 = .ok (.iload_n 2, 1) := by decide +kernel
theorem dd272_84 : decode cX13_item 84 = .ok (.ifCond .lt 18, 3) := by decide +kernel
theorem dd272_87 : decode cX13_item 87 = .ok (.iload_n 2, 1) := by decide +kernel
theorem dd272_88 : decode cX13_item 88 = .ok (.aload_n 0, 1) := by decide +kernel
theorem dd272_89 : decode cX13_item 89 = .ok (.getfield 42, 3) := by decide +kernel
theorem dd272_92 : decode cX13_item 92 = .ok (.aload_n 0, 1) := by decide +kernel
theorem dd272_93 : decode cX13_item 93 = .ok (.getfield 39, 3) := by decide +kernel
theorem dd272_96 : decode cX13_item 96 = .ok (.iload_n 1, 1) := by decide +kernel
theorem dd272_97 : decode cX13_item 97 = .ok (.iaload, 1) := by decide +kernel
theorem dd272_98 : decode cX13_item 98 = .ok (.iaload, 1) := by decide +kernel
theorem dd272_99 : decode cX13_item 99 = .ok (.if_icmp .lt 7, 3) := by decide +kernel
theorem dd272_102 : decode cX13_item 102 = .ok (.iconst 0, 1) := by decide +kernel
theorem dd272_103 : decode cX13_item 103 = .ok (.goto 19, 3) := by decide +kernel
theorem dd272_106 : decode cX13_item 106 = .ok (.aload_n 0, 1) := by decide +kernel
theorem dd272_107 : decode cX13_item 107 = .ok (.getfield 45, 3) := by decide +kernel
theorem dd272_110 : decode cX13_item 110 = .ok (.bipush 20, 2) := by decide +kernel
theorem dd272_112 : decode cX13_item 112 = .ok (.aload_n 0, 1) := by decide +kernel
theorem dd272_113 : decode cX13_item 113 = .ok (.getfield 39, 3) := by decide +kernel
theorem dd272_116 : decode cX13_item 116 = .ok (.iload_n 1, 1) := by decide +kernel
theorem dd272_117 : decode cX13_item 117 = .ok (.iaload, 1) := by decide +kernel
theorem dd272_118 : decode cX13_item 118 = .ok (.imul, 1) := by decide +kernel
theorem dd272_119 : decode cX13_item 119 = .ok (.iload_n 2, 1) := by decide +kernel
theorem dd272_120 : decode cX13_item 120 = .ok (.iadd, 1) := by decide +kernel
theorem dd272_121 : decode cX13_item 121 = .ok (.iaload, 1) := by decide +kernel
theorem dd272_122 : decode cX13_item 122 = .ok (.ireturn, 1) := by decide +kernel
def f272_102 (n : Nat) (s : zσ) : Option (Int32 × zσ) :=
    some ((0 : Int32), s)
set_option maxRecDepth 20000 in
theorem f272_102_ok {n d : Nat} {s : zσ} {v : Int32} {s2 : zσ} (hd : 0 ≤ d) (h : f272_102 n s = some (v, s2)) {w : zσ} {fz : Bool} {L : Nat} {xs : Nat → Int32} : zGo (zX fz L xs) d q_272 (102, [], [], zmk w s, 0, 0) (some (.int v), zmk w s2, 0, 0) := by
  unfold f272_102 at h
  refine zGo_s (pc' := 103) (st' := [.int (0 : Int32)]) dd272_102 rfl ?_
  refine zGo_s (pc' := 122) (st' := [.int (0 : Int32)]) dd272_103 rfl ?_
  obtain ⟨rfl, rfl⟩ := oret h
  exact zGo_ret dd272_122 rfl rfl
def f272_29 (n : Nat) (x1 : Int32) (x2 : Int32) (y0 : Int32) (s : zσ) : Option (Int32 × zσ) :=
    if x2 = (-1 : Int32) then
    if y0 = (0 : Int32) then
    some ((0 : Int32), s)
    else if zin? x1 4 = true then
    if (s.1 1208 (nx x1)) = (-1 : Int32) then
    some ((-1 : Int32), s)
    else if zin? x1 4 = true then
    if zin? (s.1 1208 (nx x1)) 5 = true then
    some ((s.1 1209 (nx (s.1 1208 (nx x1)))), s)
    else none
    else none
    else none
    else if y0 = (0 : Int32) then
    f272_102 n s
    else if zin? x1 4 = true then
    if (s.1 1208 (nx x1)) = (-1 : Int32) then
    f272_102 n s
    else if x2 < (0 : Int32) then
    f272_102 n s
    else if zin? x1 4 = true then
    if zin? (s.1 1208 (nx x1)) 5 = true then
    if x2 < (s.1 1209 (nx (s.1 1208 (nx x1)))) then
    if zin? x1 4 = true then
    if zin? (((20 : Int32) * (s.1 1208 (nx x1))) + x2) 100 = true then
    some ((s.1 1210 (nx (((20 : Int32) * (s.1 1208 (nx x1))) + x2))), s)
    else none
    else none
    else f272_102 n s
    else none
    else none
    else none
set_option maxRecDepth 20000 in
theorem f272_29_ok {n d : Nat} {x1 : Int32} {x2 : Int32} {y0 : Int32} {s : zσ} {v : Int32} {s2 : zσ} (hd : 0 ≤ d) (h : f272_29 n x1 x2 y0 s = some (v, s2)) {w : zσ} {fz : Bool} {L : Nat} {xs : Nat → Int32} : zGo (zX fz L xs) d q_272 (29, [(0, .ref 1132), (1, .int x1), (2, .int x2)], [.int y0], zmk w s, 0, 0) (some (.int v), zmk w s2, 0, 0) := by
  unfold f272_29 at h
  refine zGo_s (pc' := 30) (st' := []) (lv' := [(3, .int y0), (0, .ref 1132), (1, .int x1), (2, .int x2)]) dd272_29 rfl ?_
  refine zGo_s (pc' := 31) (st' := [.int x2]) dd272_30 rfl ?_
  refine zGo_s (pc' := 32) (st' := [.int (-1 : Int32), .int x2]) dd272_31 rfl ?_
  rcases oite h with ⟨hc, h⟩ | ⟨hc, h⟩
  · refine zIF dd272_32 (kNeF hc) ?_
    refine zGo_s (pc' := 36) (st' := [.int y0]) dd272_35 rfl ?_
    rcases oite h with ⟨hc, h⟩ | ⟨hc, h⟩
    · refine zUF dd272_36 (kNeF hc) ?_
      refine zGo_s (pc' := 40) (st' := [.int (0 : Int32)]) dd272_39 rfl ?_
      refine zGo_s (pc' := 68) (st' := [.int (0 : Int32)]) dd272_40 rfl ?_
      obtain ⟨rfl, rfl⟩ := oret h
      exact zGo_ret dd272_68 rfl rfl
    · refine zUT dd272_36 rfl (kNeT hc) ?_
      refine zGo_s (pc' := 44) (st' := [.ref 1132]) dd272_43 rfl ?_
      refine mGF (e := 1208) dd272_44 rfl rfl rfl rfl rfl ?_
      refine zGo_s (pc' := 48) (st' := [.int x1, .ref 1208]) dd272_47 rfl ?_
      obtain ⟨hi, h⟩ := ochk h
      refine mIA dd272_48 rfl rfl hi ?_
      refine zGo_s (pc' := 50) (st' := [.int (-1 : Int32), .int (s.1 1208 (nx x1))]) dd272_49 rfl ?_
      rcases oite h with ⟨hc, h⟩ | ⟨hc, h⟩
      · refine zIF dd272_50 (kNeF hc) ?_
        refine zGo_s (pc' := 54) (st' := [.int (-1 : Int32)]) dd272_53 rfl ?_
        refine zGo_s (pc' := 68) (st' := [.int (-1 : Int32)]) dd272_54 rfl ?_
        obtain ⟨rfl, rfl⟩ := oret h
        exact zGo_ret dd272_68 rfl rfl
      · refine zIT dd272_50 rfl (kNeT hc) ?_
        refine zGo_s (pc' := 58) (st' := [.ref 1132]) dd272_57 rfl ?_
        refine mGF (e := 1209) dd272_58 rfl rfl rfl rfl rfl ?_
        refine zGo_s (pc' := 62) (st' := [.ref 1132, .ref 1209]) dd272_61 rfl ?_
        refine mGF (e := 1208) dd272_62 rfl rfl rfl rfl rfl ?_
        refine zGo_s (pc' := 66) (st' := [.int x1, .ref 1208, .ref 1209]) dd272_65 rfl ?_
        obtain ⟨hi, h⟩ := ochk h
        refine mIA dd272_66 rfl rfl hi ?_
        obtain ⟨hi, h⟩ := ochk h
        refine mIA dd272_67 rfl rfl hi ?_
        obtain ⟨rfl, rfl⟩ := oret h
        exact zGo_ret dd272_68 rfl rfl
  · refine zIT dd272_32 rfl (kNeT hc) ?_
    refine zGo_s (pc' := 70) (st' := [.int y0]) dd272_69 rfl ?_
    rcases oite h with ⟨hc, h⟩ | ⟨hc, h⟩
    · refine zUT dd272_70 rfl (kEqT hc) ?_
      exact zGo_lv (lv := []) ⟨by simp, by simp, by simp⟩ (f272_102_ok hd h)
    · refine zUF dd272_70 (kEqF hc) ?_
      refine zGo_s (pc' := 74) (st' := [.ref 1132]) dd272_73 rfl ?_
      refine mGF (e := 1208) dd272_74 rfl rfl rfl rfl rfl ?_
      refine zGo_s (pc' := 78) (st' := [.int x1, .ref 1208]) dd272_77 rfl ?_
      obtain ⟨hi, h⟩ := ochk h
      refine mIA dd272_78 rfl rfl hi ?_
      refine zGo_s (pc' := 80) (st' := [.int (-1 : Int32), .int (s.1 1208 (nx x1))]) dd272_79 rfl ?_
      rcases oite h with ⟨hc, h⟩ | ⟨hc, h⟩
      · refine zIT dd272_80 rfl (kEqT hc) ?_
        exact zGo_lv (lv := []) ⟨by simp, by simp, by simp⟩ (f272_102_ok hd h)
      · refine zIF dd272_80 (kEqF hc) ?_
        refine zGo_s (pc' := 84) (st' := [.int x2]) dd272_83 rfl ?_
        rcases oite h with ⟨hc, h⟩ | ⟨hc, h⟩
        · refine zUT dd272_84 rfl (kLtT hc) ?_
          exact zGo_lv (lv := []) ⟨by simp, by simp, by simp⟩ (f272_102_ok hd h)
        · refine zUF dd272_84 (kLtF hc) ?_
          refine zGo_s (pc' := 88) (st' := [.int x2]) dd272_87 rfl ?_
          refine zGo_s (pc' := 89) (st' := [.ref 1132, .int x2]) dd272_88 rfl ?_
          refine mGF (e := 1209) dd272_89 rfl rfl rfl rfl rfl ?_
          refine zGo_s (pc' := 93) (st' := [.ref 1132, .ref 1209, .int x2]) dd272_92 rfl ?_
          refine mGF (e := 1208) dd272_93 rfl rfl rfl rfl rfl ?_
          refine zGo_s (pc' := 97) (st' := [.int x1, .ref 1208, .ref 1209, .int x2]) dd272_96 rfl ?_
          obtain ⟨hi, h⟩ := ochk h
          refine mIA dd272_97 rfl rfl hi ?_
          obtain ⟨hi, h⟩ := ochk h
          refine mIA dd272_98 rfl rfl hi ?_
          rcases oite h with ⟨hc, h⟩ | ⟨hc, h⟩
          · refine zIT dd272_99 rfl (kLtT hc) ?_
            refine zGo_s (pc' := 107) (st' := [.ref 1132]) dd272_106 rfl ?_
            refine mGF (e := 1210) dd272_107 rfl rfl rfl rfl rfl ?_
            refine zGo_s (pc' := 112) (st' := [.int (20 : Int32), .ref 1210]) dd272_110 rfl ?_
            refine zGo_s (pc' := 113) (st' := [.ref 1132, .int (20 : Int32), .ref 1210]) dd272_112 rfl ?_
            refine mGF (e := 1208) dd272_113 rfl rfl rfl rfl rfl ?_
            refine zGo_s (pc' := 117) (st' := [.int x1, .ref 1208, .int (20 : Int32), .ref 1210]) dd272_116 rfl ?_
            obtain ⟨hi, h⟩ := ochk h
            refine mIA dd272_117 rfl rfl hi ?_
            refine zGo_s (pc' := 119) (st' := [.int ((20 : Int32) * (s.1 1208 (nx x1))), .ref 1210]) dd272_118 rfl ?_
            refine zGo_s (pc' := 120) (st' := [.int x2, .int ((20 : Int32) * (s.1 1208 (nx x1))), .ref 1210]) dd272_119 rfl ?_
            refine zGo_s (pc' := 121) (st' := [.int (((20 : Int32) * (s.1 1208 (nx x1))) + x2), .ref 1210]) dd272_120 rfl ?_
            obtain ⟨hi, h⟩ := ochk h
            refine mIA dd272_121 rfl rfl hi ?_
            obtain ⟨rfl, rfl⟩ := oret h
            exact zGo_ret dd272_122 rfl rfl
          · refine zIF dd272_99 (kLtF hc) ?_
            exact zGo_lv (lv := []) ⟨by simp, by simp, by simp⟩ (f272_102_ok hd h)
def f272_28 (n : Nat) (x1 : Int32) (x2 : Int32) (s : zσ) : Option (Int32 × zσ) :=
    f272_29 n x1 x2 (0 : Int32) s
set_option maxRecDepth 20000 in
theorem f272_28_ok {n d : Nat} {x1 : Int32} {x2 : Int32} {s : zσ} {v : Int32} {s2 : zσ} (hd : 0 ≤ d) (h : f272_28 n x1 x2 s = some (v, s2)) {w : zσ} {fz : Bool} {L : Nat} {xs : Nat → Int32} : zGo (zX fz L xs) d q_272 (28, [(0, .ref 1132), (1, .int x1), (2, .int x2)], [], zmk w s, 0, 0) (some (.int v), zmk w s2, 0, 0) := by
  unfold f272_28 at h
  refine zGo_s (pc' := 29) (st' := [.int (0 : Int32)]) dd272_28 rfl ?_
  exact f272_29_ok hd h
def f272 (n : Nat) (x1 : Int32) (x2 : Int32) (s : zσ) : Option (Int32 × zσ) :=
    if (s.1 1132 17) = (0 : Int32) then
    f272_28 n x1 x2 s
    else if x1 < (0 : Int32) then
    f272_28 n x1 x2 s
    else zrd 12 (s.2.2 1132 11) fun a1 =>
    if zin? (1 : Int32) 9 = true then
    if x1 < (s.1 (a1 + 4) (nx (1 : Int32))) then
    f272_29 n x1 x2 (1 : Int32) s
    else f272_28 n x1 x2 s
    else none
set_option maxRecDepth 20000 in
theorem f272_ok {n d : Nat} {x1 : Int32} {x2 : Int32} {s : zσ} {v : Int32} {s2 : zσ} (hd : 0 ≤ d) (h : f272 n x1 x2 s = some (v, s2)) {w : zσ} {fz : Bool} {L : Nat} {xs : Nat → Int32} : zGo (zX fz L xs) d q_272 (0, [(0, .ref 1132), (1, .int x1), (2, .int x2)], [], zmk w s, 0, 0) (some (.int v), zmk w s2, 0, 0) := by
  unfold f272 at h
  refine zGo_s (pc' := 1) (st' := [.ref 1132]) dd272_0 rfl ?_
  refine mGI dd272_1 rfl rfl rfl rfl ?_
  rcases oite h with ⟨hc, h⟩ | ⟨hc, h⟩
  · refine zUT dd272_4 rfl (kEqT hc) ?_
    exact f272_28_ok hd h
  · refine zUF dd272_4 (kEqF hc) ?_
    refine zGo_s (pc' := 8) (st' := [.int x1]) dd272_7 rfl ?_
    rcases oite h with ⟨hc, h⟩ | ⟨hc, h⟩
    · refine zUT dd272_8 rfl (kLtT hc) ?_
      exact f272_28_ok hd h
    · refine zUF dd272_8 (kLtF hc) ?_
      refine zGo_s (pc' := 12) (st' := [.int x1]) dd272_11 rfl ?_
      refine zGo_s (pc' := 13) (st' := [.ref 1132, .int x1]) dd272_12 rfl ?_
      obtain ⟨a1, e_a1, c_a1, h⟩ := ordd h
      refine mGR dd272_13 rfl rfl rfl rfl e_a1 ?_
      refine mGF (e := (a1 + 4)) dd272_16 rfl (ck12_s c_a1).1 (ck12_s c_a1).2 rfl (cf12_4 c_a1).1 ?_
      refine zGo_s (pc' := 20) (st' := [.int (1 : Int32), .ref (a1 + 4), .int x1]) dd272_19 rfl ?_
      obtain ⟨hi, h⟩ := ochk h
      refine mIA dd272_20 (cf12_4 c_a1).2.1 (cf12_4 c_a1).2.2 hi ?_
      rcases oite h with ⟨hc, h⟩ | ⟨hc, h⟩
      · refine zIF dd272_21 (kGeF hc) ?_
        refine zGo_s (pc' := 25) (st' := [.int (1 : Int32)]) dd272_24 rfl ?_
        refine zGo_s (pc' := 29) (st' := [.int (1 : Int32)]) dd272_25 rfl ?_
        exact f272_29_ok hd h
      · refine zIT dd272_21 rfl (kGeT hc) ?_
        exact f272_28_ok hd h
/-! PHModel.one(II)I -/
theorem dd273_0 : decode cX13_one 0 = .ok (.aload_n 0, 1) := by decide +kernel
theorem dd273_1 : decode cX13_one 1 = .ok (.getfield 557, 3) := by decide +kernel
theorem dd273_4 : decode cX13_one 4 = .ok (.ifCond .ne 6, 3) := by decide +kernel
theorem dd273_7 : decode cX13_one 7 = .ok (.bipush (-3), 2) := by decide +kernel
theorem dd273_9 : decode cX13_one 9 = .ok (.ireturn, 1) := by decide +kernel
theorem dd273_10 : decode cX13_one 10 = .ok (.iload_n 1, 1) := by decide +kernel
theorem dd273_11 : decode cX13_one 11 = .ok (.ifCond .lt 33, 3) := by decide +kernel
theorem dd273_14 : decode cX13_one 14 = .ok (.iload_n 1, 1) := by decide +kernel
theorem dd273_15 : decode cX13_one 15 = .ok (.aload_n 0, 1) := by decide +kernel
theorem dd273_16 : decode cX13_one 16 = .ok (.getfield 20, 3) := by decide +kernel
theorem dd273_19 : decode cX13_one 19 = .ok (.getfield 270, 3) := by decide +kernel
theorem dd273_22 : decode cX13_one 22 = .ok (.iconst 1, 1) := by decide +kernel
theorem dd273_23 : decode cX13_one 23 = .ok (.iaload, 1) := by decide +kernel
theorem dd273_24 : decode cX13_one 24 = .ok (.if_icmp .ge 20, 3) := by decide +kernel
theorem dd273_27 : decode cX13_one 27 = .ok (.iload_n 2, 1) := by decide +kernel
theorem dd273_28 : decode cX13_one 28 = .ok (.ifCond .lt 16, 3) := by decide +kernel
theorem dd273_31 : decode cX13_one 31 = .ok (.iload_n 2, 1) := by decide +kernel
theorem dd273_32 : decode cX13_one 32 = .ok (.aload_n 0, 1) := by decide +kernel
theorem dd273_33 : decode cX13_one 33 = .ok (.getfield 20, 3) := by decide +kernel
theorem dd273_36 : decode cX13_one 36 = .ok (.getfield 270, 3) := by decide +kernel
theorem dd273_39 : decode cX13_one 39 = .ok (.iconst 1, 1) := by decide +kernel
theorem dd273_40 : decode cX13_one 40 = .ok (.iaload, 1) := by decide +kernel
theorem dd273_41 : decode cX13_one 41 = .ok (.if_icmp .lt 5, 3) := by decide +kernel
theorem dd273_44 : decode cX13_one 44 = .ok (.iconst (-1), 1) := by decide +kernel
theorem dd273_45 : decode cX13_one 45 = .ok (.ireturn, 1) := by decide +kernel
theorem dd273_46 : decode cX13_one 46 = .ok (.aload_n 0, 1) := by decide +kernel
theorem dd273_47 : decode cX13_one 47 = .ok (.getfield 39, 3) := by decide +kernel
theorem dd273_50 : decode cX13_one 50 = .ok (.iload_n 1, 1) := by decide +kernel
theorem dd273_51 : decode cX13_one 51 = .ok (.iaload, 1) := by decide +kernel
theorem dd273_52 : decode cX13_one 52 = .ok (.aload_n 0, 1) := by decide +kernel
theorem dd273_53 : decode cX13_one 53 = .ok (.getfield 39, 3) := by decide +kernel
theorem dd273_56 : decode cX13_one 56 = .ok (.iload_n 2, 1) := by decide +kernel
theorem dd273_57 : decode cX13_one 57 = .ok (.iaload, 1) := by decide +kernel
theorem dd273_58 : decode cX13_one 58 = .ok (.if_icmp .ne 7, 3) := by decide +kernel
theorem dd273_61 : decode cX13_one 61 = .ok (.iconst 1, 1) := by decide +kernel
theorem dd273_62 : decode cX13_one 62 = .ok (.goto 4, 3) := by decide +kernel
theorem dd273_65 : decode cX13_one 65 = .ok (.iconst 0, 1) := by decide +kernel
theorem dd273_66 : decode cX13_one 66 = .ok (.ireturn, 1) := by decide +kernel
def f273 (n : Nat) (x1 : Int32) (x2 : Int32) (s : zσ) : Option (Int32 × zσ) :=
    if (s.1 1132 17) = (0 : Int32) then
    some ((-3 : Int32), s)
    else if x1 < (0 : Int32) then
    some ((-1 : Int32), s)
    else zrd 12 (s.2.2 1132 11) fun a1 =>
    if zin? (1 : Int32) 9 = true then
    if x1 < (s.1 (a1 + 4) (nx (1 : Int32))) then
    if x2 < (0 : Int32) then
    some ((-1 : Int32), s)
    else zrd 12 (s.2.2 1132 11) fun a2 =>
    if zin? (1 : Int32) 9 = true then
    if x2 < (s.1 (a2 + 4) (nx (1 : Int32))) then
    if zin? x1 4 = true then
    if zin? x2 4 = true then
    if (s.1 1208 (nx x1)) = (s.1 1208 (nx x2)) then
    some ((1 : Int32), s)
    else some ((0 : Int32), s)
    else none
    else none
    else some ((-1 : Int32), s)
    else none
    else some ((-1 : Int32), s)
    else none
set_option maxRecDepth 20000 in
theorem f273_ok {n d : Nat} {x1 : Int32} {x2 : Int32} {s : zσ} {v : Int32} {s2 : zσ} (hd : 0 ≤ d) (h : f273 n x1 x2 s = some (v, s2)) {w : zσ} {fz : Bool} {L : Nat} {xs : Nat → Int32} : zGo (zX fz L xs) d q_273 (0, [(0, .ref 1132), (1, .int x1), (2, .int x2)], [], zmk w s, 0, 0) (some (.int v), zmk w s2, 0, 0) := by
  unfold f273 at h
  refine zGo_s (pc' := 1) (st' := [.ref 1132]) dd273_0 rfl ?_
  refine mGI dd273_1 rfl rfl rfl rfl ?_
  rcases oite h with ⟨hc, h⟩ | ⟨hc, h⟩
  · refine zUF dd273_4 (kNeF hc) ?_
    refine zGo_s (pc' := 9) (st' := [.int (-3 : Int32)]) dd273_7 rfl ?_
    obtain ⟨rfl, rfl⟩ := oret h
    exact zGo_ret dd273_9 rfl rfl
  · refine zUT dd273_4 rfl (kNeT hc) ?_
    refine zGo_s (pc' := 11) (st' := [.int x1]) dd273_10 rfl ?_
    rcases oite h with ⟨hc, h⟩ | ⟨hc, h⟩
    · refine zUT dd273_11 rfl (kLtT hc) ?_
      refine zGo_s (pc' := 45) (st' := [.int (-1 : Int32)]) dd273_44 rfl ?_
      obtain ⟨rfl, rfl⟩ := oret h
      exact zGo_ret dd273_45 rfl rfl
    · refine zUF dd273_11 (kLtF hc) ?_
      refine zGo_s (pc' := 15) (st' := [.int x1]) dd273_14 rfl ?_
      refine zGo_s (pc' := 16) (st' := [.ref 1132, .int x1]) dd273_15 rfl ?_
      obtain ⟨a1, e_a1, c_a1, h⟩ := ordd h
      refine mGR dd273_16 rfl rfl rfl rfl e_a1 ?_
      refine mGF (e := (a1 + 4)) dd273_19 rfl (ck12_s c_a1).1 (ck12_s c_a1).2 rfl (cf12_4 c_a1).1 ?_
      refine zGo_s (pc' := 23) (st' := [.int (1 : Int32), .ref (a1 + 4), .int x1]) dd273_22 rfl ?_
      obtain ⟨hi, h⟩ := ochk h
      refine mIA dd273_23 (cf12_4 c_a1).2.1 (cf12_4 c_a1).2.2 hi ?_
      rcases oite h with ⟨hc, h⟩ | ⟨hc, h⟩
      · refine zIF dd273_24 (kGeF hc) ?_
        refine zGo_s (pc' := 28) (st' := [.int x2]) dd273_27 rfl ?_
        rcases oite h with ⟨hc, h⟩ | ⟨hc, h⟩
        · refine zUT dd273_28 rfl (kLtT hc) ?_
          refine zGo_s (pc' := 45) (st' := [.int (-1 : Int32)]) dd273_44 rfl ?_
          obtain ⟨rfl, rfl⟩ := oret h
          exact zGo_ret dd273_45 rfl rfl
        · refine zUF dd273_28 (kLtF hc) ?_
          refine zGo_s (pc' := 32) (st' := [.int x2]) dd273_31 rfl ?_
          refine zGo_s (pc' := 33) (st' := [.ref 1132, .int x2]) dd273_32 rfl ?_
          obtain ⟨a2, e_a2, c_a2, h⟩ := ordd h
          refine mGR dd273_33 rfl rfl rfl rfl e_a2 ?_
          refine mGF (e := (a2 + 4)) dd273_36 rfl (ck12_s c_a2).1 (ck12_s c_a2).2 rfl (cf12_4 c_a2).1 ?_
          refine zGo_s (pc' := 40) (st' := [.int (1 : Int32), .ref (a2 + 4), .int x2]) dd273_39 rfl ?_
          obtain ⟨hi, h⟩ := ochk h
          refine mIA dd273_40 (cf12_4 c_a2).2.1 (cf12_4 c_a2).2.2 hi ?_
          rcases oite h with ⟨hc, h⟩ | ⟨hc, h⟩
          · refine zIT dd273_41 rfl (kLtT hc) ?_
            refine zGo_s (pc' := 47) (st' := [.ref 1132]) dd273_46 rfl ?_
            refine mGF (e := 1208) dd273_47 rfl rfl rfl rfl rfl ?_
            refine zGo_s (pc' := 51) (st' := [.int x1, .ref 1208]) dd273_50 rfl ?_
            obtain ⟨hi, h⟩ := ochk h
            refine mIA dd273_51 rfl rfl hi ?_
            refine zGo_s (pc' := 53) (st' := [.ref 1132, .int (s.1 1208 (nx x1))]) dd273_52 rfl ?_
            refine mGF (e := 1208) dd273_53 rfl rfl rfl rfl rfl ?_
            refine zGo_s (pc' := 57) (st' := [.int x2, .ref 1208, .int (s.1 1208 (nx x1))]) dd273_56 rfl ?_
            obtain ⟨hi, h⟩ := ochk h
            refine mIA dd273_57 rfl rfl hi ?_
            rcases oite h with ⟨hc, h⟩ | ⟨hc, h⟩
            · refine zIF dd273_58 (kNeF hc) ?_
              refine zGo_s (pc' := 62) (st' := [.int (1 : Int32)]) dd273_61 rfl ?_
              refine zGo_s (pc' := 66) (st' := [.int (1 : Int32)]) dd273_62 rfl ?_
              obtain ⟨rfl, rfl⟩ := oret h
              exact zGo_ret dd273_66 rfl rfl
            · refine zIT dd273_58 rfl (kNeT hc) ?_
              refine zGo_s (pc' := 66) (st' := [.int (0 : Int32)]) dd273_65 rfl ?_
              obtain ⟨rfl, rfl⟩ := oret h
              exact zGo_ret dd273_66 rfl rfl
          · refine zIF dd273_41 (kLtF hc) ?_
            refine zGo_s (pc' := 45) (st' := [.int (-1 : Int32)]) dd273_44 rfl ?_
            obtain ⟨rfl, rfl⟩ := oret h
            exact zGo_ret dd273_45 rfl rfl
      · refine zIT dd273_24 rfl (kGeT hc) ?_
        refine zGo_s (pc' := 45) (st' := [.int (-1 : Int32)]) dd273_44 rfl ?_
        obtain ⟨rfl, rfl⟩ := oret h
        exact zGo_ret dd273_45 rfl rfl
/-! PHModel.sema(I)I -/
theorem dd274_0 : decode cX13_sema 0 = .ok (.aload_n 0, 1) := by decide +kernel
theorem dd274_1 : decode cX13_sema 1 = .ok (.getfield 557, 3) := by decide +kernel
theorem dd274_4 : decode cX13_sema 4 = .ok (.ifCond .ne 8, 3) := by decide +kernel
theorem dd274_7 : decode cX13_sema 7 = .ok (.bipush (-3), 2) := by decide +kernel
theorem dd274_9 : decode cX13_sema 9 = .ok (.goto 30, 3) := by decide +kernel
theorem dd274_12 : decode cX13_sema 12 = .ok (.iload_n 1, 1) := by decide +kernel
theorem dd274_13 : decode cX13_sema 13 = .ok (.ifCond .lt 16, 3) := by decide +kernel
theorem dd274_16 : decode cX13_sema 16 = .ok (.iload_n 1, 1) := by decide +kernel
theorem dd274_17 : decode cX13_sema 17 = .ok (.aload_n 0, 1) := by decide +kernel
theorem dd274_18 : decode cX13_sema 18 = .ok (.getfield 20, 3) := by decide +kernel
theorem dd274_21 : decode cX13_sema 21 = .ok (.getfield 270, 3) := by decide +kernel
theorem dd274_24 : decode cX13_sema 24 = .ok (.iconst 2, 1) := by decide +kernel
theorem dd274_25 : decode cX13_sema 25 = .ok (.iaload, 1) := by decide +kernel
theorem dd274_26 : decode cX13_sema 26 = .ok (.if_icmp .lt 7, 3) := by decide +kernel
theorem dd274_29 : decode cX13_sema 29 = .ok (.iconst (-1), 1) := by decide +kernel
theorem dd274_30 : decode cX13_sema 30 = .ok (.goto 9, 3) := by decide +kernel
theorem dd274_33 : decode cX13_sema 33 = .ok (.aload_n 0, 1) := by decide +kernel
theorem dd274_34 : decode cX13_sema 34 = .ok (.getfield 48, 3) := by decide +kernel
theorem dd274_37 : decode cX13_sema 37 = .ok (.iload_n 1, 1) := by decide +kernel
theorem dd274_38 : decode cX13_sema 38 = .ok (.iaload, 1) := by decide +kernel
theorem dd274_39 : decode cX13_sema 39 = .ok (.ireturn, 1) := by decide +kernel
def f274_29 (n : Nat) (s : zσ) : Option (Int32 × zσ) :=
    some ((-1 : Int32), s)
set_option maxRecDepth 20000 in
theorem f274_29_ok {n d : Nat} {s : zσ} {v : Int32} {s2 : zσ} (hd : 0 ≤ d) (h : f274_29 n s = some (v, s2)) {w : zσ} {fz : Bool} {L : Nat} {xs : Nat → Int32} : zGo (zX fz L xs) d q_274 (29, [], [], zmk w s, 0, 0) (some (.int v), zmk w s2, 0, 0) := by
  unfold f274_29 at h
  refine zGo_s (pc' := 30) (st' := [.int (-1 : Int32)]) dd274_29 rfl ?_
  refine zGo_s (pc' := 39) (st' := [.int (-1 : Int32)]) dd274_30 rfl ?_
  obtain ⟨rfl, rfl⟩ := oret h
  exact zGo_ret dd274_39 rfl rfl
def f274 (n : Nat) (x1 : Int32) (s : zσ) : Option (Int32 × zσ) :=
    if (s.1 1132 17) = (0 : Int32) then
    some ((-3 : Int32), s)
    else if x1 < (0 : Int32) then
    f274_29 n s
    else zrd 12 (s.2.2 1132 11) fun a1 =>
    if zin? (2 : Int32) 9 = true then
    if x1 < (s.1 (a1 + 4) (nx (2 : Int32))) then
    if zin? x1 4 = true then
    some ((s.1 1211 (nx x1)), s)
    else none
    else f274_29 n s
    else none
set_option maxRecDepth 20000 in
theorem f274_ok {n d : Nat} {x1 : Int32} {s : zσ} {v : Int32} {s2 : zσ} (hd : 0 ≤ d) (h : f274 n x1 s = some (v, s2)) {w : zσ} {fz : Bool} {L : Nat} {xs : Nat → Int32} : zGo (zX fz L xs) d q_274 (0, [(0, .ref 1132), (1, .int x1)], [], zmk w s, 0, 0) (some (.int v), zmk w s2, 0, 0) := by
  unfold f274 at h
  refine zGo_s (pc' := 1) (st' := [.ref 1132]) dd274_0 rfl ?_
  refine mGI dd274_1 rfl rfl rfl rfl ?_
  rcases oite h with ⟨hc, h⟩ | ⟨hc, h⟩
  · refine zUF dd274_4 (kNeF hc) ?_
    refine zGo_s (pc' := 9) (st' := [.int (-3 : Int32)]) dd274_7 rfl ?_
    refine zGo_s (pc' := 39) (st' := [.int (-3 : Int32)]) dd274_9 rfl ?_
    obtain ⟨rfl, rfl⟩ := oret h
    exact zGo_ret dd274_39 rfl rfl
  · refine zUT dd274_4 rfl (kNeT hc) ?_
    refine zGo_s (pc' := 13) (st' := [.int x1]) dd274_12 rfl ?_
    rcases oite h with ⟨hc, h⟩ | ⟨hc, h⟩
    · refine zUT dd274_13 rfl (kLtT hc) ?_
      exact zGo_lv (lv := []) ⟨by simp, by simp, by simp⟩ (f274_29_ok hd h)
    · refine zUF dd274_13 (kLtF hc) ?_
      refine zGo_s (pc' := 17) (st' := [.int x1]) dd274_16 rfl ?_
      refine zGo_s (pc' := 18) (st' := [.ref 1132, .int x1]) dd274_17 rfl ?_
      obtain ⟨a1, e_a1, c_a1, h⟩ := ordd h
      refine mGR dd274_18 rfl rfl rfl rfl e_a1 ?_
      refine mGF (e := (a1 + 4)) dd274_21 rfl (ck12_s c_a1).1 (ck12_s c_a1).2 rfl (cf12_4 c_a1).1 ?_
      refine zGo_s (pc' := 25) (st' := [.int (2 : Int32), .ref (a1 + 4), .int x1]) dd274_24 rfl ?_
      obtain ⟨hi, h⟩ := ochk h
      refine mIA dd274_25 (cf12_4 c_a1).2.1 (cf12_4 c_a1).2.2 hi ?_
      rcases oite h with ⟨hc, h⟩ | ⟨hc, h⟩
      · refine zIT dd274_26 rfl (kLtT hc) ?_
        refine zGo_s (pc' := 34) (st' := [.ref 1132]) dd274_33 rfl ?_
        refine mGF (e := 1211) dd274_34 rfl rfl rfl rfl rfl ?_
        refine zGo_s (pc' := 38) (st' := [.int x1, .ref 1211]) dd274_37 rfl ?_
        obtain ⟨hi, h⟩ := ochk h
        refine mIA dd274_38 rfl rfl hi ?_
        obtain ⟨rfl, rfl⟩ := oret h
        exact zGo_ret dd274_39 rfl rfl
      · refine zIF dd274_26 (kLtF hc) ?_
        exact zGo_lv (lv := []) ⟨by simp, by simp, by simp⟩ (f274_29_ok hd h)
/-! PHModel.bolt(II)I -/
theorem dd275_0 : decode cX13_bolt 0 = .ok (.aload_n 0, 1) := by decide +kernel
theorem dd275_1 : decode cX13_bolt 1 = .ok (.getfield 557, 3) := by decide +kernel
theorem dd275_4 : decode cX13_bolt 4 = .ok (.ifCond .ne 6, 3) := by decide +kernel
theorem dd275_7 : decode cX13_bolt 7 = .ok (.bipush (-3), 2) := by decide +kernel
theorem dd275_9 : decode cX13_bolt 9 = .ok (.ireturn, 1) := by decide +kernel
theorem dd275_10 : decode cX13_bolt 10 = .ok (.iload_n 1, 1) := by decide +kernel
theorem dd275_11 : decode cX13_bolt 11 = .ok (.ifCond .lt 16, 3) := by decide +kernel
theorem dd275_14 : decode cX13_bolt 14 = .ok (.iload_n 1, 1) := by decide +kernel
theorem dd275_15 : decode cX13_bolt 15 = .ok (.aload_n 0, 1) := by decide +kernel
theorem dd275_16 : decode cX13_bolt 16 = .ok (.getfield 20, 3) := by decide +kernel
theorem dd275_19 : decode cX13_bolt 19 = .ok (.getfield 270, 3) := by decide +kernel
theorem dd275_22 : decode cX13_bolt 22 = .ok (.iconst 3, 1) := by decide +kernel
theorem dd275_23 : decode cX13_bolt 23 = .ok (.iaload, 1) := by decide +kernel
theorem dd275_24 : decode cX13_bolt 24 = .ok (.if_icmp .lt 5, 3) := by decide +kernel
theorem dd275_27 : decode cX13_bolt 27 = .ok (.iconst (-1), 1) := by decide +kernel
theorem dd275_28 : decode cX13_bolt 28 = .ok (.ireturn, 1) := by decide +kernel
theorem dd275_29 : decode cX13_bolt 29 = .ok (.iload_n 2, 1) := by decide +kernel
theorem dd275_30 : decode cX13_bolt 30 = .ok (.ifCond .ne 12, 3) := by decide +kernel
theorem dd275_33 : decode cX13_bolt 33 = .ok (.aload_n 0, 1) := by decide +kernel
theorem dd275_34 : decode cX13_bolt 34 = .ok (.getfield 51, 3) := by decide +kernel
theorem dd275_37 : decode cX13_bolt 37 = .ok (.iload_n 1, 1) := by decide +kernel
theorem dd275_38 : decode cX13_bolt 38 = .ok (.iaload, 1) := by decide +kernel
theorem dd275_39 : decode cX13_bolt 39 = .ok (.goto 49, 3) := by decide +kernel
theorem dd275_42 : decode cX13_bolt 42 = .ok (.iload_n 2, 1) := by decide +kernel
theorem dd275_43 : decode cX13_bolt 43 = .ok (.iconst 1, 1) := by decide +kernel
theorem dd275_44 : decode cX13_bolt 44 = .ok (.if_icmp .ne 11, 3) := by decide +kernel
theorem dd275_47 : decode cX13_bolt 47 = .ok (.aload_n 0, 1) := by decide +kernel
theorem dd275_48 : decode cX13_bolt 48 = .ok (.iload_n 1, 1) := by decide +kernel
theorem dd275_49 : decode cX13_bolt 49 = .ok (.invokevirtual 712, 3) := by decide +kernel
theorem dd275_52 : decode cX13_bolt 52 = .ok (.goto 36, 3) := by decide +kernel
theorem dd275_55 : decode cX13_bolt 55 = .ok (.iload_n 2, 1) := by decide +kernel
theorem dd275_56 : decode cX13_bolt 56 = .ok (.iconst 2, 1) := by decide +kernel
theorem dd275_57 : decode cX13_bolt 57 = .ok (.if_icmp .lt 29, 3) := by decide +kernel
theorem dd275_60 : decode cX13_bolt 60 = .ok (.iload_n 2, 1) := by decide +kernel
theorem dd275_61 : decode cX13_bolt 61 = .ok (.iconst 2, 1) := by decide +kernel
theorem dd275_62 : decode cX13_bolt 62 = .ok (.aload_n 0, 1) := by decide +kernel
theorem dd275_63 : decode cX13_bolt 63 = .ok (.invokevirtual 583, 3) := by decide +kernel
theorem dd275_66 : decode cX13_bolt 66 = .ok (.iadd, 1) := by decide +kernel
theorem dd275_67 : decode cX13_bolt 67 = .ok (.if_icmp .ge 19, 3) := by decide +kernel
theorem dd275_70 : decode cX13_bolt 70 = .ok (.aload_n 0, 1) := by decide +kernel
theorem dd275_71 : decode cX13_bolt 71 = .ok (.getfield 54, 3) := by decide +kernel
theorem dd275_74 : decode cX13_bolt 74 = .ok (.bipush 8, 2) := by decide +kernel
theorem dd275_76 : decode cX13_bolt 76 = .ok (.iload_n 1, 1) := by decide +kernel
theorem dd275_77 : decode cX13_bolt 77 = .ok (.imul, 1) := by decide +kernel
theorem dd275_78 : decode cX13_bolt 78 = .ok (.iload_n 2, 1) := by decide +kernel
theorem dd275_79 : decode cX13_bolt 79 = .ok (.iadd, 1) := by decide +kernel
theorem dd275_80 : decode cX13_bolt 80 = .ok (.iconst 2, 1) := by decide +kernel
theorem dd275_81 : decode cX13_bolt 81 = .ok (.isub, 1) := by decide +kernel
theorem dd275_82 : decode cX13_bolt 82 = .ok (.iaload, 1) := by decide +kernel
theorem dd275_83 : decode cX13_bolt 83 = .ok (.goto 5, 3) := by decide +kernel
theorem dd275_86 : decode cX13_bolt 86 = .ok (.bipush (-2), 2) := by decide +kernel
theorem dd275_88 : decode cX13_bolt 88 = .ok (.ireturn, 1) := by decide +kernel
def f275 (n : Nat) (x1 : Int32) (x2 : Int32) (s : zσ) : Option (Int32 × zσ) :=
    if (s.1 1132 17) = (0 : Int32) then
    some ((-3 : Int32), s)
    else if x1 < (0 : Int32) then
    some ((-1 : Int32), s)
    else zrd 12 (s.2.2 1132 11) fun a1 =>
    if zin? (3 : Int32) 9 = true then
    if x1 < (s.1 (a1 + 4) (nx (3 : Int32))) then
    if x2 = (0 : Int32) then
    if zin? x1 4 = true then
    some ((s.1 1212 (nx x1)), s)
    else none
    else if x2 = (1 : Int32) then
    yb1 (f233 n x1 s) fun v5 u4 =>
    some (v5, u4)
    else if x2 < (2 : Int32) then
    some ((-2 : Int32), s)
    else yb1 (f209 n s) fun v3 u2 =>
    if x2 < ((2 : Int32) + v3) then
    if zin? ((((8 : Int32) * x1) + x2) - (2 : Int32)) 32 = true then
    some ((u2.1 1213 (nx ((((8 : Int32) * x1) + x2) - (2 : Int32)))), u2)
    else none
    else some ((-2 : Int32), u2)
    else some ((-1 : Int32), s)
    else none
set_option maxRecDepth 20000 in
theorem f275_ok {n d : Nat} {x1 : Int32} {x2 : Int32} {s : zσ} {v : Int32} {s2 : zσ} (hd : 1 ≤ d) (h : f275 n x1 x2 s = some (v, s2)) {w : zσ} {fz : Bool} {L : Nat} {xs : Nat → Int32} : zGo (zX fz L xs) d q_275 (0, [(0, .ref 1132), (1, .int x1), (2, .int x2)], [], zmk w s, 0, 0) (some (.int v), zmk w s2, 0, 0) := by
  obtain ⟨d, rfl⟩ : ∃ d0, d = d0 + 1 := ⟨d - 1, by omega⟩
  unfold f275 at h
  refine zGo_s (pc' := 1) (st' := [.ref 1132]) dd275_0 rfl ?_
  refine mGI dd275_1 rfl rfl rfl rfl ?_
  rcases oite h with ⟨hc, h⟩ | ⟨hc, h⟩
  · refine zUF dd275_4 (kNeF hc) ?_
    refine zGo_s (pc' := 9) (st' := [.int (-3 : Int32)]) dd275_7 rfl ?_
    obtain ⟨rfl, rfl⟩ := oret h
    exact zGo_ret dd275_9 rfl rfl
  · refine zUT dd275_4 rfl (kNeT hc) ?_
    refine zGo_s (pc' := 11) (st' := [.int x1]) dd275_10 rfl ?_
    rcases oite h with ⟨hc, h⟩ | ⟨hc, h⟩
    · refine zUT dd275_11 rfl (kLtT hc) ?_
      refine zGo_s (pc' := 28) (st' := [.int (-1 : Int32)]) dd275_27 rfl ?_
      obtain ⟨rfl, rfl⟩ := oret h
      exact zGo_ret dd275_28 rfl rfl
    · refine zUF dd275_11 (kLtF hc) ?_
      refine zGo_s (pc' := 15) (st' := [.int x1]) dd275_14 rfl ?_
      refine zGo_s (pc' := 16) (st' := [.ref 1132, .int x1]) dd275_15 rfl ?_
      obtain ⟨a1, e_a1, c_a1, h⟩ := ordd h
      refine mGR dd275_16 rfl rfl rfl rfl e_a1 ?_
      refine mGF (e := (a1 + 4)) dd275_19 rfl (ck12_s c_a1).1 (ck12_s c_a1).2 rfl (cf12_4 c_a1).1 ?_
      refine zGo_s (pc' := 23) (st' := [.int (3 : Int32), .ref (a1 + 4), .int x1]) dd275_22 rfl ?_
      obtain ⟨hi, h⟩ := ochk h
      refine mIA dd275_23 (cf12_4 c_a1).2.1 (cf12_4 c_a1).2.2 hi ?_
      rcases oite h with ⟨hc, h⟩ | ⟨hc, h⟩
      · refine zIT dd275_24 rfl (kLtT hc) ?_
        refine zGo_s (pc' := 30) (st' := [.int x2]) dd275_29 rfl ?_
        rcases oite h with ⟨hc, h⟩ | ⟨hc, h⟩
        · refine zUF dd275_30 (kNeF hc) ?_
          refine zGo_s (pc' := 34) (st' := [.ref 1132]) dd275_33 rfl ?_
          refine mGF (e := 1212) dd275_34 rfl rfl rfl rfl rfl ?_
          refine zGo_s (pc' := 38) (st' := [.int x1, .ref 1212]) dd275_37 rfl ?_
          obtain ⟨hi, h⟩ := ochk h
          refine mIA dd275_38 rfl rfl hi ?_
          refine zGo_s (pc' := 88) (st' := [.int (s.1 1212 (nx x1))]) dd275_39 rfl ?_
          obtain ⟨rfl, rfl⟩ := oret h
          exact zGo_ret dd275_88 rfl rfl
        · refine zUT dd275_30 rfl (kNeT hc) ?_
          refine zGo_s (pc' := 43) (st' := [.int x2]) dd275_42 rfl ?_
          refine zGo_s (pc' := 44) (st' := [.int (1 : Int32), .int x2]) dd275_43 rfl ?_
          rcases oite h with ⟨hc, h⟩ | ⟨hc, h⟩
          · refine zIF dd275_44 (kNeF hc) ?_
            refine zGo_s (pc' := 48) (st' := [.ref 1132]) dd275_47 rfl ?_
            refine zGo_s (pc' := 49) (st' := [.int x1, .ref 1132]) dd275_48 rfl ?_
            obtain ⟨v5, u4, hq, h⟩ := obnd h
            refine zCV1 (As := [.int x1]) (rest := []) (b := 1132) (q' := q_233) dd275_49 rfl rfl (rcv_m rfl rfl (by decide)) rfl rfl rfl (f233_ok (d := d) (by omega)  hq) ?_
            refine zGo_s (pc' := 88) (st' := [.int v5]) dd275_52 rfl ?_
            obtain ⟨rfl, rfl⟩ := oret h
            exact zGo_ret dd275_88 rfl rfl
          · refine zIT dd275_44 rfl (kNeT hc) ?_
            refine zGo_s (pc' := 56) (st' := [.int x2]) dd275_55 rfl ?_
            refine zGo_s (pc' := 57) (st' := [.int (2 : Int32), .int x2]) dd275_56 rfl ?_
            rcases oite h with ⟨hc, h⟩ | ⟨hc, h⟩
            · refine zIT dd275_57 rfl (kLtT hc) ?_
              refine zGo_s (pc' := 88) (st' := [.int (-2 : Int32)]) dd275_86 rfl ?_
              obtain ⟨rfl, rfl⟩ := oret h
              exact zGo_ret dd275_88 rfl rfl
            · refine zIF dd275_57 (kLtF hc) ?_
              refine zGo_s (pc' := 61) (st' := [.int x2]) dd275_60 rfl ?_
              refine zGo_s (pc' := 62) (st' := [.int (2 : Int32), .int x2]) dd275_61 rfl ?_
              refine zGo_s (pc' := 63) (st' := [.ref 1132, .int (2 : Int32), .int x2]) dd275_62 rfl ?_
              obtain ⟨v3, u2, hq, h⟩ := obnd h
              refine zCV1 (As := []) (rest := [.int (2 : Int32), .int x2]) (b := 1132) (q' := q_209) dd275_63 rfl rfl (rcv_m rfl rfl (by decide)) rfl rfl rfl (f209_ok (d := d) (by omega)  hq) ?_
              refine zGo_s (pc' := 67) (st' := [.int ((2 : Int32) + v3), .int x2]) dd275_66 rfl ?_
              rcases oite h with ⟨hc, h⟩ | ⟨hc, h⟩
              · refine zIF dd275_67 (kGeF hc) ?_
                refine zGo_s (pc' := 71) (st' := [.ref 1132]) dd275_70 rfl ?_
                refine mGF (e := 1213) dd275_71 rfl rfl rfl rfl rfl ?_
                refine zGo_s (pc' := 76) (st' := [.int (8 : Int32), .ref 1213]) dd275_74 rfl ?_
                refine zGo_s (pc' := 77) (st' := [.int x1, .int (8 : Int32), .ref 1213]) dd275_76 rfl ?_
                refine zGo_s (pc' := 78) (st' := [.int ((8 : Int32) * x1), .ref 1213]) dd275_77 rfl ?_
                refine zGo_s (pc' := 79) (st' := [.int x2, .int ((8 : Int32) * x1), .ref 1213]) dd275_78 rfl ?_
                refine zGo_s (pc' := 80) (st' := [.int (((8 : Int32) * x1) + x2), .ref 1213]) dd275_79 rfl ?_
                refine zGo_s (pc' := 81) (st' := [.int (2 : Int32), .int (((8 : Int32) * x1) + x2), .ref 1213]) dd275_80 rfl ?_
                refine zGo_s (pc' := 82) (st' := [.int ((((8 : Int32) * x1) + x2) - (2 : Int32)), .ref 1213]) dd275_81 rfl ?_
                obtain ⟨hi, h⟩ := ochk h
                refine mIA dd275_82 rfl rfl hi ?_
                refine zGo_s (pc' := 88) (st' := [.int (u2.1 1213 (nx ((((8 : Int32) * x1) + x2) - (2 : Int32))))]) dd275_83 rfl ?_
                obtain ⟨rfl, rfl⟩ := oret h
                exact zGo_ret dd275_88 rfl rfl
              · refine zIT dd275_67 rfl (kGeT hc) ?_
                refine zGo_s (pc' := 88) (st' := [.int (-2 : Int32)]) dd275_86 rfl ?_
                obtain ⟨rfl, rfl⟩ := oret h
                exact zGo_ret dd275_88 rfl rfl
      · refine zIF dd275_24 (kLtF hc) ?_
        refine zGo_s (pc' := 28) (st' := [.int (-1 : Int32)]) dd275_27 rfl ?_
        obtain ⟨rfl, rfl⟩ := oret h
        exact zGo_ret dd275_28 rfl rfl
/-! PHModel.irpt(II)I -/
theorem dd276_0 : decode cX13_irpt 0 = .ok (.aload_n 0, 1) := by decide +kernel
theorem dd276_1 : decode cX13_irpt 1 = .ok (.getfield 557, 3) := by decide +kernel
theorem dd276_4 : decode cX13_irpt 4 = .ok (.ifCond .ne 6, 3) := by decide +kernel
theorem dd276_7 : decode cX13_irpt 7 = .ok (.bipush (-3), 2) := by decide +kernel
theorem dd276_9 : decode cX13_irpt 9 = .ok (.ireturn, 1) := by decide +kernel
theorem dd276_10 : decode cX13_irpt 10 = .ok (.iload_n 1, 1) := by decide +kernel
theorem dd276_11 : decode cX13_irpt 11 = .ok (.ifCond .lt 16, 3) := by decide +kernel
theorem dd276_14 : decode cX13_irpt 14 = .ok (.iload_n 1, 1) := by decide +kernel
theorem dd276_15 : decode cX13_irpt 15 = .ok (.aload_n 0, 1) := by decide +kernel
theorem dd276_16 : decode cX13_irpt 16 = .ok (.getfield 20, 3) := by decide +kernel
theorem dd276_19 : decode cX13_irpt 19 = .ok (.getfield 270, 3) := by decide +kernel
theorem dd276_22 : decode cX13_irpt 22 = .ok (.iconst 4, 1) := by decide +kernel
theorem dd276_23 : decode cX13_irpt 23 = .ok (.iaload, 1) := by decide +kernel
theorem dd276_24 : decode cX13_irpt 24 = .ok (.if_icmp .lt 5, 3) := by decide +kernel
theorem dd276_27 : decode cX13_irpt 27 = .ok (.iconst (-1), 1) := by decide +kernel
theorem dd276_28 : decode cX13_irpt 28 = .ok (.ireturn, 1) := by decide +kernel
theorem dd276_29 : decode cX13_irpt 29 = .ok (.iload_n 2, 1) := by decide +kernel
theorem dd276_30 : decode cX13_irpt 30 = .ok (.ifCond .ne 20, 3) := by decide +kernel
theorem dd276_33 : decode cX13_irpt 33 = .ok (.aload_n 0, 1) := by decide +kernel
theorem dd276_34 : decode cX13_irpt 34 = .ok (.getfield 57, 3) := by decide +kernel
theorem dd276_37 : decode cX13_irpt 37 = .ok (.iload_n 1, 1) := by decide +kernel
theorem dd276_38 : decode cX13_irpt 38 = .ok (.baload, 1) := by decide +kernel
theorem dd276_39 : decode cX13_irpt 39 = .ok (.ifCond .eq 7, 3) := by decide +kernel
theorem dd276_42 : decode cX13_irpt 42 = .ok (.iconst 1, 1) := by decide +kernel
theorem dd276_43 : decode cX13_irpt 43 = .ok (.goto 45, 3) := by decide +kernel
theorem dd276_46 : decode cX13_irpt 46 = .ok (.iconst 0, 1) := by decide +kernel
theorem dd276_47 : decode cX13_irpt 47 = .ok (.goto 41, 3) := by decide +kernel
theorem dd276_50 : decode cX13_irpt 50 = .ok (.iload_n 2, 1) := by decide +kernel
theorem dd276_51 : decode cX13_irpt 51 = .ok (.iconst 1, 1) := by decide +kernel
theorem dd276_52 : decode cX13_irpt 52 = .ok (.if_icmp .ne 20, 3) := by decide +kernel
theorem dd276_55 : decode cX13_irpt 55 = .ok (.aload_n 0, 1) := by decide +kernel
theorem dd276_56 : decode cX13_irpt 56 = .ok (.getfield 61, 3) := by decide +kernel
theorem dd276_59 : decode cX13_irpt 59 = .ok (.iload_n 1, 1) := by decide +kernel
theorem dd276_60 : decode cX13_irpt 60 = .ok (.baload, 1) := by decide +kernel
theorem dd276_61 : decode cX13_irpt 61 = .ok (.ifCond .eq 7, 3) := by decide +kernel
theorem dd276_64 : decode cX13_irpt 64 = .ok (.iconst 1, 1) := by decide +kernel
theorem dd276_65 : decode cX13_irpt 65 = .ok (.goto 23, 3) := by decide +kernel
theorem dd276_68 : decode cX13_irpt 68 = .ok (.iconst 0, 1) := by decide +kernel
theorem dd276_69 : decode cX13_irpt 69 = .ok (.goto 19, 3) := by decide +kernel
theorem dd276_72 : decode cX13_irpt 72 = .ok (.iload_n 2, 1) := by decide +kernel
theorem dd276_73 : decode cX13_irpt 73 = .ok (.iconst 2, 1) := by decide +kernel
theorem dd276_74 : decode cX13_irpt 74 = .ok (.if_icmp .ne 12, 3) := by decide +kernel
theorem dd276_77 : decode cX13_irpt 77 = .ok (.aload_n 0, 1) := by decide +kernel
theorem dd276_78 : decode cX13_irpt 78 = .ok (.getfield 64, 3) := by decide +kernel
theorem dd276_81 : decode cX13_irpt 81 = .ok (.iload_n 1, 1) := by decide +kernel
theorem dd276_82 : decode cX13_irpt 82 = .ok (.iaload, 1) := by decide +kernel
theorem dd276_83 : decode cX13_irpt 83 = .ok (.goto 5, 3) := by decide +kernel
theorem dd276_86 : decode cX13_irpt 86 = .ok (.bipush (-2), 2) := by decide +kernel
theorem dd276_88 : decode cX13_irpt 88 = .ok (.ireturn, 1) := by decide +kernel
def f276 (n : Nat) (x1 : Int32) (x2 : Int32) (s : zσ) : Option (Int32 × zσ) :=
    if (s.1 1132 17) = (0 : Int32) then
    some ((-3 : Int32), s)
    else if x1 < (0 : Int32) then
    some ((-1 : Int32), s)
    else zrd 12 (s.2.2 1132 11) fun a1 =>
    if zin? (4 : Int32) 9 = true then
    if x1 < (s.1 (a1 + 4) (nx (4 : Int32))) then
    if x2 = (0 : Int32) then
    if zin? x1 4 = true then
    if (s.1 1214 (nx x1)) = (0 : Int32) then
    some ((0 : Int32), s)
    else some ((1 : Int32), s)
    else none
    else if x2 = (1 : Int32) then
    if zin? x1 4 = true then
    if (s.1 1215 (nx x1)) = (0 : Int32) then
    some ((0 : Int32), s)
    else some ((1 : Int32), s)
    else none
    else if x2 = (2 : Int32) then
    if zin? x1 4 = true then
    some ((s.1 1216 (nx x1)), s)
    else none
    else some ((-2 : Int32), s)
    else some ((-1 : Int32), s)
    else none
set_option maxRecDepth 20000 in
theorem f276_ok {n d : Nat} {x1 : Int32} {x2 : Int32} {s : zσ} {v : Int32} {s2 : zσ} (hd : 0 ≤ d) (h : f276 n x1 x2 s = some (v, s2)) {w : zσ} {fz : Bool} {L : Nat} {xs : Nat → Int32} : zGo (zX fz L xs) d q_276 (0, [(0, .ref 1132), (1, .int x1), (2, .int x2)], [], zmk w s, 0, 0) (some (.int v), zmk w s2, 0, 0) := by
  unfold f276 at h
  refine zGo_s (pc' := 1) (st' := [.ref 1132]) dd276_0 rfl ?_
  refine mGI dd276_1 rfl rfl rfl rfl ?_
  rcases oite h with ⟨hc, h⟩ | ⟨hc, h⟩
  · refine zUF dd276_4 (kNeF hc) ?_
    refine zGo_s (pc' := 9) (st' := [.int (-3 : Int32)]) dd276_7 rfl ?_
    obtain ⟨rfl, rfl⟩ := oret h
    exact zGo_ret dd276_9 rfl rfl
  · refine zUT dd276_4 rfl (kNeT hc) ?_
    refine zGo_s (pc' := 11) (st' := [.int x1]) dd276_10 rfl ?_
    rcases oite h with ⟨hc, h⟩ | ⟨hc, h⟩
    · refine zUT dd276_11 rfl (kLtT hc) ?_
      refine zGo_s (pc' := 28) (st' := [.int (-1 : Int32)]) dd276_27 rfl ?_
      obtain ⟨rfl, rfl⟩ := oret h
      exact zGo_ret dd276_28 rfl rfl
    · refine zUF dd276_11 (kLtF hc) ?_
      refine zGo_s (pc' := 15) (st' := [.int x1]) dd276_14 rfl ?_
      refine zGo_s (pc' := 16) (st' := [.ref 1132, .int x1]) dd276_15 rfl ?_
      obtain ⟨a1, e_a1, c_a1, h⟩ := ordd h
      refine mGR dd276_16 rfl rfl rfl rfl e_a1 ?_
      refine mGF (e := (a1 + 4)) dd276_19 rfl (ck12_s c_a1).1 (ck12_s c_a1).2 rfl (cf12_4 c_a1).1 ?_
      refine zGo_s (pc' := 23) (st' := [.int (4 : Int32), .ref (a1 + 4), .int x1]) dd276_22 rfl ?_
      obtain ⟨hi, h⟩ := ochk h
      refine mIA dd276_23 (cf12_4 c_a1).2.1 (cf12_4 c_a1).2.2 hi ?_
      rcases oite h with ⟨hc, h⟩ | ⟨hc, h⟩
      · refine zIT dd276_24 rfl (kLtT hc) ?_
        refine zGo_s (pc' := 30) (st' := [.int x2]) dd276_29 rfl ?_
        rcases oite h with ⟨hc, h⟩ | ⟨hc, h⟩
        · refine zUF dd276_30 (kNeF hc) ?_
          refine zGo_s (pc' := 34) (st' := [.ref 1132]) dd276_33 rfl ?_
          refine mGF (e := 1214) dd276_34 rfl rfl rfl rfl rfl ?_
          refine zGo_s (pc' := 38) (st' := [.int x1, .ref 1214]) dd276_37 rfl ?_
          obtain ⟨hi, h⟩ := ochk h
          refine mBA dd276_38 rfl rfl rfl hi ?_
          rcases oite h with ⟨hc, h⟩ | ⟨hc, h⟩
          · refine zUT dd276_39 rfl (kEqT hc) ?_
            refine zGo_s (pc' := 47) (st' := [.int (0 : Int32)]) dd276_46 rfl ?_
            refine zGo_s (pc' := 88) (st' := [.int (0 : Int32)]) dd276_47 rfl ?_
            obtain ⟨rfl, rfl⟩ := oret h
            exact zGo_ret dd276_88 rfl rfl
          · refine zUF dd276_39 (kEqF hc) ?_
            refine zGo_s (pc' := 43) (st' := [.int (1 : Int32)]) dd276_42 rfl ?_
            refine zGo_s (pc' := 88) (st' := [.int (1 : Int32)]) dd276_43 rfl ?_
            obtain ⟨rfl, rfl⟩ := oret h
            exact zGo_ret dd276_88 rfl rfl
        · refine zUT dd276_30 rfl (kNeT hc) ?_
          refine zGo_s (pc' := 51) (st' := [.int x2]) dd276_50 rfl ?_
          refine zGo_s (pc' := 52) (st' := [.int (1 : Int32), .int x2]) dd276_51 rfl ?_
          rcases oite h with ⟨hc, h⟩ | ⟨hc, h⟩
          · refine zIF dd276_52 (kNeF hc) ?_
            refine zGo_s (pc' := 56) (st' := [.ref 1132]) dd276_55 rfl ?_
            refine mGF (e := 1215) dd276_56 rfl rfl rfl rfl rfl ?_
            refine zGo_s (pc' := 60) (st' := [.int x1, .ref 1215]) dd276_59 rfl ?_
            obtain ⟨hi, h⟩ := ochk h
            refine mBA dd276_60 rfl rfl rfl hi ?_
            rcases oite h with ⟨hc, h⟩ | ⟨hc, h⟩
            · refine zUT dd276_61 rfl (kEqT hc) ?_
              refine zGo_s (pc' := 69) (st' := [.int (0 : Int32)]) dd276_68 rfl ?_
              refine zGo_s (pc' := 88) (st' := [.int (0 : Int32)]) dd276_69 rfl ?_
              obtain ⟨rfl, rfl⟩ := oret h
              exact zGo_ret dd276_88 rfl rfl
            · refine zUF dd276_61 (kEqF hc) ?_
              refine zGo_s (pc' := 65) (st' := [.int (1 : Int32)]) dd276_64 rfl ?_
              refine zGo_s (pc' := 88) (st' := [.int (1 : Int32)]) dd276_65 rfl ?_
              obtain ⟨rfl, rfl⟩ := oret h
              exact zGo_ret dd276_88 rfl rfl
          · refine zIT dd276_52 rfl (kNeT hc) ?_
            refine zGo_s (pc' := 73) (st' := [.int x2]) dd276_72 rfl ?_
            refine zGo_s (pc' := 74) (st' := [.int (2 : Int32), .int x2]) dd276_73 rfl ?_
            rcases oite h with ⟨hc, h⟩ | ⟨hc, h⟩
            · refine zIF dd276_74 (kNeF hc) ?_
              refine zGo_s (pc' := 78) (st' := [.ref 1132]) dd276_77 rfl ?_
              refine mGF (e := 1216) dd276_78 rfl rfl rfl rfl rfl ?_
              refine zGo_s (pc' := 82) (st' := [.int x1, .ref 1216]) dd276_81 rfl ?_
              obtain ⟨hi, h⟩ := ochk h
              refine mIA dd276_82 rfl rfl hi ?_
              refine zGo_s (pc' := 88) (st' := [.int (s.1 1216 (nx x1))]) dd276_83 rfl ?_
              obtain ⟨rfl, rfl⟩ := oret h
              exact zGo_ret dd276_88 rfl rfl
            · refine zIT dd276_74 rfl (kNeT hc) ?_
              refine zGo_s (pc' := 88) (st' := [.int (-2 : Int32)]) dd276_86 rfl ?_
              obtain ⟨rfl, rfl⟩ := oret h
              exact zGo_ret dd276_88 rfl rfl
      · refine zIF dd276_24 (kLtF hc) ?_
        refine zGo_s (pc' := 28) (st' := [.int (-1 : Int32)]) dd276_27 rfl ?_
        obtain ⟨rfl, rfl⟩ := oret h
        exact zGo_ret dd276_28 rfl rfl
/-! PHModel.sent(II)I -/
theorem dd277_0 : decode cX13_sent 0 = .ok (.aload_n 0, 1) := by decide +kernel
theorem dd277_1 : decode cX13_sent 1 = .ok (.getfield 557, 3) := by decide +kernel
theorem dd277_4 : decode cX13_sent 4 = .ok (.ifCond .eq 25, 3) := by decide +kernel
theorem dd277_7 : decode cX13_sent 7 = .ok (.iload_n 1, 1) := by decide +kernel
theorem dd277_8 : decode cX13_sent 8 = .ok (.ifCond .lt 21, 3) := by decide +kernel
theorem dd277_11 : decode cX13_sent 11 = .ok (.iload_n 1, 1) := by decide +kernel
theorem dd277_12 : decode cX13_sent 12 = .ok (.aload_n 0, 1) := by decide +kernel
theorem dd277_13 : decode cX13_sent 13 = .ok (.getfield 20, 3) := by decide +kernel
theorem dd277_16 : decode cX13_sent 16 = .ok (.getfield 270, 3) := by decide +kernel
theorem dd277_19 : decode cX13_sent 19 = .ok (.bipush 6, 2) := by decide +kernel
theorem dd277_21 : decode cX13_sent 21 = .ok (.iaload, 1) := by decide +kernel
theorem dd277_22 : decode cX13_sent 22 = .ok (.if_icmp .ge 7, 3) := by decide +kernel
theorem dd277_25 : decode cX13_sent 25 = .ok (.iconst 1, 1) := by decide +kernel
theorem dd277_26 : decode cX13_sent 26 = .ok (.goto 4, 3) := by decide +kernel
theorem dd277_29 : decode cX13_sent 29 = .ok (.iconst 0, 1) := by decide +kernel
theorem dd277_30 : decode cX13_sent 30 = .ok (.istore_n 3, 1) := by decide +kernel
theorem dd277_31 : decode cX13_sent 31 = .ok (.iload_n 3, 1) := by decide +kernel
theorem dd277_32 : decode cX13_sent 32 = .ok (.ifCond .ne 7, 3) := by decide +kernel
theorem dd277_35 : decode cX13_sent 35 = .ok (.iconst 0, 1) := by decide +kernel
theorem dd277_36 : decode cX13_sent 36 = .ok (.goto 46, 3) := by decide +kernel
theorem dd277_39 : decode cX13_sent 39 = .ok (.iload_n 2, 1) := by decide +kernel
theorem dd277_40 : decode cX13_sent 40 = .ok (.iconst (-1), 1) := by decide +kernel
theorem dd277_41 : decode cX13_sent 41 = .ok (.if_icmp .ne 12, 3) := by decide +kernel
theorem dd277_44 : decode cX13_sent 44 = .ok (.aload_n 0, 1) := by decide +kernel
theorem dd277_45 : decode cX13_sent 45 = .ok (.getfield 76, 3) := by decide +kernel
theorem dd277_48 : decode cX13_sent 48 = .ok (.iload_n 1, 1) := by decide +kernel
theorem dd277_49 : decode cX13_sent 49 = .ok (.iaload, 1) := by decide +kernel
theorem dd277_50 : decode cX13_sent 50 = .ok (.goto 32, 3) := by decide +kernel
theorem dd277_53 : decode cX13_sent 53 = .ok (.iload_n 2, 1) := by decide +kernel
theorem dd277_54 : decode cX13_sent 54 = .ok (.ifCond .lt 13, 3) := by decide +kernel
theorem dd277_57 : decode cX13_sent 57 = .ok (.iload_n 2, 1) := by decide +kernel
theorem dd277_58 : decode cX13_sent 58 = .ok (.aload_n 0, 1) := by decide +kernel
theorem dd277_59 : decode cX13_sent 59 = .ok (.getfield 76, 3) := by decide +kernel
theorem dd277_62 : decode cX13_sent 62 = .ok (.iload_n 1, 1) := by decide +kernel
theorem dd277_63 : decode cX13_sent 63 = .ok (.iaload, 1) := by decide +kernel
theorem dd277_64 : decode cX13_sent 64 = .ok (.if_icmp .lt 7, 3) := by decide +kernel
theorem dd277_67 : decode cX13_sent 67 = .ok (.iconst 0, 1) := by decide +kernel
theorem dd277_68 : decode cX13_sent 68 = .ok (.goto 14, 3) := by decide +kernel
theorem dd277_71 : decode cX13_sent 71 = .ok (.aload_n 0, 1) := by decide +kernel
theorem dd277_72 : decode cX13_sent 72 = .ok (.getfield 73, 3) := by decide +kernel
theorem dd277_75 : decode cX13_sent 75 = .ok (.bipush 40, 2) := by decide +kernel
theorem dd277_77 : decode cX13_sent 77 = .ok (.iload_n 1, 1) := by decide +kernel
theorem dd277_78 : decode cX13_sent 78 = .ok (.imul, 1) := by decide +kernel
theorem dd277_79 : decode cX13_sent 79 = .ok (.iload_n 2, 1) := by decide +kernel
theorem dd277_80 : decode cX13_sent 80 = .ok (.iadd, 1) := by decide +kernel
theorem dd277_81 : decode cX13_sent 81 = .ok (.iaload, 1) := by decide +kernel
theorem dd277_82 : decode cX13_sent 82 = .ok (.ireturn, 1) := by decide +kernel
def f277_67 (n : Nat) (s : zσ) : Option (Int32 × zσ) :=
    some ((0 : Int32), s)
set_option maxRecDepth 20000 in
theorem f277_67_ok {n d : Nat} {s : zσ} {v : Int32} {s2 : zσ} (hd : 0 ≤ d) (h : f277_67 n s = some (v, s2)) {w : zσ} {fz : Bool} {L : Nat} {xs : Nat → Int32} : zGo (zX fz L xs) d q_277 (67, [], [], zmk w s, 0, 0) (some (.int v), zmk w s2, 0, 0) := by
  unfold f277_67 at h
  refine zGo_s (pc' := 68) (st' := [.int (0 : Int32)]) dd277_67 rfl ?_
  refine zGo_s (pc' := 82) (st' := [.int (0 : Int32)]) dd277_68 rfl ?_
  obtain ⟨rfl, rfl⟩ := oret h
  exact zGo_ret dd277_82 rfl rfl
def f277_30 (n : Nat) (x1 : Int32) (x2 : Int32) (y0 : Int32) (s : zσ) : Option (Int32 × zσ) :=
    if y0 = (0 : Int32) then
    some ((0 : Int32), s)
    else if x2 = (-1 : Int32) then
    if zin? x1 4 = true then
    some ((s.1 1220 (nx x1)), s)
    else none
    else if x2 < (0 : Int32) then
    f277_67 n s
    else if zin? x1 4 = true then
    if x2 < (s.1 1220 (nx x1)) then
    if zin? (((40 : Int32) * x1) + x2) 160 = true then
    some ((s.1 1219 (nx (((40 : Int32) * x1) + x2))), s)
    else none
    else f277_67 n s
    else none
set_option maxRecDepth 20000 in
theorem f277_30_ok {n d : Nat} {x1 : Int32} {x2 : Int32} {y0 : Int32} {s : zσ} {v : Int32} {s2 : zσ} (hd : 0 ≤ d) (h : f277_30 n x1 x2 y0 s = some (v, s2)) {w : zσ} {fz : Bool} {L : Nat} {xs : Nat → Int32} : zGo (zX fz L xs) d q_277 (30, [(0, .ref 1132), (1, .int x1), (2, .int x2)], [.int y0], zmk w s, 0, 0) (some (.int v), zmk w s2, 0, 0) := by
  unfold f277_30 at h
  refine zGo_s (pc' := 31) (st' := []) (lv' := [(3, .int y0), (0, .ref 1132), (1, .int x1), (2, .int x2)]) dd277_30 rfl ?_
  refine zGo_s (pc' := 32) (st' := [.int y0]) dd277_31 rfl ?_
  rcases oite h with ⟨hc, h⟩ | ⟨hc, h⟩
  · refine zUF dd277_32 (kNeF hc) ?_
    refine zGo_s (pc' := 36) (st' := [.int (0 : Int32)]) dd277_35 rfl ?_
    refine zGo_s (pc' := 82) (st' := [.int (0 : Int32)]) dd277_36 rfl ?_
    obtain ⟨rfl, rfl⟩ := oret h
    exact zGo_ret dd277_82 rfl rfl
  · refine zUT dd277_32 rfl (kNeT hc) ?_
    refine zGo_s (pc' := 40) (st' := [.int x2]) dd277_39 rfl ?_
    refine zGo_s (pc' := 41) (st' := [.int (-1 : Int32), .int x2]) dd277_40 rfl ?_
    rcases oite h with ⟨hc, h⟩ | ⟨hc, h⟩
    · refine zIF dd277_41 (kNeF hc) ?_
      refine zGo_s (pc' := 45) (st' := [.ref 1132]) dd277_44 rfl ?_
      refine mGF (e := 1220) dd277_45 rfl rfl rfl rfl rfl ?_
      refine zGo_s (pc' := 49) (st' := [.int x1, .ref 1220]) dd277_48 rfl ?_
      obtain ⟨hi, h⟩ := ochk h
      refine mIA dd277_49 rfl rfl hi ?_
      refine zGo_s (pc' := 82) (st' := [.int (s.1 1220 (nx x1))]) dd277_50 rfl ?_
      obtain ⟨rfl, rfl⟩ := oret h
      exact zGo_ret dd277_82 rfl rfl
    · refine zIT dd277_41 rfl (kNeT hc) ?_
      refine zGo_s (pc' := 54) (st' := [.int x2]) dd277_53 rfl ?_
      rcases oite h with ⟨hc, h⟩ | ⟨hc, h⟩
      · refine zUT dd277_54 rfl (kLtT hc) ?_
        exact zGo_lv (lv := []) ⟨by simp, by simp, by simp⟩ (f277_67_ok hd h)
      · refine zUF dd277_54 (kLtF hc) ?_
        refine zGo_s (pc' := 58) (st' := [.int x2]) dd277_57 rfl ?_
        refine zGo_s (pc' := 59) (st' := [.ref 1132, .int x2]) dd277_58 rfl ?_
        refine mGF (e := 1220) dd277_59 rfl rfl rfl rfl rfl ?_
        refine zGo_s (pc' := 63) (st' := [.int x1, .ref 1220, .int x2]) dd277_62 rfl ?_
        obtain ⟨hi, h⟩ := ochk h
        refine mIA dd277_63 rfl rfl hi ?_
        rcases oite h with ⟨hc, h⟩ | ⟨hc, h⟩
        · refine zIT dd277_64 rfl (kLtT hc) ?_
          refine zGo_s (pc' := 72) (st' := [.ref 1132]) dd277_71 rfl ?_
          refine mGF (e := 1219) dd277_72 rfl rfl rfl rfl rfl ?_
          refine zGo_s (pc' := 77) (st' := [.int (40 : Int32), .ref 1219]) dd277_75 rfl ?_
          refine zGo_s (pc' := 78) (st' := [.int x1, .int (40 : Int32), .ref 1219]) dd277_77 rfl ?_
          refine zGo_s (pc' := 79) (st' := [.int ((40 : Int32) * x1), .ref 1219]) dd277_78 rfl ?_
          refine zGo_s (pc' := 80) (st' := [.int x2, .int ((40 : Int32) * x1), .ref 1219]) dd277_79 rfl ?_
          refine zGo_s (pc' := 81) (st' := [.int (((40 : Int32) * x1) + x2), .ref 1219]) dd277_80 rfl ?_
          obtain ⟨hi, h⟩ := ochk h
          refine mIA dd277_81 rfl rfl hi ?_
          obtain ⟨rfl, rfl⟩ := oret h
          exact zGo_ret dd277_82 rfl rfl
        · refine zIF dd277_64 (kLtF hc) ?_
          exact zGo_lv (lv := []) ⟨by simp, by simp, by simp⟩ (f277_67_ok hd h)
def f277_29 (n : Nat) (x1 : Int32) (x2 : Int32) (s : zσ) : Option (Int32 × zσ) :=
    f277_30 n x1 x2 (0 : Int32) s
set_option maxRecDepth 20000 in
theorem f277_29_ok {n d : Nat} {x1 : Int32} {x2 : Int32} {s : zσ} {v : Int32} {s2 : zσ} (hd : 0 ≤ d) (h : f277_29 n x1 x2 s = some (v, s2)) {w : zσ} {fz : Bool} {L : Nat} {xs : Nat → Int32} : zGo (zX fz L xs) d q_277 (29, [(0, .ref 1132), (1, .int x1), (2, .int x2)], [], zmk w s, 0, 0) (some (.int v), zmk w s2, 0, 0) := by
  unfold f277_29 at h
  refine zGo_s (pc' := 30) (st' := [.int (0 : Int32)]) dd277_29 rfl ?_
  exact f277_30_ok hd h
def f277 (n : Nat) (x1 : Int32) (x2 : Int32) (s : zσ) : Option (Int32 × zσ) :=
    if (s.1 1132 17) = (0 : Int32) then
    f277_29 n x1 x2 s
    else if x1 < (0 : Int32) then
    f277_29 n x1 x2 s
    else zrd 12 (s.2.2 1132 11) fun a1 =>
    if zin? (6 : Int32) 9 = true then
    if x1 < (s.1 (a1 + 4) (nx (6 : Int32))) then
    f277_30 n x1 x2 (1 : Int32) s
    else f277_29 n x1 x2 s
    else none
set_option maxRecDepth 20000 in
theorem f277_ok {n d : Nat} {x1 : Int32} {x2 : Int32} {s : zσ} {v : Int32} {s2 : zσ} (hd : 0 ≤ d) (h : f277 n x1 x2 s = some (v, s2)) {w : zσ} {fz : Bool} {L : Nat} {xs : Nat → Int32} : zGo (zX fz L xs) d q_277 (0, [(0, .ref 1132), (1, .int x1), (2, .int x2)], [], zmk w s, 0, 0) (some (.int v), zmk w s2, 0, 0) := by
  unfold f277 at h
  refine zGo_s (pc' := 1) (st' := [.ref 1132]) dd277_0 rfl ?_
  refine mGI dd277_1 rfl rfl rfl rfl ?_
  rcases oite h with ⟨hc, h⟩ | ⟨hc, h⟩
  · refine zUT dd277_4 rfl (kEqT hc) ?_
    exact f277_29_ok hd h
  · refine zUF dd277_4 (kEqF hc) ?_
    refine zGo_s (pc' := 8) (st' := [.int x1]) dd277_7 rfl ?_
    rcases oite h with ⟨hc, h⟩ | ⟨hc, h⟩
    · refine zUT dd277_8 rfl (kLtT hc) ?_
      exact f277_29_ok hd h
    · refine zUF dd277_8 (kLtF hc) ?_
      refine zGo_s (pc' := 12) (st' := [.int x1]) dd277_11 rfl ?_
      refine zGo_s (pc' := 13) (st' := [.ref 1132, .int x1]) dd277_12 rfl ?_
      obtain ⟨a1, e_a1, c_a1, h⟩ := ordd h
      refine mGR dd277_13 rfl rfl rfl rfl e_a1 ?_
      refine mGF (e := (a1 + 4)) dd277_16 rfl (ck12_s c_a1).1 (ck12_s c_a1).2 rfl (cf12_4 c_a1).1 ?_
      refine zGo_s (pc' := 21) (st' := [.int (6 : Int32), .ref (a1 + 4), .int x1]) dd277_19 rfl ?_
      obtain ⟨hi, h⟩ := ochk h
      refine mIA dd277_21 (cf12_4 c_a1).2.1 (cf12_4 c_a1).2.2 hi ?_
      rcases oite h with ⟨hc, h⟩ | ⟨hc, h⟩
      · refine zIF dd277_22 (kGeF hc) ?_
        refine zGo_s (pc' := 26) (st' := [.int (1 : Int32)]) dd277_25 rfl ?_
        refine zGo_s (pc' := 30) (st' := [.int (1 : Int32)]) dd277_26 rfl ?_
        exact f277_30_ok hd h
      · refine zIT dd277_22 rfl (kGeT hc) ?_
        exact f277_29_ok hd h
/-! PHModel.waitsFor(III)Z -/
theorem dd279_0 : decode cX13_waitsFor 0 = .ok (.aload_n 0, 1) := by decide +kernel
theorem dd279_1 : decode cX13_waitsFor 1 = .ok (.getfield 127, 3) := by decide +kernel
theorem dd279_4 : decode cX13_waitsFor 4 = .ok (.aload_n 0, 1) := by decide +kernel
theorem dd279_5 : decode cX13_waitsFor 5 = .ok (.iload_n 1, 1) := by decide +kernel
theorem dd279_6 : decode cX13_waitsFor 6 = .ok (.invokevirtual 591, 3) := by decide +kernel
theorem dd279_9 : decode cX13_waitsFor 9 = .ok (.iaload, 1) := by decide +kernel
theorem dd279_10 : decode cX13_waitsFor 10 = .ok (.istore 4, 2) := by decide +kernel
theorem dd279_12 : decode cX13_waitsFor 12 = .ok (.aload_n 0, 1) := by decide +kernel
theorem dd279_13 : decode cX13_waitsFor 13 = .ok (.getfield 20, 3) := by decide +kernel
theorem dd279_16 : decode cX13_waitsFor 16 = .ok (.getfield 459, 3) := by decide +kernel
theorem dd279_19 : decode cX13_waitsFor 19 = .ok (.iload 4, 2) := by decide +kernel
theorem dd279_21 : decode cX13_waitsFor 21 = .ok (.iaload, 1) := by decide +kernel
theorem dd279_22 : decode cX13_waitsFor 22 = .ok (.istore 5, 2) := by decide +kernel
theorem dd279_24 : decode cX13_waitsFor 24 = .ok (.iload_n 2, 1) := by decide +kernel
theorem dd279_25 : decode cX13_waitsFor 25 = .ok (.iconst 2, 1) := by decide +kernel
theorem dd279_26 : decode cX13_waitsFor 26 = .ok (.if_icmp .ne 26, 3) := by decide +kernel
theorem dd279_29 : decode cX13_waitsFor 29 = .ok (.iload 5, 2) := by decide +kernel
theorem dd279_31 : decode cX13_waitsFor 31 = .ok (.bipush 10, 2) := by decide +kernel
theorem dd279_33 : decode cX13_waitsFor 33 = .ok (.if_icmp .ne 17, 3) := by decide +kernel
theorem dd279_36 : decode cX13_waitsFor 36 = .ok (.aload_n 0, 1) := by decide +kernel
theorem dd279_37 : decode cX13_waitsFor 37 = .ok (.iload 4, 2) := by decide +kernel
theorem dd279_39 : decode cX13_waitsFor 39 = .ok (.iload_n 3, 1) := by decide +kernel
theorem dd279_40 : decode cX13_waitsFor 40 = .ok (.invokevirtual 700, 3) := by decide +kernel
theorem dd279_43 : decode cX13_waitsFor 43 = .ok (.ifCond .le 7, 3) := by decide +kernel
theorem dd279_46 : decode cX13_waitsFor 46 = .ok (.iconst 1, 1) := by decide +kernel
theorem dd279_47 : decode cX13_waitsFor 47 = .ok (.goto 4, 3) := by decide +kernel
theorem dd279_50 : decode cX13_waitsFor 50 = .ok (.iconst 0, 1) := by decide +kernel
theorem dd279_51 : decode cX13_waitsFor 51 = .ok (.ireturn, 1) := by decide +kernel
theorem dd279_52 : decode cX13_waitsFor 52 = .ok (.iload_n 2, 1) := by decide +kernel
theorem dd279_53 : decode cX13_waitsFor 53 = .ok (.iconst 3, 1) := by decide +kernel
theorem dd279_54 : decode cX13_waitsFor 54 = .ok (.if_icmp .ne 25, 3) := by decide +kernel
theorem dd279_57 : decode cX13_waitsFor 57 = .ok (.iload 5, 2) := by decide +kernel
theorem dd279_59 : decode cX13_waitsFor 59 = .ok (.bipush 12, 2) := by decide +kernel
theorem dd279_61 : decode cX13_waitsFor 61 = .ok (.if_icmp .eq 10, 3) := by decide +kernel
theorem dd279_64 : decode cX13_waitsFor 64 = .ok (.iload 5, 2) := by decide +kernel
theorem dd279_66 : decode cX13_waitsFor 66 = .ok (.bipush 14, 2) := by decide +kernel
theorem dd279_68 : decode cX13_waitsFor 68 = .ok (.if_icmp .ne 7, 3) := by decide +kernel
theorem dd279_71 : decode cX13_waitsFor 71 = .ok (.iconst 1, 1) := by decide +kernel
theorem dd279_72 : decode cX13_waitsFor 72 = .ok (.goto 19, 3) := by decide +kernel
theorem dd279_75 : decode cX13_waitsFor 75 = .ok (.iconst 0, 1) := by decide +kernel
theorem dd279_76 : decode cX13_waitsFor 76 = .ok (.goto 15, 3) := by decide +kernel
theorem dd279_79 : decode cX13_waitsFor 79 = .ok (.iload 5, 2) := by decide +kernel
theorem dd279_81 : decode cX13_waitsFor 81 = .ok (.bipush 23, 2) := by decide +kernel
theorem dd279_83 : decode cX13_waitsFor 83 = .ok (.if_icmp .ne 7, 3) := by decide +kernel
theorem dd279_86 : decode cX13_waitsFor 86 = .ok (.iconst 1, 1) := by decide +kernel
theorem dd279_87 : decode cX13_waitsFor 87 = .ok (.goto 4, 3) := by decide +kernel
theorem dd279_90 : decode cX13_waitsFor 90 = .ok (.iconst 0, 1) := by decide +kernel
theorem dd279_91 : decode cX13_waitsFor 91 = .ok (.istore 6, 2) := by decide +kernel
theorem dd279_93 : decode cX13_waitsFor 93 = .ok (.iload 6, 2) := by decide +kernel
theorem dd279_95 : decode cX13_waitsFor 95 = .ok (.ifCond .eq 29, 3) := by decide +kernel
theorem dd279_98 : decode cX13_waitsFor 98 = .ok (.aload_n 0, 1) := by decide +kernel
theorem dd279_99 : decode cX13_waitsFor 99 = .ok (.getfield 20, 3) := by decide +kernel
theorem dd279_102 : decode cX13_waitsFor 102 = .ok (.getfield 544, 3) := by decide +kernel
theorem dd279_105 : decode cX13_waitsFor 105 = .ok (.aload_n 0, 1) := by decide +kernel
theorem dd279_106 : decode cX13_waitsFor 106 = .ok (.getfield 20, 3) := by decide +kernel
theorem dd279_109 : decode cX13_waitsFor 109 = .ok (.getfield 441, 3) := by decide +kernel
theorem dd279_112 : decode cX13_waitsFor 112 = .ok (.iload 4, 2) := by decide +kernel
theorem dd279_114 : decode cX13_waitsFor 114 = .ok (.iaload, 1) := by decide +kernel
theorem dd279_115 : decode cX13_waitsFor 115 = .ok (.iaload, 1) := by decide +kernel
theorem dd279_116 : decode cX13_waitsFor 116 = .ok (.iload_n 3, 1) := by decide +kernel
theorem dd279_117 : decode cX13_waitsFor 117 = .ok (.if_icmp .ne 7, 3) := by decide +kernel
theorem dd279_120 : decode cX13_waitsFor 120 = .ok (.iconst 1, 1) := by decide +kernel
theorem dd279_121 : decode cX13_waitsFor 121 = .ok (.goto 4, 3) := by decide +kernel
theorem dd279_124 : decode cX13_waitsFor 124 = .ok (.iconst 0, 1) := by decide +kernel
theorem dd279_125 : decode cX13_waitsFor 125 = .ok (.ireturn, 1) := by decide +kernel
def f279_91 (n : Nat) (x3 : Int32) (x4 : Int32) (y0 : Int32) (s : zσ) : Option (Int32 × zσ) :=
    if y0 = (0 : Int32) then
    some ((0 : Int32), s)
    else zrd 12 (s.2.2 1132 11) fun a1 =>
    zrd 12 (s.2.2 1132 11) fun a2 =>
    if zin? x4 200 = true then
    if zin? (s.1 (a2 + 17) (nx x4)) 1400 = true then
    if (s.1 (a1 + 33) (nx (s.1 (a2 + 17) (nx x4)))) = x3 then
    some ((1 : Int32), s)
    else some ((0 : Int32), s)
    else none
    else none
set_option maxRecDepth 20000 in
theorem f279_91_ok {n d : Nat} {x3 : Int32} {x4 : Int32} {y0 : Int32} {s : zσ} {v : Int32} {s2 : zσ} (hd : 1 ≤ d) (h : f279_91 n x3 x4 y0 s = some (v, s2)) {w : zσ} {fz : Bool} {L : Nat} {xs : Nat → Int32} : zGo (zX fz L xs) d q_279 (91, [(0, .ref 1132), (3, .int x3), (4, .int x4)], [.int y0], zmk w s, 0, 0) (some (.int v), zmk w s2, 0, 0) := by
  obtain ⟨d, rfl⟩ : ∃ d0, d = d0 + 1 := ⟨d - 1, by omega⟩
  unfold f279_91 at h
  refine zGo_s (pc' := 93) (st' := []) (lv' := [(6, .int y0), (0, .ref 1132), (3, .int x3), (4, .int x4)]) dd279_91 rfl ?_
  refine zGo_s (pc' := 95) (st' := [.int y0]) dd279_93 rfl ?_
  rcases oite h with ⟨hc, h⟩ | ⟨hc, h⟩
  · refine zUT dd279_95 rfl (kEqT hc) ?_
    refine zGo_s (pc' := 125) (st' := [.int (0 : Int32)]) dd279_124 rfl ?_
    obtain ⟨rfl, rfl⟩ := oret h
    exact zGo_ret dd279_125 rfl rfl
  · refine zUF dd279_95 (kEqF hc) ?_
    refine zGo_s (pc' := 99) (st' := [.ref 1132]) dd279_98 rfl ?_
    obtain ⟨a1, e_a1, c_a1, h⟩ := ordd h
    refine mGR dd279_99 rfl rfl rfl rfl e_a1 ?_
    refine mGF (e := (a1 + 33)) dd279_102 rfl (ck12_s c_a1).1 (ck12_s c_a1).2 rfl (cf12_39 c_a1).1 ?_
    refine zGo_s (pc' := 106) (st' := [.ref 1132, .ref (a1 + 33)]) dd279_105 rfl ?_
    obtain ⟨a2, e_a2, c_a2, h⟩ := ordd h
    refine mGR dd279_106 rfl rfl rfl rfl e_a2 ?_
    refine mGF (e := (a2 + 17)) dd279_109 rfl (ck12_s c_a2).1 (ck12_s c_a2).2 rfl (cf12_19 c_a2).1 ?_
    refine zGo_s (pc' := 114) (st' := [.int x4, .ref (a2 + 17), .ref (a1 + 33)]) dd279_112 rfl ?_
    obtain ⟨hi, h⟩ := ochk h
    refine mIA dd279_114 (cf12_19 c_a2).2.1 (cf12_19 c_a2).2.2 hi ?_
    obtain ⟨hi, h⟩ := ochk h
    refine mIA dd279_115 (cf12_39 c_a1).2.1 (cf12_39 c_a1).2.2 hi ?_
    refine zGo_s (pc' := 117) (st' := [.int x3, .int (s.1 (a1 + 33) (nx (s.1 (a2 + 17) (nx x4))))]) dd279_116 rfl ?_
    rcases oite h with ⟨hc, h⟩ | ⟨hc, h⟩
    · refine zIF dd279_117 (kNeF hc) ?_
      refine zGo_s (pc' := 121) (st' := [.int (1 : Int32)]) dd279_120 rfl ?_
      refine zGo_s (pc' := 125) (st' := [.int (1 : Int32)]) dd279_121 rfl ?_
      obtain ⟨rfl, rfl⟩ := oret h
      exact zGo_ret dd279_125 rfl rfl
    · refine zIT dd279_117 rfl (kNeT hc) ?_
      refine zGo_s (pc' := 125) (st' := [.int (0 : Int32)]) dd279_124 rfl ?_
      obtain ⟨rfl, rfl⟩ := oret h
      exact zGo_ret dd279_125 rfl rfl
def f279_71 (n : Nat) (x3 : Int32) (x4 : Int32) (s : zσ) : Option (Int32 × zσ) :=
    f279_91 n x3 x4 (1 : Int32) s
set_option maxRecDepth 20000 in
theorem f279_71_ok {n d : Nat} {x3 : Int32} {x4 : Int32} {s : zσ} {v : Int32} {s2 : zσ} (hd : 1 ≤ d) (h : f279_71 n x3 x4 s = some (v, s2)) {w : zσ} {fz : Bool} {L : Nat} {xs : Nat → Int32} : zGo (zX fz L xs) d q_279 (71, [(0, .ref 1132), (3, .int x3), (4, .int x4)], [], zmk w s, 0, 0) (some (.int v), zmk w s2, 0, 0) := by
  obtain ⟨d, rfl⟩ : ∃ d0, d = d0 + 1 := ⟨d - 1, by omega⟩
  unfold f279_71 at h
  refine zGo_s (pc' := 72) (st' := [.int (1 : Int32)]) dd279_71 rfl ?_
  refine zGo_s (pc' := 91) (st' := [.int (1 : Int32)]) dd279_72 rfl ?_
  exact f279_91_ok hd h
def f279 (n : Nat) (x1 : Int32) (x2 : Int32) (x3 : Int32) (s : zσ) : Option (Int32 × zσ) :=
    yb1 (f214 n x1 s) fun v2 u1 =>
    if zin? v2 1120 = true then
    zlet ((u1.1 1237 (nx v2))) fun v3 =>
    zrd 12 (u1.2.2 1132 11) fun a4 =>
    if zin? v3 200 = true then
    zlet ((u1.1 (a4 + 15) (nx v3))) fun v5 =>
    if x2 = (2 : Int32) then
    if v5 = (10 : Int32) then
    yb1 (f232 n v3 x3 u1) fun v7 u6 =>
    if (0 : Int32) < v7 then
    some ((1 : Int32), u6)
    else some ((0 : Int32), u6)
    else some ((0 : Int32), u1)
    else if x2 = (3 : Int32) then
    if v5 = (12 : Int32) then
    f279_71 n x3 v3 u1
    else if v5 = (14 : Int32) then
    f279_71 n x3 v3 u1
    else f279_91 n x3 v3 (0 : Int32) u1
    else if v5 = (23 : Int32) then
    f279_91 n x3 v3 (1 : Int32) u1
    else f279_91 n x3 v3 (0 : Int32) u1
    else none
    else none
set_option maxRecDepth 20000 in
theorem f279_ok {n d : Nat} {x1 : Int32} {x2 : Int32} {x3 : Int32} {s : zσ} {v : Int32} {s2 : zσ} (hd : 1 ≤ d) (h : f279 n x1 x2 x3 s = some (v, s2)) {w : zσ} {fz : Bool} {L : Nat} {xs : Nat → Int32} : zGo (zX fz L xs) d q_279 (0, [(0, .ref 1132), (1, .int x1), (2, .int x2), (3, .int x3)], [], zmk w s, 0, 0) (some (.int v), zmk w s2, 0, 0) := by
  obtain ⟨d, rfl⟩ : ∃ d0, d = d0 + 1 := ⟨d - 1, by omega⟩
  unfold f279 at h
  refine zGo_s (pc' := 1) (st' := [.ref 1132]) dd279_0 rfl ?_
  refine mGF (e := 1237) dd279_1 rfl rfl rfl rfl rfl ?_
  refine zGo_s (pc' := 5) (st' := [.ref 1132, .ref 1237]) dd279_4 rfl ?_
  refine zGo_s (pc' := 6) (st' := [.int x1, .ref 1132, .ref 1237]) dd279_5 rfl ?_
  obtain ⟨v2, u1, hq, h⟩ := obnd h
  refine zCV1 (As := [.int x1]) (rest := [.ref 1237]) (b := 1132) (q' := q_214) dd279_6 rfl rfl (rcv_m rfl rfl (by decide)) rfl rfl rfl (f214_ok (d := d) (by omega)  hq) ?_
  obtain ⟨hi, h⟩ := ochk h
  refine mIA dd279_9 rfl rfl hi ?_
  obtain ⟨v3, e_v3, h⟩ := olet h
  refine zGo_is1 e_v3 dd279_10 (x' := (12, [(4, .int v3), (0, .ref 1132), (1, .int x1), (2, .int x2), (3, .int x3)], [], _, _, _)) rfl ?_
  refine zGo_s (pc' := 13) (st' := [.ref 1132]) dd279_12 rfl ?_
  obtain ⟨a4, e_a4, c_a4, h⟩ := ordd h
  refine mGR dd279_13 rfl rfl rfl rfl e_a4 ?_
  refine mGF (e := (a4 + 15)) dd279_16 rfl (ck12_s c_a4).1 (ck12_s c_a4).2 rfl (cf12_17 c_a4).1 ?_
  refine zGo_s (pc' := 21) (st' := [.int v3, .ref (a4 + 15)]) dd279_19 rfl ?_
  obtain ⟨hi, h⟩ := ochk h
  refine mIA dd279_21 (cf12_17 c_a4).2.1 (cf12_17 c_a4).2.2 hi ?_
  obtain ⟨v5, e_v5, h⟩ := olet h
  refine zGo_is1 e_v5 dd279_22 (x' := (24, [(5, .int v5), (4, .int v3), (0, .ref 1132), (1, .int x1), (2, .int x2), (3, .int x3)], [], _, _, _)) rfl ?_
  refine zGo_s (pc' := 25) (st' := [.int x2]) dd279_24 rfl ?_
  refine zGo_s (pc' := 26) (st' := [.int (2 : Int32), .int x2]) dd279_25 rfl ?_
  rcases oite h with ⟨hc, h⟩ | ⟨hc, h⟩
  · refine zIF dd279_26 (kNeF hc) ?_
    refine zGo_s (pc' := 31) (st' := [.int v5]) dd279_29 rfl ?_
    refine zGo_s (pc' := 33) (st' := [.int (10 : Int32), .int v5]) dd279_31 rfl ?_
    rcases oite h with ⟨hc, h⟩ | ⟨hc, h⟩
    · refine zIF dd279_33 (kNeF hc) ?_
      refine zGo_s (pc' := 37) (st' := [.ref 1132]) dd279_36 rfl ?_
      refine zGo_s (pc' := 39) (st' := [.int v3, .ref 1132]) dd279_37 rfl ?_
      refine zGo_s (pc' := 40) (st' := [.int x3, .int v3, .ref 1132]) dd279_39 rfl ?_
      obtain ⟨v7, u6, hq, h⟩ := obnd h
      refine zCV1 (As := [.int v3, .int x3]) (rest := []) (b := 1132) (q' := q_232) dd279_40 rfl rfl (rcv_m rfl rfl (by decide)) rfl rfl rfl (f232_ok (d := d) (by omega)  hq) ?_
      rcases oite h with ⟨hc, h⟩ | ⟨hc, h⟩
      · refine zUF dd279_43 (kLeF hc) ?_
        refine zGo_s (pc' := 47) (st' := [.int (1 : Int32)]) dd279_46 rfl ?_
        refine zGo_s (pc' := 51) (st' := [.int (1 : Int32)]) dd279_47 rfl ?_
        obtain ⟨rfl, rfl⟩ := oret h
        exact zGo_ret dd279_51 rfl rfl
      · refine zUT dd279_43 rfl (kLeT hc) ?_
        refine zGo_s (pc' := 51) (st' := [.int (0 : Int32)]) dd279_50 rfl ?_
        obtain ⟨rfl, rfl⟩ := oret h
        exact zGo_ret dd279_51 rfl rfl
    · refine zIT dd279_33 rfl (kNeT hc) ?_
      refine zGo_s (pc' := 51) (st' := [.int (0 : Int32)]) dd279_50 rfl ?_
      obtain ⟨rfl, rfl⟩ := oret h
      exact zGo_ret dd279_51 rfl rfl
  · refine zIT dd279_26 rfl (kNeT hc) ?_
    refine zGo_s (pc' := 53) (st' := [.int x2]) dd279_52 rfl ?_
    refine zGo_s (pc' := 54) (st' := [.int (3 : Int32), .int x2]) dd279_53 rfl ?_
    rcases oite h with ⟨hc, h⟩ | ⟨hc, h⟩
    · refine zIF dd279_54 (kNeF hc) ?_
      refine zGo_s (pc' := 59) (st' := [.int v5]) dd279_57 rfl ?_
      refine zGo_s (pc' := 61) (st' := [.int (12 : Int32), .int v5]) dd279_59 rfl ?_
      rcases oite h with ⟨hc, h⟩ | ⟨hc, h⟩
      · refine zIT dd279_61 rfl (kEqT hc) ?_
        exact zGo_lv (lv := [(0, .ref 1132), (3, .int x3), (4, .int v3)]) ⟨by simp, by simp, by simp⟩ (f279_71_ok hd h)
      · refine zIF dd279_61 (kEqF hc) ?_
        refine zGo_s (pc' := 66) (st' := [.int v5]) dd279_64 rfl ?_
        refine zGo_s (pc' := 68) (st' := [.int (14 : Int32), .int v5]) dd279_66 rfl ?_
        rcases oite h with ⟨hc, h⟩ | ⟨hc, h⟩
        · refine zIF dd279_68 (kNeF hc) ?_
          exact zGo_lv (lv := [(0, .ref 1132), (3, .int x3), (4, .int v3)]) ⟨by simp, by simp, by simp⟩ (f279_71_ok hd h)
        · refine zIT dd279_68 rfl (kNeT hc) ?_
          refine zGo_s (pc' := 76) (st' := [.int (0 : Int32)]) dd279_75 rfl ?_
          refine zGo_s (pc' := 91) (st' := [.int (0 : Int32)]) dd279_76 rfl ?_
          exact zGo_lv (lv := [(0, .ref 1132), (3, .int x3), (4, .int v3)]) ⟨by simp, by simp, by simp⟩ (f279_91_ok hd h)
    · refine zIT dd279_54 rfl (kNeT hc) ?_
      refine zGo_s (pc' := 81) (st' := [.int v5]) dd279_79 rfl ?_
      refine zGo_s (pc' := 83) (st' := [.int (23 : Int32), .int v5]) dd279_81 rfl ?_
      rcases oite h with ⟨hc, h⟩ | ⟨hc, h⟩
      · refine zIF dd279_83 (kNeF hc) ?_
        refine zGo_s (pc' := 87) (st' := [.int (1 : Int32)]) dd279_86 rfl ?_
        refine zGo_s (pc' := 91) (st' := [.int (1 : Int32)]) dd279_87 rfl ?_
        exact zGo_lv (lv := [(0, .ref 1132), (3, .int x3), (4, .int v3)]) ⟨by simp, by simp, by simp⟩ (f279_91_ok hd h)
      · refine zIT dd279_83 rfl (kNeT hc) ?_
        refine zGo_s (pc' := 91) (st' := [.int (0 : Int32)]) dd279_90 rfl ?_
        exact zGo_lv (lv := [(0, .ref 1132), (3, .int x3), (4, .int v3)]) ⟨by simp, by simp, by simp⟩ (f279_91_ok hd h)
