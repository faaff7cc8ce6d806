/-! PHModel.waitsTo(III)Z -/
theorem dd234_0 : decode cX13_waitsTo 0 = .ok (.aload_n 0, 1) := by decide +kernel
theorem dd234_1 : decode cX13_waitsTo 1 = .ok (.iload_n 1, 1) := by decide +kernel
theorem dd234_2 : decode cX13_waitsTo 2 = .ok (.invokevirtual 709, 3) := by decide +kernel
theorem dd234_5 : decode cX13_waitsTo 5 = .ok (.ifCond .eq 16, 3) := by decide +kernel
theorem dd234_8 : decode cX13_waitsTo 8 = .ok (.aload_n 0, 1) := by decide +kernel
theorem dd234_9 : decode cX13_waitsTo 9 = .ok (.getfield 127, 3) := by decide +kernel
theorem dd234_12 : decode cX13_waitsTo 12 = .ok (.aload_n 0, 1) := by decide +kernel
theorem dd234_13 : decode cX13_waitsTo 13 = .ok (.iload_n 1, 1) := by decide +kernel
theorem dd234_14 : decode cX13_waitsTo 14 = .ok (.invokevirtual 591, 3) := by decide +kernel
theorem dd234_17 : decode cX13_waitsTo 17 = .ok (.iaload, 1) := by decide +kernel
theorem dd234_18 : decode cX13_waitsTo 18 = .ok (.goto 4, 3) := by decide +kernel
theorem dd234_21 : decode cX13_waitsTo 21 = .ok (.iconst (-1), 1) := by decide +kernel
theorem dd234_22 : decode cX13_waitsTo 22 = .ok (.istore 4, 2) := by decide +kernel
theorem dd234_24 : decode cX13_waitsTo 24 = .ok (.iload 4, 2) := by decide +kernel
theorem dd234_26 : decode cX13_waitsTo 26 = .ok (.iconst (-1), 1) := by decide +kernel
theorem dd234_27 : decode cX13_waitsTo 27 = .ok (.if_icmp .eq 43, 3) := by decide +kernel
theorem dd234_30 : decode cX13_waitsTo 30 = .ok (.aload_n 0, 1) := by decide +kernel
theorem dd234_31 : decode cX13_waitsTo 31 = .ok (.getfield 20, 3) := by decide +kernel
theorem dd234_34 : decode cX13_waitsTo 34 = .ok (.getfield 459, 3) := by decide +kernel
theorem dd234_37 : decode cX13_waitsTo 37 = .ok (.iload 4, 2) := by decide +kernel
theorem dd234_39 : decode cX13_waitsTo 39 = .ok (.iaload, 1) := by decide +kernel
theorem dd234_40 : decode cX13_waitsTo 40 = .ok (.iload_n 2, 1) := by decide +kernel
theorem dd234_41 : decode cX13_waitsTo 41 = .ok (.if_icmp .ne 29, 3) := by decide +kernel
theorem dd234_44 : decode cX13_waitsTo 44 = .ok (.aload_n 0, 1) := by decide +kernel
theorem dd234_45 : decode cX13_waitsTo 45 = .ok (.getfield 20, 3) := by decide +kernel
theorem dd234_48 : decode cX13_waitsTo 48 = .ok (.getfield 544, 3) := by decide +kernel
theorem dd234_51 : decode cX13_waitsTo 51 = .ok (.aload_n 0, 1) := by decide +kernel
theorem dd234_52 : decode cX13_waitsTo 52 = .ok (.getfield 20, 3) := by decide +kernel
theorem dd234_55 : decode cX13_waitsTo 55 = .ok (.getfield 441, 3) := by decide +kernel
theorem dd234_58 : decode cX13_waitsTo 58 = .ok (.iload 4, 2) := by decide +kernel
theorem dd234_60 : decode cX13_waitsTo 60 = .ok (.iaload, 1) := by decide +kernel
theorem dd234_61 : decode cX13_waitsTo 61 = .ok (.iaload, 1) := by decide +kernel
theorem dd234_62 : decode cX13_waitsTo 62 = .ok (.iload_n 3, 1) := by decide +kernel
theorem dd234_63 : decode cX13_waitsTo 63 = .ok (.if_icmp .ne 7, 3) := by decide +kernel
theorem dd234_66 : decode cX13_waitsTo 66 = .ok (.iconst 1, 1) := by decide +kernel
theorem dd234_67 : decode cX13_waitsTo 67 = .ok (.goto 4, 3) := by decide +kernel
theorem dd234_70 : decode cX13_waitsTo 70 = .ok (.iconst 0, 1) := by decide +kernel
theorem dd234_71 : decode cX13_waitsTo 71 = .ok (.ireturn, 1) := by decide +kernel
def f234_22 (n : Nat) (x2 : Int32) (x3 : Int32) (y0 : Int32) (s : zσ) : Option (Int32 × zσ) :=
    if y0 = (-1 : Int32) then
    some ((0 : Int32), s)
    else zrd 12 (s.2.2 1132 11) fun a1 =>
    if zin? y0 200 = true then
    if (s.1 (a1 + 15) (nx y0)) = x2 then
    zrd 12 (s.2.2 1132 11) fun a2 =>
    zrd 12 (s.2.2 1132 11) fun a3 =>
    if zin? y0 200 = true then
    if zin? (s.1 (a3 + 17) (nx y0)) 1400 = true then
    if (s.1 (a2 + 33) (nx (s.1 (a3 + 17) (nx y0)))) = x3 then
    some ((1 : Int32), s)
    else some ((0 : Int32), s)
    else none
    else none
    else some ((0 : Int32), s)
    else none
set_option maxRecDepth 20000 in
theorem f234_22_ok {n d : Nat} {x2 : Int32} {x3 : Int32} {y0 : Int32} {s : zσ} {v : Int32} {s2 : zσ} (hd : 1 ≤ d) (h : f234_22 n x2 x3 y0 s = some (v, s2)) {w : zσ} {fz : Bool} {L : Nat} {xs : Nat → Int32} : zGo (zX fz L xs) d q_234 (22, [(0, .ref 1132), (2, .int x2), (3, .int x3)], [.int y0], zmk w s, 0, 0) (some (.int v), zmk w s2, 0, 0) := by
  obtain ⟨d, rfl⟩ : ∃ d0, d = d0 + 1 := ⟨d - 1, by omega⟩
  unfold f234_22 at h
  refine zGo_s (pc' := 24) (st' := []) (lv' := [(4, .int y0), (0, .ref 1132), (2, .int x2), (3, .int x3)]) dd234_22 rfl ?_
  refine zGo_s (pc' := 26) (st' := [.int y0]) dd234_24 rfl ?_
  refine zGo_s (pc' := 27) (st' := [.int (-1 : Int32), .int y0]) dd234_26 rfl ?_
  rcases oite h with ⟨hc, h⟩ | ⟨hc, h⟩
  · refine zIT dd234_27 rfl (kEqT hc) ?_
    refine zGo_s (pc' := 71) (st' := [.int (0 : Int32)]) dd234_70 rfl ?_
    obtain ⟨rfl, rfl⟩ := oret h
    exact zGo_ret dd234_71 rfl rfl
  · refine zIF dd234_27 (kEqF hc) ?_
    refine zGo_s (pc' := 31) (st' := [.ref 1132]) dd234_30 rfl ?_
    obtain ⟨a1, e_a1, c_a1, h⟩ := ordd h
    refine mGR dd234_31 rfl rfl rfl rfl e_a1 ?_
    refine mGF (e := (a1 + 15)) dd234_34 rfl (ck12_s c_a1).1 (ck12_s c_a1).2 rfl (cf12_17 c_a1).1 ?_
    refine zGo_s (pc' := 39) (st' := [.int y0, .ref (a1 + 15)]) dd234_37 rfl ?_
    obtain ⟨hi, h⟩ := ochk h
    refine mIA dd234_39 (cf12_17 c_a1).2.1 (cf12_17 c_a1).2.2 hi ?_
    refine zGo_s (pc' := 41) (st' := [.int x2, .int (s.1 (a1 + 15) (nx y0))]) dd234_40 rfl ?_
    rcases oite h with ⟨hc, h⟩ | ⟨hc, h⟩
    · refine zIF dd234_41 (kNeF hc) ?_
      refine zGo_s (pc' := 45) (st' := [.ref 1132]) dd234_44 rfl ?_
      obtain ⟨a2, e_a2, c_a2, h⟩ := ordd h
      refine mGR dd234_45 rfl rfl rfl rfl e_a2 ?_
      refine mGF (e := (a2 + 33)) dd234_48 rfl (ck12_s c_a2).1 (ck12_s c_a2).2 rfl (cf12_39 c_a2).1 ?_
      refine zGo_s (pc' := 52) (st' := [.ref 1132, .ref (a2 + 33)]) dd234_51 rfl ?_
      obtain ⟨a3, e_a3, c_a3, h⟩ := ordd h
      refine mGR dd234_52 rfl rfl rfl rfl e_a3 ?_
      refine mGF (e := (a3 + 17)) dd234_55 rfl (ck12_s c_a3).1 (ck12_s c_a3).2 rfl (cf12_19 c_a3).1 ?_
      refine zGo_s (pc' := 60) (st' := [.int y0, .ref (a3 + 17), .ref (a2 + 33)]) dd234_58 rfl ?_
      obtain ⟨hi, h⟩ := ochk h
      refine mIA dd234_60 (cf12_19 c_a3).2.1 (cf12_19 c_a3).2.2 hi ?_
      obtain ⟨hi, h⟩ := ochk h
      refine mIA dd234_61 (cf12_39 c_a2).2.1 (cf12_39 c_a2).2.2 hi ?_
      refine zGo_s (pc' := 63) (st' := [.int x3, .int (s.1 (a2 + 33) (nx (s.1 (a3 + 17) (nx y0))))]) dd234_62 rfl ?_
      rcases oite h with ⟨hc, h⟩ | ⟨hc, h⟩
      · refine zIF dd234_63 (kNeF hc) ?_
        refine zGo_s (pc' := 67) (st' := [.int (1 : Int32)]) dd234_66 rfl ?_
        refine zGo_s (pc' := 71) (st' := [.int (1 : Int32)]) dd234_67 rfl ?_
        obtain ⟨rfl, rfl⟩ := oret h
        exact zGo_ret dd234_71 rfl rfl
      · refine zIT dd234_63 rfl (kNeT hc) ?_
        refine zGo_s (pc' := 71) (st' := [.int (0 : Int32)]) dd234_70 rfl ?_
        obtain ⟨rfl, rfl⟩ := oret h
        exact zGo_ret dd234_71 rfl rfl
    · refine zIT dd234_41 rfl (kNeT hc) ?_
      refine zGo_s (pc' := 71) (st' := [.int (0 : Int32)]) dd234_70 rfl ?_
      obtain ⟨rfl, rfl⟩ := oret h
      exact zGo_ret dd234_71 rfl rfl
def f234 (n : Nat) (x1 : Int32) (x2 : Int32) (x3 : Int32) (s : zσ) : Option (Int32 × zσ) :=
    yb1 (f228 n x1 s) fun v2 u1 =>
    if v2 = (0 : Int32) then
    f234_22 n x2 x3 (-1 : Int32) u1
    else yb1 (f214 n x1 u1) fun v4 u3 =>
    if zin? v4 1120 = true then
    f234_22 n x2 x3 (u3.1 1237 (nx v4)) u3
    else none
set_option maxRecDepth 20000 in
theorem f234_ok {n d : Nat} {x1 : Int32} {x2 : Int32} {x3 : Int32} {s : zσ} {v : Int32} {s2 : zσ} (hd : 1 ≤ d) (h : f234 n x1 x2 x3 s = some (v, s2)) {w : zσ} {fz : Bool} {L : Nat} {xs : Nat → Int32} : zGo (zX fz L xs) d q_234 (0, [(0, .ref 1132), (1, .int x1), (2, .int x2), (3, .int x3)], [], zmk w s, 0, 0) (some (.int v), zmk w s2, 0, 0) := by
  obtain ⟨d, rfl⟩ : ∃ d0, d = d0 + 1 := ⟨d - 1, by omega⟩
  unfold f234 at h
  refine zGo_s (pc' := 1) (st' := [.ref 1132]) dd234_0 rfl ?_
  refine zGo_s (pc' := 2) (st' := [.int x1, .ref 1132]) dd234_1 rfl ?_
  obtain ⟨v2, u1, hq, h⟩ := obnd h
  refine zCV1 (As := [.int x1]) (rest := []) (b := 1132) (q' := q_228) dd234_2 rfl rfl (rcv_m rfl rfl (by decide)) rfl rfl rfl (f228_ok (d := d) (by omega)  hq) ?_
  rcases oite h with ⟨hc, h⟩ | ⟨hc, h⟩
  · refine zUT dd234_5 rfl (kEqT hc) ?_
    refine zGo_s (pc' := 22) (st' := [.int (-1 : Int32)]) dd234_21 rfl ?_
    exact zGo_lv (lv := [(0, .ref 1132), (2, .int x2), (3, .int x3)]) ⟨by simp, by simp, by simp⟩ (f234_22_ok hd h)
  · refine zUF dd234_5 (kEqF hc) ?_
    refine zGo_s (pc' := 9) (st' := [.ref 1132]) dd234_8 rfl ?_
    refine mGF (e := 1237) dd234_9 rfl rfl rfl rfl rfl ?_
    refine zGo_s (pc' := 13) (st' := [.ref 1132, .ref 1237]) dd234_12 rfl ?_
    refine zGo_s (pc' := 14) (st' := [.int x1, .ref 1132, .ref 1237]) dd234_13 rfl ?_
    obtain ⟨v4, u3, hq, h⟩ := obnd h
    refine zCV1 (As := [.int x1]) (rest := [.ref 1237]) (b := 1132) (q' := q_214) dd234_14 rfl rfl (rcv_m rfl rfl (by decide)) rfl rfl rfl (f214_ok (d := d) (by omega)  hq) ?_
    obtain ⟨hi, h⟩ := ochk h
    refine mIA dd234_17 rfl rfl hi ?_
    refine zGo_s (pc' := 22) (st' := [.int (u3.1 1237 (nx v4))]) dd234_18 rfl ?_
    exact zGo_lv (lv := [(0, .ref 1132), (2, .int x2), (3, .int x3)]) ⟨by simp, by simp, by simp⟩ (f234_22_ok hd h)
/-! PHModel.canHave(I)Z -/
theorem dd230_0 : decode cX13_canHave 0 = .ok (.aload_n 0, 1) := by decide +kernel
theorem dd230_1 : decode cX13_canHave 1 = .ok (.getfield 127, 3) := by decide +kernel
theorem dd230_4 : decode cX13_canHave 4 = .ok (.aload_n 0, 1) := by decide +kernel
theorem dd230_5 : decode cX13_canHave 5 = .ok (.iload_n 1, 1) := by decide +kernel
theorem dd230_6 : decode cX13_canHave 6 = .ok (.invokevirtual 591, 3) := by decide +kernel
theorem dd230_9 : decode cX13_canHave 9 = .ok (.iaload, 1) := by decide +kernel
theorem dd230_10 : decode cX13_canHave 10 = .ok (.istore_n 2, 1) := by decide +kernel
theorem dd230_11 : decode cX13_canHave 11 = .ok (.aload_n 0, 1) := by decide +kernel
theorem dd230_12 : decode cX13_canHave 12 = .ok (.getfield 20, 3) := by decide +kernel
theorem dd230_15 : decode cX13_canHave 15 = .ok (.getfield 441, 3) := by decide +kernel
theorem dd230_18 : decode cX13_canHave 18 = .ok (.iload_n 2, 1) := by decide +kernel
theorem dd230_19 : decode cX13_canHave 19 = .ok (.iaload, 1) := by decide +kernel
theorem dd230_20 : decode cX13_canHave 20 = .ok (.iconst (-1), 1) := by decide +kernel
theorem dd230_21 : decode cX13_canHave 21 = .ok (.if_icmp .ne 7, 3) := by decide +kernel
theorem dd230_24 : decode cX13_canHave 24 = .ok (.iconst (-1), 1) := by decide +kernel
theorem dd230_25 : decode cX13_canHave 25 = .ok (.goto 20, 3) := by decide +kernel
theorem dd230_28 : decode cX13_canHave 28 = .ok (.aload_n 0, 1) := by decide +kernel
theorem dd230_29 : decode cX13_canHave 29 = .ok (.getfield 20, 3) := by decide +kernel
theorem dd230_32 : decode cX13_canHave 32 = .ok (.getfield 544, 3) := by decide +kernel
theorem dd230_35 : decode cX13_canHave 35 = .ok (.aload_n 0, 1) := by decide +kernel
theorem dd230_36 : decode cX13_canHave 36 = .ok (.getfield 20, 3) := by decide +kernel
theorem dd230_39 : decode cX13_canHave 39 = .ok (.getfield 441, 3) := by decide +kernel
theorem dd230_42 : decode cX13_canHave 42 = .ok (.iload_n 2, 1) := by decide +kernel
theorem dd230_43 : decode cX13_canHave 43 = .ok (.iaload, 1) := by decide +kernel
theorem dd230_44 : decode cX13_canHave 44 = .ok (.iaload, 1) := by decide +kernel
theorem dd230_45 : decode cX13_canHave 45 = .ok (.istore_n 3, 1) := by decide +kernel
theorem dd230_46 : decode cX13_canHave 46 = .ok (.aload_n 0, 1) := by decide +kernel
theorem dd230_47 : decode cX13_canHave 47 = .ok (.getfield 20, 3) := by decide +kernel
theorem dd230_50 : decode cX13_canHave 50 = .ok (.getfield 459, 3) := by decide +kernel
theorem dd230_53 : decode cX13_canHave 53 = .ok (.iload_n 2, 1) := by decide +kernel
theorem dd230_54 : decode cX13_canHave 54 = .ok (.iaload, 1) := by decide +kernel
theorem dd230_55 : decode cX13_canHave 55 = .ok (.lookupswitch 78 #[(10, 33), (12, 39), (23, 63)], 33) := by decide +kernel
theorem dd230_88 : decode cX13_canHave 88 = .ok (.aload_n 0, 1) := by decide +kernel
theorem dd230_89 : decode cX13_canHave 89 = .ok (.iload_n 2, 1) := by decide +kernel
theorem dd230_90 : decode cX13_canHave 90 = .ok (.invokevirtual 703, 3) := by decide +kernel
theorem dd230_93 : decode cX13_canHave 93 = .ok (.ireturn, 1) := by decide +kernel
theorem dd230_94 : decode cX13_canHave 94 = .ok (.aload_n 0, 1) := by decide +kernel
theorem dd230_95 : decode cX13_canHave 95 = .ok (.getfield 51, 3) := by decide +kernel
theorem dd230_98 : decode cX13_canHave 98 = .ok (.iload_n 3, 1) := by decide +kernel
theorem dd230_99 : decode cX13_canHave 99 = .ok (.iaload, 1) := by decide +kernel
theorem dd230_100 : decode cX13_canHave 100 = .ok (.iconst (-1), 1) := by decide +kernel
theorem dd230_101 : decode cX13_canHave 101 = .ok (.if_icmp .ne 15, 3) := by decide +kernel
theorem dd230_104 : decode cX13_canHave 104 = .ok (.aload_n 0, 1) := by decide +kernel
theorem dd230_105 : decode cX13_canHave 105 = .ok (.iload_n 3, 1) := by decide +kernel
theorem dd230_106 : decode cX13_canHave 106 = .ok (.invokevirtual 712, 3) := by decide +kernel
theorem dd230_109 : decode cX13_canHave 109 = .ok (.ifCond .ne 7, 3) := by decide +kernel
theorem dd230_112 : decode cX13_canHave 112 = .ok (.iconst 1, 1) := by decide +kernel
theorem dd230_113 : decode cX13_canHave 113 = .ok (.goto 4, 3) := by decide +kernel
theorem dd230_116 : decode cX13_canHave 116 = .ok (.iconst 0, 1) := by decide +kernel
theorem dd230_117 : decode cX13_canHave 117 = .ok (.ireturn, 1) := by decide +kernel
theorem dd230_118 : decode cX13_canHave 118 = .ok (.aload_n 0, 1) := by decide +kernel
theorem dd230_119 : decode cX13_canHave 119 = .ok (.getfield 70, 3) := by decide +kernel
theorem dd230_122 : decode cX13_canHave 122 = .ok (.iload_n 3, 1) := by decide +kernel
theorem dd230_123 : decode cX13_canHave 123 = .ok (.iaload, 1) := by decide +kernel
theorem dd230_124 : decode cX13_canHave 124 = .ok (.ifCond .le 7, 3) := by decide +kernel
theorem dd230_127 : decode cX13_canHave 127 = .ok (.iconst 1, 1) := by decide +kernel
theorem dd230_128 : decode cX13_canHave 128 = .ok (.goto 4, 3) := by decide +kernel
theorem dd230_131 : decode cX13_canHave 131 = .ok (.iconst 0, 1) := by decide +kernel
theorem dd230_132 : decode cX13_canHave 132 = .ok (.ireturn, 1) := by decide +kernel
theorem dd230_133 : decode cX13_canHave 133 = .ok (.aload_n 0, 1) := by decide +kernel
theorem dd230_134 : decode cX13_canHave 134 = .ok (.getfield 51, 3) := by decide +kernel
theorem dd230_137 : decode cX13_canHave 137 = .ok (.iload_n 3, 1) := by decide +kernel
theorem dd230_138 : decode cX13_canHave 138 = .ok (.iaload, 1) := by decide +kernel
theorem dd230_139 : decode cX13_canHave 139 = .ok (.iconst (-1), 1) := by decide +kernel
theorem dd230_140 : decode cX13_canHave 140 = .ok (.if_icmp .ne 7, 3) := by decide +kernel
theorem dd230_143 : decode cX13_canHave 143 = .ok (.iconst 1, 1) := by decide +kernel
theorem dd230_144 : decode cX13_canHave 144 = .ok (.goto 4, 3) := by decide +kernel
theorem dd230_147 : decode cX13_canHave 147 = .ok (.iconst 0, 1) := by decide +kernel
theorem dd230_148 : decode cX13_canHave 148 = .ok (.istore 4, 2) := by decide +kernel
theorem dd230_150 : decode cX13_canHave 150 = .ok (.iconst 0, 1) := by decide +kernel
theorem dd230_151 : decode cX13_canHave 151 = .ok (.istore 5, 2) := by decide +kernel
theorem dd230_153 : decode cX13_canHave 153 = .ok (.iload 5, 2) := by decide +kernel
theorem dd230_155 : decode cX13_canHave 155 = .ok (.aload_n 0, 1) := by decide +kernel
theorem dd230_156 : decode cX13_canHave 156 = .ok (.invokevirtual 583, 3) := by decide +kernel
theorem dd230_159 : decode cX13_canHave 159 = .ok (.if_icmp .ge 43, 3) := by decide +kernel
theorem dd230_162 : decode cX13_canHave 162 = .ok (.iload 4, 2) := by decide +kernel
theorem dd230_164 : decode cX13_canHave 164 = .ok (.ifCond .eq 29, 3) := by decide +kernel
theorem dd230_167 : decode cX13_canHave 167 = .ok (.aload_n 0, 1) := by decide +kernel
theorem dd230_168 : decode cX13_canHave 168 = .ok (.iload 5, 2) := by decide +kernel
theorem dd230_170 : decode cX13_canHave 170 = .ok (.bipush 12, 2) := by decide +kernel
theorem dd230_172 : decode cX13_canHave 172 = .ok (.iload_n 3, 1) := by decide +kernel
theorem dd230_173 : decode cX13_canHave 173 = .ok (.invokevirtual 715, 3) := by decide +kernel
theorem dd230_176 : decode cX13_canHave 176 = .ok (.ifCond .eq 13, 3) := by decide +kernel
theorem dd230_179 : decode cX13_canHave 179 = .ok (.aload_n 0, 1) := by decide +kernel
theorem dd230_180 : decode cX13_canHave 180 = .ok (.iload 5, 2) := by decide +kernel
theorem dd230_182 : decode cX13_canHave 182 = .ok (.iload_n 1, 1) := by decide +kernel
theorem dd230_183 : decode cX13_canHave 183 = .ok (.invokevirtual 745, 3) := by decide +kernel
theorem dd230_186 : decode cX13_canHave 186 = .ok (.ifCond .ne 7, 3) := by decide +kernel
theorem dd230_189 : decode cX13_canHave 189 = .ok (.iconst 1, 1) := by decide +kernel
theorem dd230_190 : decode cX13_canHave 190 = .ok (.goto 4, 3) := by decide +kernel
theorem dd230_193 : decode cX13_canHave 193 = .ok (.iconst 0, 1) := by decide +kernel
theorem dd230_194 : decode cX13_canHave 194 = .ok (.istore 4, 2) := by decide +kernel
theorem dd230_196 : decode cX13_canHave 196 = .ok (.iinc 5 1, 3) := by decide +kernel
theorem dd230_199 : decode cX13_canHave 199 = .ok (.goto (-46), 3) := by decide +kernel
theorem dd230_202 : decode cX13_canHave 202 = .ok (.iload 4, 2) := by decide +kernel
theorem dd230_204 : decode cX13_canHave 204 = .ok (.ireturn, 1) := by decide +kernel
def f230_194 (n : Nat) (r153 : Int32 → Int32 → Int32 → Int32 → zσ → Option (Int32 × zσ)) (x1 : Int32) (x3 : Int32) (x5 : Int32) (y0 : Int32) (s : zσ) : Option (Int32 × zσ) :=
    r153 x1 x3 y0 (x5 + (1 : Int32)) s
set_option maxRecDepth 20000 in
theorem f230_194_ok {n d : Nat} {r153 : Int32 → Int32 → Int32 → Int32 → zσ → Option (Int32 × zσ)} {x1 : Int32} {x3 : Int32} {x5 : Int32} {y0 : Int32} {s : zσ} {v : Int32} {s2 : zσ} (hd : 2 ≤ d) (hr153 : ∀ (x1 : Int32) (x3 : Int32) (x4 : Int32) (x5 : Int32) (s : zσ) (v : Int32) (s2 : zσ), r153 x1 x3 x4 x5 s = some (v, s2) → ∀ {w : zσ} {fz : Bool} {L : Nat} {xs : Nat → Int32}, zGo (zX fz L xs) d q_230 (153, [(0, .ref 1132), (1, .int x1), (3, .int x3), (4, .int x4), (5, .int x5)], [], zmk w s, 0, 0) (some (.int v), zmk w s2, 0, 0)) (h : f230_194 n r153 x1 x3 x5 y0 s = some (v, s2)) {w : zσ} {fz : Bool} {L : Nat} {xs : Nat → Int32} : zGo (zX fz L xs) d q_230 (194, [(0, .ref 1132), (1, .int x1), (3, .int x3), (5, .int x5)], [.int y0], zmk w s, 0, 0) (some (.int v), zmk w s2, 0, 0) := by
  obtain ⟨d, rfl⟩ : ∃ d0, d = d0 + 1 := ⟨d - 1, by omega⟩
  unfold f230_194 at h
  refine zGo_s (pc' := 196) (st' := []) (lv' := [(4, .int y0), (0, .ref 1132), (1, .int x1), (3, .int x3), (5, .int x5)]) dd230_194 rfl ?_
  refine zGo_s (pc' := 199) (st' := []) (lv' := [(5, .int (x5 + (1 : Int32))), (4, .int y0), (0, .ref 1132), (1, .int x1), (3, .int x3)]) dd230_196 rfl ?_
  refine zGo_s (pc' := 153) (st' := []) dd230_199 rfl ?_
  exact zGo_lv (lv := [(0, .ref 1132), (1, .int x1), (3, .int x3), (4, .int y0), (5, .int (x5 + (1 : Int32)))]) ⟨by simp, by simp, by simp⟩ (hr153 _ _ _ _ _ _ _ h)
def f230_193 (n : Nat) (r153 : Int32 → Int32 → Int32 → Int32 → zσ → Option (Int32 × zσ)) (x1 : Int32) (x3 : Int32) (x5 : Int32) (s : zσ) : Option (Int32 × zσ) :=
    f230_194 n r153 x1 x3 x5 (0 : Int32) s
set_option maxRecDepth 20000 in
theorem f230_193_ok {n d : Nat} {r153 : Int32 → Int32 → Int32 → Int32 → zσ → Option (Int32 × zσ)} {x1 : Int32} {x3 : Int32} {x5 : Int32} {s : zσ} {v : Int32} {s2 : zσ} (hd : 2 ≤ d) (hr153 : ∀ (x1 : Int32) (x3 : Int32) (x4 : Int32) (x5 : Int32) (s : zσ) (v : Int32) (s2 : zσ), r153 x1 x3 x4 x5 s = some (v, s2) → ∀ {w : zσ} {fz : Bool} {L : Nat} {xs : Nat → Int32}, zGo (zX fz L xs) d q_230 (153, [(0, .ref 1132), (1, .int x1), (3, .int x3), (4, .int x4), (5, .int x5)], [], zmk w s, 0, 0) (some (.int v), zmk w s2, 0, 0)) (h : f230_193 n r153 x1 x3 x5 s = some (v, s2)) {w : zσ} {fz : Bool} {L : Nat} {xs : Nat → Int32} : zGo (zX fz L xs) d q_230 (193, [(0, .ref 1132), (1, .int x1), (3, .int x3), (5, .int x5)], [], zmk w s, 0, 0) (some (.int v), zmk w s2, 0, 0) := by
  obtain ⟨d, rfl⟩ : ∃ d0, d = d0 + 1 := ⟨d - 1, by omega⟩
  unfold f230_193 at h
  refine zGo_s (pc' := 194) (st' := [.int (0 : Int32)]) dd230_193 rfl ?_
  exact f230_194_ok hd hr153 h
def f230_189 (n : Nat) (r153 : Int32 → Int32 → Int32 → Int32 → zσ → Option (Int32 × zσ)) (x1 : Int32) (x3 : Int32) (x5 : Int32) (s : zσ) : Option (Int32 × zσ) :=
    f230_194 n r153 x1 x3 x5 (1 : Int32) s
set_option maxRecDepth 20000 in
theorem f230_189_ok {n d : Nat} {r153 : Int32 → Int32 → Int32 → Int32 → zσ → Option (Int32 × zσ)} {x1 : Int32} {x3 : Int32} {x5 : Int32} {s : zσ} {v : Int32} {s2 : zσ} (hd : 2 ≤ d) (hr153 : ∀ (x1 : Int32) (x3 : Int32) (x4 : Int32) (x5 : Int32) (s : zσ) (v : Int32) (s2 : zσ), r153 x1 x3 x4 x5 s = some (v, s2) → ∀ {w : zσ} {fz : Bool} {L : Nat} {xs : Nat → Int32}, zGo (zX fz L xs) d q_230 (153, [(0, .ref 1132), (1, .int x1), (3, .int x3), (4, .int x4), (5, .int x5)], [], zmk w s, 0, 0) (some (.int v), zmk w s2, 0, 0)) (h : f230_189 n r153 x1 x3 x5 s = some (v, s2)) {w : zσ} {fz : Bool} {L : Nat} {xs : Nat → Int32} : zGo (zX fz L xs) d q_230 (189, [(0, .ref 1132), (1, .int x1), (3, .int x3), (5, .int x5)], [], zmk w s, 0, 0) (some (.int v), zmk w s2, 0, 0) := by
  obtain ⟨d, rfl⟩ : ∃ d0, d = d0 + 1 := ⟨d - 1, by omega⟩
  unfold f230_189 at h
  refine zGo_s (pc' := 190) (st' := [.int (1 : Int32)]) dd230_189 rfl ?_
  refine zGo_s (pc' := 194) (st' := [.int (1 : Int32)]) dd230_190 rfl ?_
  exact f230_194_ok hd hr153 h
def f230_153 (n : Nat) : Nat → Int32 → Int32 → Int32 → Int32 → zσ → Option (Int32 × zσ)
  | 0, _, _, _, _, _ => none
  | j + 1, x1, x3, x4, x5, s =>
    yb1 (f209 n s) fun v2 u1 =>
    if x5 < v2 then
    if x4 = (0 : Int32) then
    f230_193 n (f230_153 n j) x1 x3 x5 u1
    else yb1 (f234 n x5 (12 : Int32) x3 u1) fun v4 u3 =>
    if v4 = (0 : Int32) then
    f230_189 n (f230_153 n j) x1 x3 x5 u3
    else yb1 (f229 n x5 x1 u3) fun v6 u5 =>
    if v6 = (0 : Int32) then
    f230_189 n (f230_153 n j) x1 x3 x5 u5
    else f230_193 n (f230_153 n j) x1 x3 x5 u5
    else if x4 = 0 ∨ x4 = 1 then
    some (x4, u1)
    else none
set_option maxRecDepth 20000 in
theorem f230_153_ok {n d : Nat} (hd : 2 ≤ d) : ∀ (j : Nat) (x1 : Int32) (x3 : Int32) (x4 : Int32) (x5 : Int32) (s : zσ) (v : Int32) (s2 : zσ), f230_153 n j x1 x3 x4 x5 s = some (v, s2) → ∀ {w : zσ} {fz : Bool} {L : Nat} {xs : Nat → Int32}, zGo (zX fz L xs) d q_230 (153, [(0, .ref 1132), (1, .int x1), (3, .int x3), (4, .int x4), (5, .int x5)], [], zmk w s, 0, 0) (some (.int v), zmk w s2, 0, 0) := by
  obtain ⟨d, rfl⟩ : ∃ d0, d = d0 + 1 := ⟨d - 1, by omega⟩
  intro j
  induction j with
  | zero => intro x1 x3 x4 x5 s v s2 h; cases h
  | succ j ih =>
    intro x1 x3 x4 x5 s v s2 h w fz L xs
    rw [f230_153] at h
    refine zGo_s (pc' := 155) (st' := [.int x5]) dd230_153 rfl ?_
    refine zGo_s (pc' := 156) (st' := [.ref 1132, .int x5]) dd230_155 rfl ?_
    obtain ⟨v2, u1, hq, h⟩ := obnd h
    refine zCV1 (As := []) (rest := [.int x5]) (b := 1132) (q' := q_209) dd230_156 rfl rfl (rcv_m rfl rfl (by decide)) rfl rfl rfl (f209_ok (d := d) (by omega)  hq) ?_
    rcases oite h with ⟨hc, h⟩ | ⟨hc, h⟩
    · refine zIF dd230_159 (kGeF hc) ?_
      refine zGo_s (pc' := 164) (st' := [.int x4]) dd230_162 rfl ?_
      rcases oite h with ⟨hc, h⟩ | ⟨hc, h⟩
      · refine zUT dd230_164 rfl (kEqT hc) ?_
        exact zGo_lv (lv := [(0, .ref 1132), (1, .int x1), (3, .int x3), (5, .int x5)]) ⟨by simp, by simp, by simp⟩ (f230_193_ok hd ih h)
      · refine zUF dd230_164 (kEqF hc) ?_
        refine zGo_s (pc' := 168) (st' := [.ref 1132]) dd230_167 rfl ?_
        refine zGo_s (pc' := 170) (st' := [.int x5, .ref 1132]) dd230_168 rfl ?_
        refine zGo_s (pc' := 172) (st' := [.int (12 : Int32), .int x5, .ref 1132]) dd230_170 rfl ?_
        refine zGo_s (pc' := 173) (st' := [.int x3, .int (12 : Int32), .int x5, .ref 1132]) dd230_172 rfl ?_
        obtain ⟨v4, u3, hq, h⟩ := obnd h
        refine zCV1 (As := [.int x5, .int (12 : Int32), .int x3]) (rest := []) (b := 1132) (q' := q_234) dd230_173 rfl rfl (rcv_m rfl rfl (by decide)) rfl rfl rfl (f234_ok (d := d) (by omega)  hq) ?_
        rcases oite h with ⟨hc, h⟩ | ⟨hc, h⟩
        · refine zUT dd230_176 rfl (kEqT hc) ?_
          exact zGo_lv (lv := [(0, .ref 1132), (1, .int x1), (3, .int x3), (5, .int x5)]) ⟨by simp, by simp, by simp⟩ (f230_189_ok hd ih h)
        · refine zUF dd230_176 (kEqF hc) ?_
          refine zGo_s (pc' := 180) (st' := [.ref 1132]) dd230_179 rfl ?_
          refine zGo_s (pc' := 182) (st' := [.int x5, .ref 1132]) dd230_180 rfl ?_
          refine zGo_s (pc' := 183) (st' := [.int x1, .int x5, .ref 1132]) dd230_182 rfl ?_
          obtain ⟨v6, u5, hq, h⟩ := obnd h
          refine zCV1 (As := [.int x5, .int x1]) (rest := []) (b := 1132) (q' := q_229) dd230_183 rfl rfl (rcv_m rfl rfl (by decide)) rfl rfl rfl (f229_ok (d := d) (by omega)  hq) ?_
          rcases oite h with ⟨hc, h⟩ | ⟨hc, h⟩
          · refine zUF dd230_186 (kNeF hc) ?_
            exact zGo_lv (lv := [(0, .ref 1132), (1, .int x1), (3, .int x3), (5, .int x5)]) ⟨by simp, by simp, by simp⟩ (f230_189_ok hd ih h)
          · refine zUT dd230_186 rfl (kNeT hc) ?_
            exact zGo_lv (lv := [(0, .ref 1132), (1, .int x1), (3, .int x3), (5, .int x5)]) ⟨by simp, by simp, by simp⟩ (f230_193_ok hd ih h)
    · refine zIT dd230_159 rfl (kGeT hc) ?_
      refine zGo_s (pc' := 204) (st' := [.int x4]) dd230_202 rfl ?_
      obtain ⟨hb, h⟩ := ochk h
      obtain ⟨rfl, rfl⟩ := oret h
      exact zGo_ret dd230_204 rfl (if_pos hb)
def f230_148 (n : Nat) (x1 : Int32) (x3 : Int32) (y0 : Int32) (s : zσ) : Option (Int32 × zσ) :=
    f230_153 n n x1 x3 y0 (0 : Int32) s
set_option maxRecDepth 20000 in
theorem f230_148_ok {n d : Nat} {x1 : Int32} {x3 : Int32} {y0 : Int32} {s : zσ} {v : Int32} {s2 : zσ} (hd : 2 ≤ d) (h : f230_148 n x1 x3 y0 s = some (v, s2)) {w : zσ} {fz : Bool} {L : Nat} {xs : Nat → Int32} : zGo (zX fz L xs) d q_230 (148, [(0, .ref 1132), (1, .int x1), (3, .int x3)], [.int y0], zmk w s, 0, 0) (some (.int v), zmk w s2, 0, 0) := by
  obtain ⟨d, rfl⟩ : ∃ d0, d = d0 + 1 := ⟨d - 1, by omega⟩
  unfold f230_148 at h
  refine zGo_s (pc' := 150) (st' := []) (lv' := [(4, .int y0), (0, .ref 1132), (1, .int x1), (3, .int x3)]) dd230_148 rfl ?_
  refine zGo_s (pc' := 151) (st' := [.int (0 : Int32)]) dd230_150 rfl ?_
  refine zGo_s (pc' := 153) (st' := []) (lv' := [(5, .int (0 : Int32)), (4, .int y0), (0, .ref 1132), (1, .int x1), (3, .int x3)]) dd230_151 rfl ?_
  exact zGo_lv (lv := [(0, .ref 1132), (1, .int x1), (3, .int x3), (4, .int y0), (5, .int (0 : Int32))]) ⟨by simp, by simp, by simp⟩ (f230_153_ok hd _ _ _ _ _ _ _ _ h)
def f230_45 (n : Nat) (x1 : Int32) (x2 : Int32) (y0 : Int32) (s : zσ) : Option (Int32 × zσ) :=
    zrd 12 (s.2.2 1132 11) fun a1 =>
    if zin? x2 200 = true then
    if (s.1 (a1 + 15) (nx x2)) = (10 : Int32) then
    yb1 (f231 n x2 s) fun v3 u2 =>
    if v3 = 0 ∨ v3 = 1 then
    some (v3, u2)
    else none
    else if (s.1 (a1 + 15) (nx x2)) = (12 : Int32) then
    if zin? y0 4 = true then
    if (s.1 1212 (nx y0)) = (-1 : Int32) then
    yb1 (f233 n y0 s) fun v5 u4 =>
    if v5 = (0 : Int32) then
    some ((1 : Int32), u4)
    else some ((0 : Int32), u4)
    else some ((0 : Int32), s)
    else none
    else if (s.1 (a1 + 15) (nx x2)) = (23 : Int32) then
    if zin? y0 4 = true then
    if (0 : Int32) < (s.1 1218 (nx y0)) then
    some ((1 : Int32), s)
    else some ((0 : Int32), s)
    else none
    else if zin? y0 4 = true then
    if (s.1 1212 (nx y0)) = (-1 : Int32) then
    f230_148 n x1 y0 (1 : Int32) s
    else f230_148 n x1 y0 (0 : Int32) s
    else none
    else none
set_option maxRecDepth 20000 in
theorem f230_45_ok {n d : Nat} {x1 : Int32} {x2 : Int32} {y0 : Int32} {s : zσ} {v : Int32} {s2 : zσ} (hd : 2 ≤ d) (h : f230_45 n x1 x2 y0 s = some (v, s2)) {w : zσ} {fz : Bool} {L : Nat} {xs : Nat → Int32} : zGo (zX fz L xs) d q_230 (45, [(0, .ref 1132), (1, .int x1), (2, .int x2)], [.int y0], zmk w s, 0, 0) (some (.int v), zmk w s2, 0, 0) := by
  obtain ⟨d, rfl⟩ : ∃ d0, d = d0 + 1 := ⟨d - 1, by omega⟩
  unfold f230_45 at h
  refine zGo_s (pc' := 46) (st' := []) (lv' := [(3, .int y0), (0, .ref 1132), (1, .int x1), (2, .int x2)]) dd230_45 rfl ?_
  refine zGo_s (pc' := 47) (st' := [.ref 1132]) dd230_46 rfl ?_
  obtain ⟨a1, e_a1, c_a1, h⟩ := ordd h
  refine mGR dd230_47 rfl rfl rfl rfl e_a1 ?_
  refine mGF (e := (a1 + 15)) dd230_50 rfl (ck12_s c_a1).1 (ck12_s c_a1).2 rfl (cf12_17 c_a1).1 ?_
  refine zGo_s (pc' := 54) (st' := [.int x2, .ref (a1 + 15)]) dd230_53 rfl ?_
  obtain ⟨hi, h⟩ := ochk h
  refine mIA dd230_54 (cf12_17 c_a1).2.1 (cf12_17 c_a1).2.2 hi ?_
  rcases oite h with ⟨hc, h⟩ | ⟨hn0, h⟩
  · refine zGo_lw dd230_55 (o := 33) (by rw [hc]; decide +kernel) rfl ?_
    refine zGo_s (pc' := 89) (st' := [.ref 1132]) dd230_88 rfl ?_
    refine zGo_s (pc' := 90) (st' := [.int x2, .ref 1132]) dd230_89 rfl ?_
    obtain ⟨v3, u2, hq, h⟩ := obnd h
    refine zCV1 (As := [.int x2]) (rest := []) (b := 1132) (q' := q_231) dd230_90 rfl rfl (rcv_m rfl rfl (by decide)) rfl rfl rfl (f231_ok (d := d) (by omega)  hq) ?_
    obtain ⟨hb, h⟩ := ochk h
    obtain ⟨rfl, rfl⟩ := oret h
    exact zGo_ret dd230_93 rfl (if_pos hb)
  rcases oite h with ⟨hc, h⟩ | ⟨hn1, h⟩
  · refine zGo_lw dd230_55 (o := 39) (by rw [hc]; decide +kernel) rfl ?_
    refine zGo_s (pc' := 95) (st' := [.ref 1132]) dd230_94 rfl ?_
    refine mGF (e := 1212) dd230_95 rfl rfl rfl rfl rfl ?_
    refine zGo_s (pc' := 99) (st' := [.int y0, .ref 1212]) dd230_98 rfl ?_
    obtain ⟨hi, h⟩ := ochk h
    refine mIA dd230_99 rfl rfl hi ?_
    refine zGo_s (pc' := 101) (st' := [.int (-1 : Int32), .int (s.1 1212 (nx y0))]) dd230_100 rfl ?_
    rcases oite h with ⟨hc, h⟩ | ⟨hc, h⟩
    · refine zIF dd230_101 (kNeF hc) ?_
      refine zGo_s (pc' := 105) (st' := [.ref 1132]) dd230_104 rfl ?_
      refine zGo_s (pc' := 106) (st' := [.int y0, .ref 1132]) dd230_105 rfl ?_
      obtain ⟨v5, u4, hq, h⟩ := obnd h
      refine zCV1 (As := [.int y0]) (rest := []) (b := 1132) (q' := q_233) dd230_106 rfl rfl (rcv_m rfl rfl (by decide)) rfl rfl rfl (f233_ok (d := d) (by omega)  hq) ?_
      rcases oite h with ⟨hc, h⟩ | ⟨hc, h⟩
      · refine zUF dd230_109 (kNeF hc) ?_
        refine zGo_s (pc' := 113) (st' := [.int (1 : Int32)]) dd230_112 rfl ?_
        refine zGo_s (pc' := 117) (st' := [.int (1 : Int32)]) dd230_113 rfl ?_
        obtain ⟨rfl, rfl⟩ := oret h
        exact zGo_ret dd230_117 rfl rfl
      · refine zUT dd230_109 rfl (kNeT hc) ?_
        refine zGo_s (pc' := 117) (st' := [.int (0 : Int32)]) dd230_116 rfl ?_
        obtain ⟨rfl, rfl⟩ := oret h
        exact zGo_ret dd230_117 rfl rfl
    · refine zIT dd230_101 rfl (kNeT hc) ?_
      refine zGo_s (pc' := 117) (st' := [.int (0 : Int32)]) dd230_116 rfl ?_
      obtain ⟨rfl, rfl⟩ := oret h
      exact zGo_ret dd230_117 rfl rfl
  rcases oite h with ⟨hc, h⟩ | ⟨hn2, h⟩
  · refine zGo_lw dd230_55 (o := 63) (by rw [hc]; decide +kernel) rfl ?_
    refine zGo_s (pc' := 119) (st' := [.ref 1132]) dd230_118 rfl ?_
    refine mGF (e := 1218) dd230_119 rfl rfl rfl rfl rfl ?_
    refine zGo_s (pc' := 123) (st' := [.int y0, .ref 1218]) dd230_122 rfl ?_
    obtain ⟨hi, h⟩ := ochk h
    refine mIA dd230_123 rfl rfl hi ?_
    rcases oite h with ⟨hc, h⟩ | ⟨hc, h⟩
    · refine zUF dd230_124 (kLeF hc) ?_
      refine zGo_s (pc' := 128) (st' := [.int (1 : Int32)]) dd230_127 rfl ?_
      refine zGo_s (pc' := 132) (st' := [.int (1 : Int32)]) dd230_128 rfl ?_
      obtain ⟨rfl, rfl⟩ := oret h
      exact zGo_ret dd230_132 rfl rfl
    · refine zUT dd230_124 rfl (kLeT hc) ?_
      refine zGo_s (pc' := 132) (st' := [.int (0 : Int32)]) dd230_131 rfl ?_
      obtain ⟨rfl, rfl⟩ := oret h
      exact zGo_ret dd230_132 rfl rfl
  refine zGo_lw dd230_55 (o := 78) (zlo_d (by decide +kernel) fun p hp => ?_) rfl ?_
  · simp only [List.mem_cons, List.not_mem_nil, or_false] at hp
    rcases hp with rfl | rfl | rfl
    · exact hn0
    · exact hn1
    · exact hn2
  refine zGo_s (pc' := 134) (st' := [.ref 1132]) dd230_133 rfl ?_
  refine mGF (e := 1212) dd230_134 rfl rfl rfl rfl rfl ?_
  refine zGo_s (pc' := 138) (st' := [.int y0, .ref 1212]) dd230_137 rfl ?_
  obtain ⟨hi, h⟩ := ochk h
  refine mIA dd230_138 rfl rfl hi ?_
  refine zGo_s (pc' := 140) (st' := [.int (-1 : Int32), .int (s.1 1212 (nx y0))]) dd230_139 rfl ?_
  rcases oite h with ⟨hc, h⟩ | ⟨hc, h⟩
  · refine zIF dd230_140 (kNeF hc) ?_
    refine zGo_s (pc' := 144) (st' := [.int (1 : Int32)]) dd230_143 rfl ?_
    refine zGo_s (pc' := 148) (st' := [.int (1 : Int32)]) dd230_144 rfl ?_
    exact zGo_lv (lv := [(0, .ref 1132), (1, .int x1), (3, .int y0)]) ⟨by simp, by simp, by simp⟩ (f230_148_ok hd h)
  · refine zIT dd230_140 rfl (kNeT hc) ?_
    refine zGo_s (pc' := 148) (st' := [.int (0 : Int32)]) dd230_147 rfl ?_
    exact zGo_lv (lv := [(0, .ref 1132), (1, .int x1), (3, .int y0)]) ⟨by simp, by simp, by simp⟩ (f230_148_ok hd h)
def f230 (n : Nat) (x1 : Int32) (s : zσ) : Option (Int32 × zσ) :=
    yb1 (f214 n x1 s) fun v2 u1 =>
    if zin? v2 1120 = true then
    zlet ((u1.1 1237 (nx v2))) fun v3 =>
    zrd 12 (u1.2.2 1132 11) fun a4 =>
    if zin? v3 200 = true then
    if (u1.1 (a4 + 17) (nx v3)) = (-1 : Int32) then
    f230_45 n x1 v3 (-1 : Int32) u1
    else zrd 12 (u1.2.2 1132 11) fun a5 =>
    zrd 12 (u1.2.2 1132 11) fun a6 =>
    if zin? v3 200 = true then
    if zin? (u1.1 (a6 + 17) (nx v3)) 1400 = true then
    f230_45 n x1 v3 (u1.1 (a5 + 33) (nx (u1.1 (a6 + 17) (nx v3)))) u1
    else none
    else none
    else none
    else none
set_option maxRecDepth 20000 in
theorem f230_ok {n d : Nat} {x1 : Int32} {s : zσ} {v : Int32} {s2 : zσ} (hd : 2 ≤ d) (h : f230 n x1 s = some (v, s2)) {w : zσ} {fz : Bool} {L : Nat} {xs : Nat → Int32} : zGo (zX fz L xs) d q_230 (0, [(0, .ref 1132), (1, .int x1)], [], zmk w s, 0, 0) (some (.int v), zmk w s2, 0, 0) := by
  obtain ⟨d, rfl⟩ : ∃ d0, d = d0 + 1 := ⟨d - 1, by omega⟩
  unfold f230 at h
  refine zGo_s (pc' := 1) (st' := [.ref 1132]) dd230_0 rfl ?_
  refine mGF (e := 1237) dd230_1 rfl rfl rfl rfl rfl ?_
  refine zGo_s (pc' := 5) (st' := [.ref 1132, .ref 1237]) dd230_4 rfl ?_
  refine zGo_s (pc' := 6) (st' := [.int x1, .ref 1132, .ref 1237]) dd230_5 rfl ?_
  obtain ⟨v2, u1, hq, h⟩ := obnd h
  refine zCV1 (As := [.int x1]) (rest := [.ref 1237]) (b := 1132) (q' := q_214) dd230_6 rfl rfl (rcv_m rfl rfl (by decide)) rfl rfl rfl (f214_ok (d := d) (by omega)  hq) ?_
  obtain ⟨hi, h⟩ := ochk h
  refine mIA dd230_9 rfl rfl hi ?_
  obtain ⟨v3, e_v3, h⟩ := olet h
  refine zGo_is1 e_v3 dd230_10 (x' := (11, [(2, .int v3), (0, .ref 1132), (1, .int x1)], [], _, _, _)) rfl ?_
  refine zGo_s (pc' := 12) (st' := [.ref 1132]) dd230_11 rfl ?_
  obtain ⟨a4, e_a4, c_a4, h⟩ := ordd h
  refine mGR dd230_12 rfl rfl rfl rfl e_a4 ?_
  refine mGF (e := (a4 + 17)) dd230_15 rfl (ck12_s c_a4).1 (ck12_s c_a4).2 rfl (cf12_19 c_a4).1 ?_
  refine zGo_s (pc' := 19) (st' := [.int v3, .ref (a4 + 17)]) dd230_18 rfl ?_
  obtain ⟨hi, h⟩ := ochk h
  refine mIA dd230_19 (cf12_19 c_a4).2.1 (cf12_19 c_a4).2.2 hi ?_
  refine zGo_s (pc' := 21) (st' := [.int (-1 : Int32), .int (u1.1 (a4 + 17) (nx v3))]) dd230_20 rfl ?_
  rcases oite h with ⟨hc, h⟩ | ⟨hc, h⟩
  · refine zIF dd230_21 (kNeF hc) ?_
    refine zGo_s (pc' := 25) (st' := [.int (-1 : Int32)]) dd230_24 rfl ?_
    refine zGo_s (pc' := 45) (st' := [.int (-1 : Int32)]) dd230_25 rfl ?_
    exact zGo_lv (lv := [(0, .ref 1132), (1, .int x1), (2, .int v3)]) ⟨by simp, by simp, by simp⟩ (f230_45_ok hd h)
  · refine zIT dd230_21 rfl (kNeT hc) ?_
    refine zGo_s (pc' := 29) (st' := [.ref 1132]) dd230_28 rfl ?_
    obtain ⟨a5, e_a5, c_a5, h⟩ := ordd h
    refine mGR dd230_29 rfl rfl rfl rfl e_a5 ?_
    refine mGF (e := (a5 + 33)) dd230_32 rfl (ck12_s c_a5).1 (ck12_s c_a5).2 rfl (cf12_39 c_a5).1 ?_
    refine zGo_s (pc' := 36) (st' := [.ref 1132, .ref (a5 + 33)]) dd230_35 rfl ?_
    obtain ⟨a6, e_a6, c_a6, h⟩ := ordd h
    refine mGR dd230_36 rfl rfl rfl rfl e_a6 ?_
    refine mGF (e := (a6 + 17)) dd230_39 rfl (ck12_s c_a6).1 (ck12_s c_a6).2 rfl (cf12_19 c_a6).1 ?_
    refine zGo_s (pc' := 43) (st' := [.int v3, .ref (a6 + 17), .ref (a5 + 33)]) dd230_42 rfl ?_
    obtain ⟨hi, h⟩ := ochk h
    refine mIA dd230_43 (cf12_19 c_a6).2.1 (cf12_19 c_a6).2.2 hi ?_
    obtain ⟨hi, h⟩ := ochk h
    refine mIA dd230_44 (cf12_39 c_a5).2.1 (cf12_39 c_a5).2.2 hi ?_
    exact zGo_lv (lv := [(0, .ref 1132), (1, .int x1), (2, .int v3)]) ⟨by simp, by simp, by simp⟩ (f230_45_ok hd h)
/-! PHModel.taken(I)I -/
theorem dd236_0 : decode cX13_taken 0 = .ok (.aload_n 0, 1) := by decide +kernel
theorem dd236_1 : decode cX13_taken 1 = .ok (.getfield 67, 3) := by decide +kernel
theorem dd236_4 : decode cX13_taken 4 = .ok (.bipush 20, 2) := by decide +kernel
theorem dd236_6 : decode cX13_taken 6 = .ok (.iload_n 1, 1) := by decide +kernel
theorem dd236_7 : decode cX13_taken 7 = .ok (.imul, 1) := by decide +kernel
theorem dd236_8 : decode cX13_taken 8 = .ok (.iaload, 1) := by decide +kernel
theorem dd236_9 : decode cX13_taken 9 = .ok (.istore_n 2, 1) := by decide +kernel
theorem dd236_10 : decode cX13_taken 10 = .ok (.aload_n 0, 1) := by decide +kernel
theorem dd236_11 : decode cX13_taken 11 = .ok (.getfield 70, 3) := by decide +kernel
theorem dd236_14 : decode cX13_taken 14 = .ok (.iload_n 1, 1) := by decide +kernel
theorem dd236_15 : decode cX13_taken 15 = .ok (.dup2, 1) := by decide +kernel
theorem dd236_16 : decode cX13_taken 16 = .ok (.iaload, 1) := by decide +kernel
theorem dd236_17 : decode cX13_taken 17 = .ok (.iconst 1, 1) := by decide +kernel
theorem dd236_18 : decode cX13_taken 18 = .ok (.isub, 1) := by decide +kernel
theorem dd236_19 : decode cX13_taken 19 = .ok (.iastore, 1) := by decide +kernel
theorem dd236_20 : decode cX13_taken 20 = .ok (.iconst 0, 1) := by decide +kernel
theorem dd236_21 : decode cX13_taken 21 = .ok (.istore_n 3, 1) := by decide +kernel
theorem dd236_22 : decode cX13_taken 22 = .ok (.iload_n 3, 1) := by decide +kernel
theorem dd236_23 : decode cX13_taken 23 = .ok (.aload_n 0, 1) := by decide +kernel
theorem dd236_24 : decode cX13_taken 24 = .ok (.getfield 70, 3) := by decide +kernel
theorem dd236_27 : decode cX13_taken 27 = .ok (.iload_n 1, 1) := by decide +kernel
theorem dd236_28 : decode cX13_taken 28 = .ok (.iaload, 1) := by decide +kernel
theorem dd236_29 : decode cX13_taken 29 = .ok (.if_icmp .ge 33, 3) := by decide +kernel
theorem dd236_32 : decode cX13_taken 32 = .ok (.aload_n 0, 1) := by decide +kernel
theorem dd236_33 : decode cX13_taken 33 = .ok (.getfield 67, 3) := by decide +kernel
theorem dd236_36 : decode cX13_taken 36 = .ok (.bipush 20, 2) := by decide +kernel
theorem dd236_38 : decode cX13_taken 38 = .ok (.iload_n 1, 1) := by decide +kernel
theorem dd236_39 : decode cX13_taken 39 = .ok (.imul, 1) := by decide +kernel
theorem dd236_40 : decode cX13_taken 40 = .ok (.iload_n 3, 1) := by decide +kernel
theorem dd236_41 : decode cX13_taken 41 = .ok (.iadd, 1) := by decide +kernel
theorem dd236_42 : decode cX13_taken 42 = .ok (.aload_n 0, 1) := by decide +kernel
theorem dd236_43 : decode cX13_taken 43 = .ok (.getfield 67, 3) := by decide +kernel
theorem dd236_46 : decode cX13_taken 46 = .ok (.bipush 20, 2) := by decide +kernel
theorem dd236_48 : decode cX13_taken 48 = .ok (.iload_n 1, 1) := by decide +kernel
theorem dd236_49 : decode cX13_taken 49 = .ok (.imul, 1) := by decide +kernel
theorem dd236_50 : decode cX13_taken 50 = .ok (.iload_n 3, 1) := by decide +kernel
theorem dd236_51 : decode cX13_taken 51 = .ok (.iadd, 1) := by decide +kernel
theorem dd236_52 : decode cX13_taken 52 = .ok (.iconst 1, 1) := by decide +kernel
theorem dd236_53 : decode cX13_taken 53 = .ok (.iadd, 1) := by decide +kernel
theorem dd236_54 : decode cX13_taken 54 = .ok (.iaload, 1) := by decide +kernel
theorem dd236_55 : decode cX13_taken 55 = .ok (.iastore, 1) := by decide +kernel
theorem dd236_56 : decode cX13_taken 56 = .ok (.iinc 3 1, 3) := by decide +kernel
theorem dd236_59 : decode cX13_taken 59 = .ok (.goto (-37), 3) := by decide +kernel
theorem dd236_62 : decode cX13_taken 62 = .ok (.iload_n 2, 1) := by decide +kernel
theorem dd236_63 : decode cX13_taken 63 = .ok (.ireturn, 1) := by decide +kernel
def f236_22 (n : Nat) : Nat → Int32 → Int32 → Int32 → zσ → Option (Int32 × zσ)
  | 0, _, _, _, _ => none
  | j + 1, x1, x2, x3, s =>
    if zin? x1 4 = true then
    if x3 < (s.1 1218 (nx x1)) then
    if zin? ((((20 : Int32) * x1) + x3) + (1 : Int32)) 80 = true then
    if zin? (((20 : Int32) * x1) + x3) 80 = true then
    zlet (sI s 1217 (nx (((20 : Int32) * x1) + x3)) (s.1 1217 (nx ((((20 : Int32) * x1) + x3) + (1 : Int32))))) fun u1 =>
    f236_22 n j x1 x2 (x3 + (1 : Int32)) u1
    else none
    else none
    else some (x2, s)
    else none
set_option maxRecDepth 20000 in
theorem f236_22_ok {n d : Nat} (hd : 0 ≤ d) : ∀ (j : Nat) (x1 : Int32) (x2 : Int32) (x3 : Int32) (s : zσ) (v : Int32) (s2 : zσ), f236_22 n j x1 x2 x3 s = some (v, s2) → ∀ {w : zσ} {fz : Bool} {L : Nat} {xs : Nat → Int32}, zGo (zX fz L xs) d q_236 (22, [(0, .ref 1132), (1, .int x1), (2, .int x2), (3, .int x3)], [], zmk w s, 0, 0) (some (.int v), zmk w s2, 0, 0) := by
  intro j
  induction j with
  | zero => intro x1 x2 x3 s v s2 h; cases h
  | succ j ih =>
    intro x1 x2 x3 s v s2 h w fz L xs
    rw [f236_22] at h
    refine zGo_s (pc' := 23) (st' := [.int x3]) dd236_22 rfl ?_
    refine zGo_s (pc' := 24) (st' := [.ref 1132, .int x3]) dd236_23 rfl ?_
    refine mGF (e := 1218) dd236_24 rfl rfl rfl rfl rfl ?_
    refine zGo_s (pc' := 28) (st' := [.int x1, .ref 1218, .int x3]) dd236_27 rfl ?_
    obtain ⟨hi, h⟩ := ochk h
    refine mIA dd236_28 rfl rfl hi ?_
    rcases oite h with ⟨hc, h⟩ | ⟨hc, h⟩
    · refine zIF dd236_29 (kGeF hc) ?_
      refine zGo_s (pc' := 33) (st' := [.ref 1132]) dd236_32 rfl ?_
      refine mGF (e := 1217) dd236_33 rfl rfl rfl rfl rfl ?_
      refine zGo_s (pc' := 38) (st' := [.int (20 : Int32), .ref 1217]) dd236_36 rfl ?_
      refine zGo_s (pc' := 39) (st' := [.int x1, .int (20 : Int32), .ref 1217]) dd236_38 rfl ?_
      refine zGo_s (pc' := 40) (st' := [.int ((20 : Int32) * x1), .ref 1217]) dd236_39 rfl ?_
      refine zGo_s (pc' := 41) (st' := [.int x3, .int ((20 : Int32) * x1), .ref 1217]) dd236_40 rfl ?_
      refine zGo_s (pc' := 42) (st' := [.int (((20 : Int32) * x1) + x3), .ref 1217]) dd236_41 rfl ?_
      refine zGo_s (pc' := 43) (st' := [.ref 1132, .int (((20 : Int32) * x1) + x3), .ref 1217]) dd236_42 rfl ?_
      refine mGF (e := 1217) dd236_43 rfl rfl rfl rfl rfl ?_
      refine zGo_s (pc' := 48) (st' := [.int (20 : Int32), .ref 1217, .int (((20 : Int32) * x1) + x3), .ref 1217]) dd236_46 rfl ?_
      refine zGo_s (pc' := 49) (st' := [.int x1, .int (20 : Int32), .ref 1217, .int (((20 : Int32) * x1) + x3), .ref 1217]) dd236_48 rfl ?_
      refine zGo_s (pc' := 50) (st' := [.int ((20 : Int32) * x1), .ref 1217, .int (((20 : Int32) * x1) + x3), .ref 1217]) dd236_49 rfl ?_
      refine zGo_s (pc' := 51) (st' := [.int x3, .int ((20 : Int32) * x1), .ref 1217, .int (((20 : Int32) * x1) + x3), .ref 1217]) dd236_50 rfl ?_
      refine zGo_s (pc' := 52) (st' := [.int (((20 : Int32) * x1) + x3), .ref 1217, .int (((20 : Int32) * x1) + x3), .ref 1217]) dd236_51 rfl ?_
      refine zGo_s (pc' := 53) (st' := [.int (1 : Int32), .int (((20 : Int32) * x1) + x3), .ref 1217, .int (((20 : Int32) * x1) + x3), .ref 1217]) dd236_52 rfl ?_
      refine zGo_s (pc' := 54) (st' := [.int ((((20 : Int32) * x1) + x3) + (1 : Int32)), .ref 1217, .int (((20 : Int32) * x1) + x3), .ref 1217]) dd236_53 rfl ?_
      obtain ⟨hi, h⟩ := ochk h
      refine mIA dd236_54 rfl rfl hi ?_
      obtain ⟨hi, h⟩ := ochk h
      obtain ⟨u1, e_u1, h⟩ := olet h
      refine mIS dd236_55 rfl rfl hi e_u1 ?_
      refine zGo_s (pc' := 59) (st' := []) (lv' := [(3, .int (x3 + (1 : Int32))), (0, .ref 1132), (1, .int x1), (2, .int x2)]) dd236_56 rfl ?_
      refine zGo_s (pc' := 22) (st' := []) dd236_59 rfl ?_
      exact zGo_lv (lv := [(0, .ref 1132), (1, .int x1), (2, .int x2), (3, .int (x3 + (1 : Int32)))]) ⟨by simp, by simp, by simp⟩ (ih _ _ _ _ _ _ h)
    · refine zIT dd236_29 rfl (kGeT hc) ?_
      refine zGo_s (pc' := 63) (st' := [.int x2]) dd236_62 rfl ?_
      obtain ⟨rfl, rfl⟩ := oret h
      exact zGo_ret dd236_63 rfl rfl
def f236 (n : Nat) (x1 : Int32) (s : zσ) : Option (Int32 × zσ) :=
    if zin? ((20 : Int32) * x1) 80 = true then
    zlet ((s.1 1217 (nx ((20 : Int32) * x1)))) fun v1 =>
    if zin? x1 4 = true then
    if zin? x1 4 = true then
    zlet (sI s 1218 (nx x1) ((s.1 1218 (nx x1)) - (1 : Int32))) fun u2 =>
    f236_22 n n x1 v1 (0 : Int32) u2
    else none
    else none
    else none
set_option maxRecDepth 20000 in
theorem f236_ok {n d : Nat} {x1 : Int32} {s : zσ} {v : Int32} {s2 : zσ} (hd : 0 ≤ d) (h : f236 n x1 s = some (v, s2)) {w : zσ} {fz : Bool} {L : Nat} {xs : Nat → Int32} : zGo (zX fz L xs) d q_236 (0, [(0, .ref 1132), (1, .int x1)], [], zmk w s, 0, 0) (some (.int v), zmk w s2, 0, 0) := by
  unfold f236 at h
  refine zGo_s (pc' := 1) (st' := [.ref 1132]) dd236_0 rfl ?_
  refine mGF (e := 1217) dd236_1 rfl rfl rfl rfl rfl ?_
  refine zGo_s (pc' := 6) (st' := [.int (20 : Int32), .ref 1217]) dd236_4 rfl ?_
  refine zGo_s (pc' := 7) (st' := [.int x1, .int (20 : Int32), .ref 1217]) dd236_6 rfl ?_
  refine zGo_s (pc' := 8) (st' := [.int ((20 : Int32) * x1), .ref 1217]) dd236_7 rfl ?_
  obtain ⟨hi, h⟩ := ochk h
  refine mIA dd236_8 rfl rfl hi ?_
  obtain ⟨v1, e_v1, h⟩ := olet h
  refine zGo_is1 e_v1 dd236_9 (x' := (10, [(2, .int v1), (0, .ref 1132), (1, .int x1)], [], _, _, _)) rfl ?_
  refine zGo_s (pc' := 11) (st' := [.ref 1132]) dd236_10 rfl ?_
  refine mGF (e := 1218) dd236_11 rfl rfl rfl rfl rfl ?_
  refine zGo_s (pc' := 15) (st' := [.int x1, .ref 1218]) dd236_14 rfl ?_
  refine zGo_s (pc' := 16) (st' := [.int x1, .ref 1218, .int x1, .ref 1218]) dd236_15 rfl ?_
  obtain ⟨hi, h⟩ := ochk h
  refine mIA dd236_16 rfl rfl hi ?_
  refine zGo_s (pc' := 18) (st' := [.int (1 : Int32), .int (s.1 1218 (nx x1)), .int x1, .ref 1218]) dd236_17 rfl ?_
  refine zGo_s (pc' := 19) (st' := [.int ((s.1 1218 (nx x1)) - (1 : Int32)), .int x1, .ref 1218]) dd236_18 rfl ?_
  obtain ⟨hi, h⟩ := ochk h
  obtain ⟨u2, e_u2, h⟩ := olet h
  refine mIS dd236_19 rfl rfl hi e_u2 ?_
  refine zGo_s (pc' := 21) (st' := [.int (0 : Int32)]) dd236_20 rfl ?_
  refine zGo_s (pc' := 22) (st' := []) (lv' := [(3, .int (0 : Int32)), (2, .int v1), (0, .ref 1132), (1, .int x1)]) dd236_21 rfl ?_
  exact zGo_lv (lv := [(0, .ref 1132), (1, .int x1), (2, .int v1), (3, .int (0 : Int32))]) ⟨by simp, by simp, by simp⟩ (f236_22_ok hd _ _ _ _ _ _ _ h)
/-! PHModel.goOn(I)V -/
theorem dd237_0 : decode cX13_goOn 0 = .ok (.aload_n 0, 1) := by decide +kernel
theorem dd237_1 : decode cX13_goOn 1 = .ok (.getfield 127, 3) := by decide +kernel
theorem dd237_4 : decode cX13_goOn 4 = .ok (.aload_n 0, 1) := by decide +kernel
theorem dd237_5 : decode cX13_goOn 5 = .ok (.iload_n 1, 1) := by decide +kernel
theorem dd237_6 : decode cX13_goOn 6 = .ok (.invokevirtual 591, 3) := by decide +kernel
theorem dd237_9 : decode cX13_goOn 9 = .ok (.aload_n 0, 1) := by decide +kernel
theorem dd237_10 : decode cX13_goOn 10 = .ok (.getfield 20, 3) := by decide +kernel
theorem dd237_13 : decode cX13_goOn 13 = .ok (.getfield 362, 3) := by decide +kernel
theorem dd237_16 : decode cX13_goOn 16 = .ok (.aload_n 0, 1) := by decide +kernel
theorem dd237_17 : decode cX13_goOn 17 = .ok (.getfield 127, 3) := by decide +kernel
theorem dd237_20 : decode cX13_goOn 20 = .ok (.aload_n 0, 1) := by decide +kernel
theorem dd237_21 : decode cX13_goOn 21 = .ok (.iload_n 1, 1) := by decide +kernel
theorem dd237_22 : decode cX13_goOn 22 = .ok (.invokevirtual 591, 3) := by decide +kernel
theorem dd237_25 : decode cX13_goOn 25 = .ok (.iaload, 1) := by decide +kernel
theorem dd237_26 : decode cX13_goOn 26 = .ok (.iaload, 1) := by decide +kernel
theorem dd237_27 : decode cX13_goOn 27 = .ok (.iastore, 1) := by decide +kernel
theorem dd237_28 : decode cX13_goOn 28 = .ok (.aload_n 0, 1) := by decide +kernel
theorem dd237_29 : decode cX13_goOn 29 = .ok (.iload_n 1, 1) := by decide +kernel
theorem dd237_30 : decode cX13_goOn 30 = .ok (.invokevirtual 607, 3) := by decide +kernel
theorem dd237_33 : decode cX13_goOn 33 = .ok (.return_, 1) := by decide +kernel
def f237 (n : Nat) (x1 : Int32) (s : zσ) : Option zσ :=
    yb1 (f214 n x1 s) fun v2 u1 =>
    zrd 12 (u1.2.2 1132 11) fun a3 =>
    yb1 (f214 n x1 u1) fun v5 u4 =>
    if zin? v5 1120 = true then
    if zin? (u4.1 1237 (nx v5)) 200 = true then
    if zin? v2 1120 = true then
    zlet (sI u4 1237 (nx v2) (u4.1 (a3 + 16) (nx (u4.1 1237 (nx v5))))) fun u6 =>
    yb0 (f213 n (f219 n 4) x1 u6) fun u7 =>
    some u7
    else none
    else none
    else none
set_option maxRecDepth 20000 in
theorem f237_ok {n d : Nat} {x1 : Int32} {s : zσ} {s2 : zσ} (hd : 25 ≤ d) (h : f237 n x1 s = some s2) {w : zσ} {fz : Bool} {L : Nat} {xs : Nat → Int32} : zGo (zX fz L xs) d q_237 (0, [(0, .ref 1132), (1, .int x1)], [], zmk w s, 0, 0) (none, zmk w s2, 0, 0) := by
  obtain ⟨d, rfl⟩ : ∃ d0, d = d0 + 1 := ⟨d - 1, by omega⟩
  unfold f237 at h
  refine zGo_s (pc' := 1) (st' := [.ref 1132]) dd237_0 rfl ?_
  refine mGF (e := 1237) dd237_1 rfl rfl rfl rfl rfl ?_
  refine zGo_s (pc' := 5) (st' := [.ref 1132, .ref 1237]) dd237_4 rfl ?_
  refine zGo_s (pc' := 6) (st' := [.int x1, .ref 1132, .ref 1237]) dd237_5 rfl ?_
  obtain ⟨v2, u1, hq, h⟩ := obnd h
  refine zCV1 (As := [.int x1]) (rest := [.ref 1237]) (b := 1132) (q' := q_214) dd237_6 rfl rfl (rcv_m rfl rfl (by decide)) rfl rfl rfl (f214_ok (d := d) (by omega)  hq) ?_
  refine zGo_s (pc' := 10) (st' := [.ref 1132, .int v2, .ref 1237]) dd237_9 rfl ?_
  obtain ⟨a3, e_a3, c_a3, h⟩ := ordd h
  refine mGR dd237_10 rfl rfl rfl rfl e_a3 ?_
  refine mGF (e := (a3 + 16)) dd237_13 rfl (ck12_s c_a3).1 (ck12_s c_a3).2 rfl (cf12_18 c_a3).1 ?_
  refine zGo_s (pc' := 17) (st' := [.ref 1132, .ref (a3 + 16), .int v2, .ref 1237]) dd237_16 rfl ?_
  refine mGF (e := 1237) dd237_17 rfl rfl rfl rfl rfl ?_
  refine zGo_s (pc' := 21) (st' := [.ref 1132, .ref 1237, .ref (a3 + 16), .int v2, .ref 1237]) dd237_20 rfl ?_
  refine zGo_s (pc' := 22) (st' := [.int x1, .ref 1132, .ref 1237, .ref (a3 + 16), .int v2, .ref 1237]) dd237_21 rfl ?_
  obtain ⟨v5, u4, hq, h⟩ := obnd h
  refine zCV1 (As := [.int x1]) (rest := [.ref 1237, .ref (a3 + 16), .int v2, .ref 1237]) (b := 1132) (q' := q_214) dd237_22 rfl rfl (rcv_m rfl rfl (by decide)) rfl rfl rfl (f214_ok (d := d) (by omega)  hq) ?_
  obtain ⟨hi, h⟩ := ochk h
  refine mIA dd237_25 rfl rfl hi ?_
  obtain ⟨hi, h⟩ := ochk h
  refine mIA dd237_26 (cf12_18 c_a3).2.1 (cf12_18 c_a3).2.2 hi ?_
  obtain ⟨hi, h⟩ := ochk h
  obtain ⟨u6, e_u6, h⟩ := olet h
  refine mIS dd237_27 rfl rfl hi e_u6 ?_
  refine zGo_s (pc' := 29) (st' := [.ref 1132]) dd237_28 rfl ?_
  refine zGo_s (pc' := 30) (st' := [.int x1, .ref 1132]) dd237_29 rfl ?_
  obtain ⟨u7, hq, h⟩ := obn0 h
  refine zCV0 (As := [.int x1]) (rest := []) (b := 1132) (q' := q_213) dd237_30 rfl rfl (rcv_m rfl rfl (by decide)) rfl rfl rfl (f213_ok (d := d) (Df := 23) (by omega) f219_okk4  hq) ?_
  obtain rfl := ore0 h
  exact zGo_ret dd237_33 rfl rfl
/-! PHModel.served(I)V -/
theorem dd235_0 : decode cX13_served 0 = .ok (.aload_n 0, 1) := by decide +kernel
theorem dd235_1 : decode cX13_served 1 = .ok (.getfield 127, 3) := by decide +kernel
theorem dd235_4 : decode cX13_served 4 = .ok (.aload_n 0, 1) := by decide +kernel
theorem dd235_5 : decode cX13_served 5 = .ok (.iload_n 1, 1) := by decide +kernel
theorem dd235_6 : decode cX13_served 6 = .ok (.invokevirtual 591, 3) := by decide +kernel
theorem dd235_9 : decode cX13_served 9 = .ok (.iaload, 1) := by decide +kernel
theorem dd235_10 : decode cX13_served 10 = .ok (.istore_n 2, 1) := by decide +kernel
theorem dd235_11 : decode cX13_served 11 = .ok (.aload_n 0, 1) := by decide +kernel
theorem dd235_12 : decode cX13_served 12 = .ok (.getfield 20, 3) := by decide +kernel
theorem dd235_15 : decode cX13_served 15 = .ok (.getfield 441, 3) := by decide +kernel
theorem dd235_18 : decode cX13_served 18 = .ok (.iload_n 2, 1) := by decide +kernel
theorem dd235_19 : decode cX13_served 19 = .ok (.iaload, 1) := by decide +kernel
theorem dd235_20 : decode cX13_served 20 = .ok (.iconst (-1), 1) := by decide +kernel
theorem dd235_21 : decode cX13_served 21 = .ok (.if_icmp .ne 7, 3) := by decide +kernel
theorem dd235_24 : decode cX13_served 24 = .ok (.iconst (-1), 1) := by decide +kernel
theorem dd235_25 : decode cX13_served 25 = .ok (.goto 20, 3) := by decide +kernel
theorem dd235_28 : decode cX13_served 28 = .ok (.aload_n 0, 1) := by decide +kernel
theorem dd235_29 : decode cX13_served 29 = .ok (.getfield 20, 3) := by decide +kernel
theorem dd235_32 : decode cX13_served 32 = .ok (.getfield 544, 3) := by decide +kernel
theorem dd235_35 : decode cX13_served 35 = .ok (.aload_n 0, 1) := by decide +kernel
theorem dd235_36 : decode cX13_served 36 = .ok (.getfield 20, 3) := by decide +kernel
theorem dd235_39 : decode cX13_served 39 = .ok (.getfield 441, 3) := by decide +kernel
theorem dd235_42 : decode cX13_served 42 = .ok (.iload_n 2, 1) := by decide +kernel
theorem dd235_43 : decode cX13_served 43 = .ok (.iaload, 1) := by decide +kernel
theorem dd235_44 : decode cX13_served 44 = .ok (.iaload, 1) := by decide +kernel
theorem dd235_45 : decode cX13_served 45 = .ok (.istore_n 3, 1) := by decide +kernel
theorem dd235_46 : decode cX13_served 46 = .ok (.aload_n 0, 1) := by decide +kernel
theorem dd235_47 : decode cX13_served 47 = .ok (.getfield 20, 3) := by decide +kernel
theorem dd235_50 : decode cX13_served 50 = .ok (.getfield 459, 3) := by decide +kernel
theorem dd235_53 : decode cX13_served 53 = .ok (.iload_n 2, 1) := by decide +kernel
theorem dd235_54 : decode cX13_served 54 = .ok (.iaload, 1) := by decide +kernel
theorem dd235_55 : decode cX13_served 55 = .ok (.lookupswitch 108 #[(10, 33), (12, 68), (23, 78)], 33) := by decide +kernel
theorem dd235_88 : decode cX13_served 88 = .ok (.iconst 0, 1) := by decide +kernel
theorem dd235_89 : decode cX13_served 89 = .ok (.istore 4, 2) := by decide +kernel
theorem dd235_91 : decode cX13_served 91 = .ok (.iload 4, 2) := by decide +kernel
theorem dd235_93 : decode cX13_served 93 = .ok (.iconst 4, 1) := by decide +kernel
theorem dd235_94 : decode cX13_served 94 = .ok (.if_icmp .ge 26, 3) := by decide +kernel
theorem dd235_97 : decode cX13_served 97 = .ok (.aload_n 0, 1) := by decide +kernel
theorem dd235_98 : decode cX13_served 98 = .ok (.getfield 48, 3) := by decide +kernel
theorem dd235_101 : decode cX13_served 101 = .ok (.iload 4, 2) := by decide +kernel
theorem dd235_103 : decode cX13_served 103 = .ok (.dup2, 1) := by decide +kernel
theorem dd235_104 : decode cX13_served 104 = .ok (.iaload, 1) := by decide +kernel
theorem dd235_105 : decode cX13_served 105 = .ok (.aload_n 0, 1) := by decide +kernel
theorem dd235_106 : decode cX13_served 106 = .ok (.iload_n 2, 1) := by decide +kernel
theorem dd235_107 : decode cX13_served 107 = .ok (.iload 4, 2) := by decide +kernel
theorem dd235_109 : decode cX13_served 109 = .ok (.invokevirtual 700, 3) := by decide +kernel
theorem dd235_112 : decode cX13_served 112 = .ok (.isub, 1) := by decide +kernel
theorem dd235_113 : decode cX13_served 113 = .ok (.iastore, 1) := by decide +kernel
theorem dd235_114 : decode cX13_served 114 = .ok (.iinc 4 1, 3) := by decide +kernel
theorem dd235_117 : decode cX13_served 117 = .ok (.goto (-26), 3) := by decide +kernel
theorem dd235_120 : decode cX13_served 120 = .ok (.goto 58, 3) := by decide +kernel
theorem dd235_123 : decode cX13_served 123 = .ok (.aload_n 0, 1) := by decide +kernel
theorem dd235_124 : decode cX13_served 124 = .ok (.getfield 51, 3) := by decide +kernel
theorem dd235_127 : decode cX13_served 127 = .ok (.iload_n 3, 1) := by decide +kernel
theorem dd235_128 : decode cX13_served 128 = .ok (.iload_n 1, 1) := by decide +kernel
theorem dd235_129 : decode cX13_served 129 = .ok (.iastore, 1) := by decide +kernel
theorem dd235_130 : decode cX13_served 130 = .ok (.goto 48, 3) := by decide +kernel
theorem dd235_133 : decode cX13_served 133 = .ok (.aload_n 0, 1) := by decide +kernel
theorem dd235_134 : decode cX13_served 134 = .ok (.getfield 36, 3) := by decide +kernel
theorem dd235_137 : decode cX13_served 137 = .ok (.aload_n 0, 1) := by decide +kernel
theorem dd235_138 : decode cX13_served 138 = .ok (.getfield 20, 3) := by decide +kernel
theorem dd235_141 : decode cX13_served 141 = .ok (.getfield 544, 3) := by decide +kernel
theorem dd235_144 : decode cX13_served 144 = .ok (.aload_n 0, 1) := by decide +kernel
theorem dd235_145 : decode cX13_served 145 = .ok (.getfield 20, 3) := by decide +kernel
theorem dd235_148 : decode cX13_served 148 = .ok (.getfield 444, 3) := by decide +kernel
theorem dd235_151 : decode cX13_served 151 = .ok (.iload_n 2, 1) := by decide +kernel
theorem dd235_152 : decode cX13_served 152 = .ok (.iaload, 1) := by decide +kernel
theorem dd235_153 : decode cX13_served 153 = .ok (.iaload, 1) := by decide +kernel
theorem dd235_154 : decode cX13_served 154 = .ok (.aload_n 0, 1) := by decide +kernel
theorem dd235_155 : decode cX13_served 155 = .ok (.iload_n 3, 1) := by decide +kernel
theorem dd235_156 : decode cX13_served 156 = .ok (.invokevirtual 719, 3) := by decide +kernel
theorem dd235_159 : decode cX13_served 159 = .ok (.iastore, 1) := by decide +kernel
theorem dd235_160 : decode cX13_served 160 = .ok (.goto 18, 3) := by decide +kernel
theorem dd235_163 : decode cX13_served 163 = .ok (.aload_n 0, 1) := by decide +kernel
theorem dd235_164 : decode cX13_served 164 = .ok (.getfield 54, 3) := by decide +kernel
theorem dd235_167 : decode cX13_served 167 = .ok (.bipush 8, 2) := by decide +kernel
theorem dd235_169 : decode cX13_served 169 = .ok (.iload_n 3, 1) := by decide +kernel
theorem dd235_170 : decode cX13_served 170 = .ok (.imul, 1) := by decide +kernel
theorem dd235_171 : decode cX13_served 171 = .ok (.iload_n 1, 1) := by decide +kernel
theorem dd235_172 : decode cX13_served 172 = .ok (.iadd, 1) := by decide +kernel
theorem dd235_173 : decode cX13_served 173 = .ok (.dup2, 1) := by decide +kernel
theorem dd235_174 : decode cX13_served 174 = .ok (.iaload, 1) := by decide +kernel
theorem dd235_175 : decode cX13_served 175 = .ok (.iconst 1, 1) := by decide +kernel
theorem dd235_176 : decode cX13_served 176 = .ok (.iadd, 1) := by decide +kernel
theorem dd235_177 : decode cX13_served 177 = .ok (.iastore, 1) := by decide +kernel
theorem dd235_178 : decode cX13_served 178 = .ok (.aload_n 0, 1) := by decide +kernel
theorem dd235_179 : decode cX13_served 179 = .ok (.getfield 91, 3) := by decide +kernel
theorem dd235_182 : decode cX13_served 182 = .ok (.iload_n 1, 1) := by decide +kernel
theorem dd235_183 : decode cX13_served 183 = .ok (.aload_n 0, 1) := by decide +kernel
theorem dd235_184 : decode cX13_served 184 = .ok (.getfield 91, 3) := by decide +kernel
theorem dd235_187 : decode cX13_served 187 = .ok (.iload_n 1, 1) := by decide +kernel
theorem dd235_188 : decode cX13_served 188 = .ok (.iaload, 1) := by decide +kernel
theorem dd235_189 : decode cX13_served 189 = .ok (.iconst 4, 1) := by decide +kernel
theorem dd235_190 : decode cX13_served 190 = .ok (.if_icmp .ne 7, 3) := by decide +kernel
theorem dd235_193 : decode cX13_served 193 = .ok (.iconst 2, 1) := by decide +kernel
theorem dd235_194 : decode cX13_served 194 = .ok (.goto 4, 3) := by decide +kernel
theorem dd235_197 : decode cX13_served 197 = .ok (.iconst 1, 1) := by decide +kernel
theorem dd235_198 : decode cX13_served 198 = .ok (.iastore, 1) := by decide +kernel
theorem dd235_199 : decode cX13_served 199 = .ok (.aload_n 0, 1) := by decide +kernel
theorem dd235_200 : decode cX13_served 200 = .ok (.getfield 97, 3) := by decide +kernel
theorem dd235_203 : decode cX13_served 203 = .ok (.iload_n 1, 1) := by decide +kernel
theorem dd235_204 : decode cX13_served 204 = .ok (.aload_n 0, 1) := by decide +kernel
theorem dd235_205 : decode cX13_served 205 = .ok (.getfield 610, 3) := by decide +kernel
theorem dd235_208 : decode cX13_served 208 = .ok (.iastore, 1) := by decide +kernel
theorem dd235_209 : decode cX13_served 209 = .ok (.aload_n 0, 1) := by decide +kernel
theorem dd235_210 : decode cX13_served 210 = .ok (.dup, 1) := by decide +kernel
theorem dd235_211 : decode cX13_served 211 = .ok (.getfield 610, 3) := by decide +kernel
theorem dd235_214 : decode cX13_served 214 = .ok (.iconst 1, 1) := by decide +kernel
theorem dd235_215 : decode cX13_served 215 = .ok (.iadd, 1) := by decide +kernel
theorem dd235_216 : decode cX13_served 216 = .ok (.putfield 610, 3) := by decide +kernel
theorem dd235_219 : decode cX13_served 219 = .ok (.aload_n 0, 1) := by decide +kernel
theorem dd235_220 : decode cX13_served 220 = .ok (.iload_n 1, 1) := by decide +kernel
theorem dd235_221 : decode cX13_served 221 = .ok (.invokevirtual 665, 3) := by decide +kernel
theorem dd235_224 : decode cX13_served 224 = .ok (.return_, 1) := by decide +kernel
def f235_198 (n : Nat) (x1 : Int32) (y0 : Int32) (y1 : Int32) (s : zσ) : Option zσ :=
    if zin? y1 8 = true then
    zlet (sI s 1225 (nx y1) y0) fun u1 =>
    if zin? x1 8 = true then
    zlet (sI u1 1227 (nx x1) (u1.1 1132 30)) fun u2 =>
    zlet (sI u2 1132 30 ((u2.1 1132 30) + (1 : Int32))) fun u3 =>
    yb0 (f237 n x1 u3) fun u4 =>
    some u4
    else none
    else none
set_option maxRecDepth 20000 in
theorem f235_198_ok {n d : Nat} {x1 : Int32} {y0 : Int32} {y1 : Int32} {s : zσ} {s2 : zσ} (hd : 26 ≤ d) (h : f235_198 n x1 y0 y1 s = some s2) {w : zσ} {fz : Bool} {L : Nat} {xs : Nat → Int32} : zGo (zX fz L xs) d q_235 (198, [(0, .ref 1132), (1, .int x1)], [.int y0, .int y1, .ref 1225], zmk w s, 0, 0) (none, zmk w s2, 0, 0) := by
  obtain ⟨d, rfl⟩ : ∃ d0, d = d0 + 1 := ⟨d - 1, by omega⟩
  unfold f235_198 at h
  obtain ⟨hi, h⟩ := ochk h
  obtain ⟨u1, e_u1, h⟩ := olet h
  refine mIS dd235_198 rfl rfl hi e_u1 ?_
  refine zGo_s (pc' := 200) (st' := [.ref 1132]) dd235_199 rfl ?_
  refine mGF (e := 1227) dd235_200 rfl rfl rfl rfl rfl ?_
  refine zGo_s (pc' := 204) (st' := [.int x1, .ref 1227]) dd235_203 rfl ?_
  refine zGo_s (pc' := 205) (st' := [.ref 1132, .int x1, .ref 1227]) dd235_204 rfl ?_
  refine mGI dd235_205 rfl rfl rfl rfl ?_
  obtain ⟨hi, h⟩ := ochk h
  obtain ⟨u2, e_u2, h⟩ := olet h
  refine mIS dd235_208 rfl rfl hi e_u2 ?_
  refine zGo_s (pc' := 210) (st' := [.ref 1132]) dd235_209 rfl ?_
  refine zGo_s (pc' := 211) (st' := [.ref 1132, .ref 1132]) dd235_210 rfl ?_
  refine mGI dd235_211 rfl rfl rfl rfl ?_
  refine zGo_s (pc' := 215) (st' := [.int (1 : Int32), .int (u2.1 1132 30), .ref 1132]) dd235_214 rfl ?_
  refine zGo_s (pc' := 216) (st' := [.int ((u2.1 1132 30) + (1 : Int32)), .ref 1132]) dd235_215 rfl ?_
  obtain ⟨u3, e_u3, h⟩ := olet h
  refine mPI dd235_216 rfl rfl rfl rfl rfl rfl e_u3 ?_
  refine zGo_s (pc' := 220) (st' := [.ref 1132]) dd235_219 rfl ?_
  refine zGo_s (pc' := 221) (st' := [.int x1, .ref 1132]) dd235_220 rfl ?_
  obtain ⟨u4, hq, h⟩ := obn0 h
  refine zCV0 (As := [.int x1]) (rest := []) (b := 1132) (q' := q_237) dd235_221 rfl rfl (rcv_m rfl rfl (by decide)) rfl rfl rfl (f237_ok (d := d) (by omega)  hq) ?_
  obtain rfl := ore0 h
  exact zGo_ret dd235_224 rfl rfl
def f235_178 (n : Nat) (x1 : Int32) (s : zσ) : Option zσ :=
    if zin? x1 8 = true then
    if (s.1 1225 (nx x1)) = (4 : Int32) then
    f235_198 n x1 (2 : Int32) x1 s
    else f235_198 n x1 (1 : Int32) x1 s
    else none
set_option maxRecDepth 20000 in
theorem f235_178_ok {n d : Nat} {x1 : Int32} {s : zσ} {s2 : zσ} (hd : 26 ≤ d) (h : f235_178 n x1 s = some s2) {w : zσ} {fz : Bool} {L : Nat} {xs : Nat → Int32} : zGo (zX fz L xs) d q_235 (178, [(0, .ref 1132), (1, .int x1)], [], zmk w s, 0, 0) (none, zmk w s2, 0, 0) := by
  obtain ⟨d, rfl⟩ : ∃ d0, d = d0 + 1 := ⟨d - 1, by omega⟩
  unfold f235_178 at h
  refine zGo_s (pc' := 179) (st' := [.ref 1132]) dd235_178 rfl ?_
  refine mGF (e := 1225) dd235_179 rfl rfl rfl rfl rfl ?_
  refine zGo_s (pc' := 183) (st' := [.int x1, .ref 1225]) dd235_182 rfl ?_
  refine zGo_s (pc' := 184) (st' := [.ref 1132, .int x1, .ref 1225]) dd235_183 rfl ?_
  refine mGF (e := 1225) dd235_184 rfl rfl rfl rfl rfl ?_
  refine zGo_s (pc' := 188) (st' := [.int x1, .ref 1225, .int x1, .ref 1225]) dd235_187 rfl ?_
  obtain ⟨hi, h⟩ := ochk h
  refine mIA dd235_188 rfl rfl hi ?_
  refine zGo_s (pc' := 190) (st' := [.int (4 : Int32), .int (s.1 1225 (nx x1)), .int x1, .ref 1225]) dd235_189 rfl ?_
  rcases oite h with ⟨hc, h⟩ | ⟨hc, h⟩
  · refine zIF dd235_190 (kNeF hc) ?_
    refine zGo_s (pc' := 194) (st' := [.int (2 : Int32), .int x1, .ref 1225]) dd235_193 rfl ?_
    refine zGo_s (pc' := 198) (st' := [.int (2 : Int32), .int x1, .ref 1225]) dd235_194 rfl ?_
    exact f235_198_ok hd h
  · refine zIT dd235_190 rfl (kNeT hc) ?_
    refine zGo_s (pc' := 198) (st' := [.int (1 : Int32), .int x1, .ref 1225]) dd235_197 rfl ?_
    exact f235_198_ok hd h
def f235_91 (n : Nat) : Nat → Int32 → Int32 → Int32 → zσ → Option zσ
  | 0, _, _, _, _ => none
  | j + 1, x1, x2, x4, s =>
    if x4 < (4 : Int32) then
    if zin? x4 4 = true then
    yb1 (f232 n x2 x4 s) fun v2 u1 =>
    if zin? x4 4 = true then
    zlet (sI u1 1211 (nx x4) ((s.1 1211 (nx x4)) - v2)) fun u3 =>
    f235_91 n j x1 x2 (x4 + (1 : Int32)) u3
    else none
    else none
    else f235_178 n x1 s
set_option maxRecDepth 20000 in
theorem f235_91_ok {n d : Nat} (hd : 26 ≤ d) : ∀ (j : Nat) (x1 : Int32) (x2 : Int32) (x4 : Int32) (s : zσ) (s2 : zσ), f235_91 n j x1 x2 x4 s = some s2 → ∀ {w : zσ} {fz : Bool} {L : Nat} {xs : Nat → Int32}, zGo (zX fz L xs) d q_235 (91, [(0, .ref 1132), (1, .int x1), (2, .int x2), (4, .int x4)], [], zmk w s, 0, 0) (none, zmk w s2, 0, 0) := by
  obtain ⟨d, rfl⟩ : ∃ d0, d = d0 + 1 := ⟨d - 1, by omega⟩
  intro j
  induction j with
  | zero => intro x1 x2 x4 s s2 h; cases h
  | succ j ih =>
    intro x1 x2 x4 s s2 h w fz L xs
    rw [f235_91] at h
    refine zGo_s (pc' := 93) (st' := [.int x4]) dd235_91 rfl ?_
    refine zGo_s (pc' := 94) (st' := [.int (4 : Int32), .int x4]) dd235_93 rfl ?_
    rcases oite h with ⟨hc, h⟩ | ⟨hc, h⟩
    · refine zIF dd235_94 (kGeF hc) ?_
      refine zGo_s (pc' := 98) (st' := [.ref 1132]) dd235_97 rfl ?_
      refine mGF (e := 1211) dd235_98 rfl rfl rfl rfl rfl ?_
      refine zGo_s (pc' := 103) (st' := [.int x4, .ref 1211]) dd235_101 rfl ?_
      refine zGo_s (pc' := 104) (st' := [.int x4, .ref 1211, .int x4, .ref 1211]) dd235_103 rfl ?_
      obtain ⟨hi, h⟩ := ochk h
      refine mIA dd235_104 rfl rfl hi ?_
      refine zGo_s (pc' := 106) (st' := [.ref 1132, .int (s.1 1211 (nx x4)), .int x4, .ref 1211]) dd235_105 rfl ?_
      refine zGo_s (pc' := 107) (st' := [.int x2, .ref 1132, .int (s.1 1211 (nx x4)), .int x4, .ref 1211]) dd235_106 rfl ?_
      refine zGo_s (pc' := 109) (st' := [.int x4, .int x2, .ref 1132, .int (s.1 1211 (nx x4)), .int x4, .ref 1211]) dd235_107 rfl ?_
      obtain ⟨v2, u1, hq, h⟩ := obnd h
      refine zCV1 (As := [.int x2, .int x4]) (rest := [.int (s.1 1211 (nx x4)), .int x4, .ref 1211]) (b := 1132) (q' := q_232) dd235_109 rfl rfl (rcv_m rfl rfl (by decide)) rfl rfl rfl (f232_ok (d := d) (by omega)  hq) ?_
      refine zGo_s (pc' := 113) (st' := [.int ((s.1 1211 (nx x4)) - v2), .int x4, .ref 1211]) dd235_112 rfl ?_
      obtain ⟨hi, h⟩ := ochk h
      obtain ⟨u3, e_u3, h⟩ := olet h
      refine mIS dd235_113 rfl rfl hi e_u3 ?_
      refine zGo_s (pc' := 117) (st' := []) (lv' := [(4, .int (x4 + (1 : Int32))), (0, .ref 1132), (1, .int x1), (2, .int x2)]) dd235_114 rfl ?_
      refine zGo_s (pc' := 91) (st' := []) dd235_117 rfl ?_
      exact zGo_lv (lv := [(0, .ref 1132), (1, .int x1), (2, .int x2), (4, .int (x4 + (1 : Int32)))]) ⟨by simp, by simp, by simp⟩ (ih _ _ _ _ _ h)
    · refine zIT dd235_94 rfl (kGeT hc) ?_
      refine zGo_s (pc' := 178) (st' := []) dd235_120 rfl ?_
      exact zGo_lv (lv := [(0, .ref 1132), (1, .int x1)]) ⟨by simp, by simp, by simp⟩ (f235_178_ok hd h)
def f235_45 (n : Nat) (x1 : Int32) (x2 : Int32) (y0 : Int32) (s : zσ) : Option zσ :=
    zrd 12 (s.2.2 1132 11) fun a1 =>
    if zin? x2 200 = true then
    if (s.1 (a1 + 15) (nx x2)) = (10 : Int32) then
    f235_91 n n x1 x2 (0 : Int32) s
    else if (s.1 (a1 + 15) (nx x2)) = (12 : Int32) then
    if zin? y0 4 = true then
    zlet (sI s 1212 (nx y0) x1) fun u2 =>
    f235_178 n x1 u2
    else none
    else if (s.1 (a1 + 15) (nx x2)) = (23 : Int32) then
    zrd 12 (s.2.2 1132 11) fun a3 =>
    zrd 12 (s.2.2 1132 11) fun a4 =>
    if zin? x2 200 = true then
    if zin? (s.1 (a4 + 18) (nx x2)) 1400 = true then
    yb1 (f236 n y0 s) fun v6 u5 =>
    if zin? (s.1 (a3 + 33) (nx (s.1 (a4 + 18) (nx x2)))) 8 = true then
    zlet (sI u5 1207 (nx (s.1 (a3 + 33) (nx (s.1 (a4 + 18) (nx x2))))) v6) fun u7 =>
    f235_178 n x1 u7
    else none
    else none
    else none
    else if zin? (((8 : Int32) * y0) + x1) 32 = true then
    if zin? (((8 : Int32) * y0) + x1) 32 = true then
    zlet (sI s 1213 (nx (((8 : Int32) * y0) + x1)) ((s.1 1213 (nx (((8 : Int32) * y0) + x1))) + (1 : Int32))) fun u8 =>
    f235_178 n x1 u8
    else none
    else none
    else none
set_option maxRecDepth 20000 in
theorem f235_45_ok {n d : Nat} {x1 : Int32} {x2 : Int32} {y0 : Int32} {s : zσ} {s2 : zσ} (hd : 26 ≤ d) (h : f235_45 n x1 x2 y0 s = some s2) {w : zσ} {fz : Bool} {L : Nat} {xs : Nat → Int32} : zGo (zX fz L xs) d q_235 (45, [(0, .ref 1132), (1, .int x1), (2, .int x2)], [.int y0], zmk w s, 0, 0) (none, zmk w s2, 0, 0) := by
  obtain ⟨d, rfl⟩ : ∃ d0, d = d0 + 1 := ⟨d - 1, by omega⟩
  unfold f235_45 at h
  refine zGo_s (pc' := 46) (st' := []) (lv' := [(3, .int y0), (0, .ref 1132), (1, .int x1), (2, .int x2)]) dd235_45 rfl ?_
  refine zGo_s (pc' := 47) (st' := [.ref 1132]) dd235_46 rfl ?_
  obtain ⟨a1, e_a1, c_a1, h⟩ := ordd h
  refine mGR dd235_47 rfl rfl rfl rfl e_a1 ?_
  refine mGF (e := (a1 + 15)) dd235_50 rfl (ck12_s c_a1).1 (ck12_s c_a1).2 rfl (cf12_17 c_a1).1 ?_
  refine zGo_s (pc' := 54) (st' := [.int x2, .ref (a1 + 15)]) dd235_53 rfl ?_
  obtain ⟨hi, h⟩ := ochk h
  refine mIA dd235_54 (cf12_17 c_a1).2.1 (cf12_17 c_a1).2.2 hi ?_
  rcases oite h with ⟨hc, h⟩ | ⟨hn0, h⟩
  · refine zGo_lw dd235_55 (o := 33) (by rw [hc]; decide +kernel) rfl ?_
    refine zGo_s (pc' := 89) (st' := [.int (0 : Int32)]) dd235_88 rfl ?_
    refine zGo_s (pc' := 91) (st' := []) (lv' := [(4, .int (0 : Int32)), (3, .int y0), (0, .ref 1132), (1, .int x1), (2, .int x2)]) dd235_89 rfl ?_
    exact zGo_lv (lv := [(0, .ref 1132), (1, .int x1), (2, .int x2), (4, .int (0 : Int32))]) ⟨by simp, by simp, by simp⟩ (f235_91_ok hd _ _ _ _ _ _ h)
  rcases oite h with ⟨hc, h⟩ | ⟨hn1, h⟩
  · refine zGo_lw dd235_55 (o := 68) (by rw [hc]; decide +kernel) rfl ?_
    refine zGo_s (pc' := 124) (st' := [.ref 1132]) dd235_123 rfl ?_
    refine mGF (e := 1212) dd235_124 rfl rfl rfl rfl rfl ?_
    refine zGo_s (pc' := 128) (st' := [.int y0, .ref 1212]) dd235_127 rfl ?_
    refine zGo_s (pc' := 129) (st' := [.int x1, .int y0, .ref 1212]) dd235_128 rfl ?_
    obtain ⟨hi, h⟩ := ochk h
    obtain ⟨u2, e_u2, h⟩ := olet h
    refine mIS dd235_129 rfl rfl hi e_u2 ?_
    refine zGo_s (pc' := 178) (st' := []) dd235_130 rfl ?_
    exact zGo_lv (lv := [(0, .ref 1132), (1, .int x1)]) ⟨by simp, by simp, by simp⟩ (f235_178_ok hd h)
  rcases oite h with ⟨hc, h⟩ | ⟨hn2, h⟩
  · refine zGo_lw dd235_55 (o := 78) (by rw [hc]; decide +kernel) rfl ?_
    refine zGo_s (pc' := 134) (st' := [.ref 1132]) dd235_133 rfl ?_
    refine mGF (e := 1207) dd235_134 rfl rfl rfl rfl rfl ?_
    refine zGo_s (pc' := 138) (st' := [.ref 1132, .ref 1207]) dd235_137 rfl ?_
    obtain ⟨a3, e_a3, c_a3, h⟩ := ordd h
    refine mGR dd235_138 rfl rfl rfl rfl e_a3 ?_
    refine mGF (e := (a3 + 33)) dd235_141 rfl (ck12_s c_a3).1 (ck12_s c_a3).2 rfl (cf12_39 c_a3).1 ?_
    refine zGo_s (pc' := 145) (st' := [.ref 1132, .ref (a3 + 33), .ref 1207]) dd235_144 rfl ?_
    obtain ⟨a4, e_a4, c_a4, h⟩ := ordd h
    refine mGR dd235_145 rfl rfl rfl rfl e_a4 ?_
    refine mGF (e := (a4 + 18)) dd235_148 rfl (ck12_s c_a4).1 (ck12_s c_a4).2 rfl (cf12_20 c_a4).1 ?_
    refine zGo_s (pc' := 152) (st' := [.int x2, .ref (a4 + 18), .ref (a3 + 33), .ref 1207]) dd235_151 rfl ?_
    obtain ⟨hi, h⟩ := ochk h
    refine mIA dd235_152 (cf12_20 c_a4).2.1 (cf12_20 c_a4).2.2 hi ?_
    obtain ⟨hi, h⟩ := ochk h
    refine mIA dd235_153 (cf12_39 c_a3).2.1 (cf12_39 c_a3).2.2 hi ?_
    refine zGo_s (pc' := 155) (st' := [.ref 1132, .int (s.1 (a3 + 33) (nx (s.1 (a4 + 18) (nx x2)))), .ref 1207]) dd235_154 rfl ?_
    refine zGo_s (pc' := 156) (st' := [.int y0, .ref 1132, .int (s.1 (a3 + 33) (nx (s.1 (a4 + 18) (nx x2)))), .ref 1207]) dd235_155 rfl ?_
    obtain ⟨v6, u5, hq, h⟩ := obnd h
    refine zCV1 (As := [.int y0]) (rest := [.int (s.1 (a3 + 33) (nx (s.1 (a4 + 18) (nx x2)))), .ref 1207]) (b := 1132) (q' := q_236) dd235_156 rfl rfl (rcv_m rfl rfl (by decide)) rfl rfl rfl (f236_ok (d := d) (by omega)  hq) ?_
    obtain ⟨hi, h⟩ := ochk h
    obtain ⟨u7, e_u7, h⟩ := olet h
    refine mIS dd235_159 rfl rfl hi e_u7 ?_
    refine zGo_s (pc' := 178) (st' := []) dd235_160 rfl ?_
    exact zGo_lv (lv := [(0, .ref 1132), (1, .int x1)]) ⟨by simp, by simp, by simp⟩ (f235_178_ok hd h)
  refine zGo_lw dd235_55 (o := 108) (zlo_d (by decide +kernel) fun p hp => ?_) rfl ?_
  · simp only [List.mem_cons, List.not_mem_nil, or_false] at hp
    rcases hp with rfl | rfl | rfl
    · exact hn0
    · exact hn1
    · exact hn2
  refine zGo_s (pc' := 164) (st' := [.ref 1132]) dd235_163 rfl ?_
  refine mGF (e := 1213) dd235_164 rfl rfl rfl rfl rfl ?_
  refine zGo_s (pc' := 169) (st' := [.int (8 : Int32), .ref 1213]) dd235_167 rfl ?_
  refine zGo_s (pc' := 170) (st' := [.int y0, .int (8 : Int32), .ref 1213]) dd235_169 rfl ?_
  refine zGo_s (pc' := 171) (st' := [.int ((8 : Int32) * y0), .ref 1213]) dd235_170 rfl ?_
  refine zGo_s (pc' := 172) (st' := [.int x1, .int ((8 : Int32) * y0), .ref 1213]) dd235_171 rfl ?_
  refine zGo_s (pc' := 173) (st' := [.int (((8 : Int32) * y0) + x1), .ref 1213]) dd235_172 rfl ?_
  refine zGo_s (pc' := 174) (st' := [.int (((8 : Int32) * y0) + x1), .ref 1213, .int (((8 : Int32) * y0) + x1), .ref 1213]) dd235_173 rfl ?_
  obtain ⟨hi, h⟩ := ochk h
  refine mIA dd235_174 rfl rfl hi ?_
  refine zGo_s (pc' := 176) (st' := [.int (1 : Int32), .int (s.1 1213 (nx (((8 : Int32) * y0) + x1))), .int (((8 : Int32) * y0) + x1), .ref 1213]) dd235_175 rfl ?_
  refine zGo_s (pc' := 177) (st' := [.int ((s.1 1213 (nx (((8 : Int32) * y0) + x1))) + (1 : Int32)), .int (((8 : Int32) * y0) + x1), .ref 1213]) dd235_176 rfl ?_
  obtain ⟨hi, h⟩ := ochk h
  obtain ⟨u8, e_u8, h⟩ := olet h
  refine mIS dd235_177 rfl rfl hi e_u8 ?_
  exact zGo_lv (lv := [(0, .ref 1132), (1, .int x1)]) ⟨by simp, by simp, by simp⟩ (f235_178_ok hd h)
def f235 (n : Nat) (x1 : Int32) (s : zσ) : Option zσ :=
    yb1 (f214 n x1 s) fun v2 u1 =>
    if zin? v2 1120 = true then
    zlet ((u1.1 1237 (nx v2))) fun v3 =>
    zrd 12 (u1.2.2 1132 11) fun a4 =>
    if zin? v3 200 = true then
    if (u1.1 (a4 + 17) (nx v3)) = (-1 : Int32) then
    f235_45 n x1 v3 (-1 : Int32) u1
    else zrd 12 (u1.2.2 1132 11) fun a5 =>
    zrd 12 (u1.2.2 1132 11) fun a6 =>
    if zin? v3 200 = true then
    if zin? (u1.1 (a6 + 17) (nx v3)) 1400 = true then
    f235_45 n x1 v3 (u1.1 (a5 + 33) (nx (u1.1 (a6 + 17) (nx v3)))) u1
    else none
    else none
    else none
    else none
set_option maxRecDepth 20000 in
theorem f235_ok {n d : Nat} {x1 : Int32} {s : zσ} {s2 : zσ} (hd : 26 ≤ d) (h : f235 n x1 s = some s2) {w : zσ} {fz : Bool} {L : Nat} {xs : Nat → Int32} : zGo (zX fz L xs) d q_235 (0, [(0, .ref 1132), (1, .int x1)], [], zmk w s, 0, 0) (none, zmk w s2, 0, 0) := by
  obtain ⟨d, rfl⟩ : ∃ d0, d = d0 + 1 := ⟨d - 1, by omega⟩
  unfold f235 at h
  refine zGo_s (pc' := 1) (st' := [.ref 1132]) dd235_0 rfl ?_
  refine mGF (e := 1237) dd235_1 rfl rfl rfl rfl rfl ?_
  refine zGo_s (pc' := 5) (st' := [.ref 1132, .ref 1237]) dd235_4 rfl ?_
  refine zGo_s (pc' := 6) (st' := [.int x1, .ref 1132, .ref 1237]) dd235_5 rfl ?_
  obtain ⟨v2, u1, hq, h⟩ := obnd h
  refine zCV1 (As := [.int x1]) (rest := [.ref 1237]) (b := 1132) (q' := q_214) dd235_6 rfl rfl (rcv_m rfl rfl (by decide)) rfl rfl rfl (f214_ok (d := d) (by omega)  hq) ?_
  obtain ⟨hi, h⟩ := ochk h
  refine mIA dd235_9 rfl rfl hi ?_
  obtain ⟨v3, e_v3, h⟩ := olet h
  refine zGo_is1 e_v3 dd235_10 (x' := (11, [(2, .int v3), (0, .ref 1132), (1, .int x1)], [], _, _, _)) rfl ?_
  refine zGo_s (pc' := 12) (st' := [.ref 1132]) dd235_11 rfl ?_
  obtain ⟨a4, e_a4, c_a4, h⟩ := ordd h
  refine mGR dd235_12 rfl rfl rfl rfl e_a4 ?_
  refine mGF (e := (a4 + 17)) dd235_15 rfl (ck12_s c_a4).1 (ck12_s c_a4).2 rfl (cf12_19 c_a4).1 ?_
  refine zGo_s (pc' := 19) (st' := [.int v3, .ref (a4 + 17)]) dd235_18 rfl ?_
  obtain ⟨hi, h⟩ := ochk h
  refine mIA dd235_19 (cf12_19 c_a4).2.1 (cf12_19 c_a4).2.2 hi ?_
  refine zGo_s (pc' := 21) (st' := [.int (-1 : Int32), .int (u1.1 (a4 + 17) (nx v3))]) dd235_20 rfl ?_
  rcases oite h with ⟨hc, h⟩ | ⟨hc, h⟩
  · refine zIF dd235_21 (kNeF hc) ?_
    refine zGo_s (pc' := 25) (st' := [.int (-1 : Int32)]) dd235_24 rfl ?_
    refine zGo_s (pc' := 45) (st' := [.int (-1 : Int32)]) dd235_25 rfl ?_
    exact zGo_lv (lv := [(0, .ref 1132), (1, .int x1), (2, .int v3)]) ⟨by simp, by simp, by simp⟩ (f235_45_ok hd h)
  · refine zIT dd235_21 rfl (kNeT hc) ?_
    refine zGo_s (pc' := 29) (st' := [.ref 1132]) dd235_28 rfl ?_
    obtain ⟨a5, e_a5, c_a5, h⟩ := ordd h
    refine mGR dd235_29 rfl rfl rfl rfl e_a5 ?_
    refine mGF (e := (a5 + 33)) dd235_32 rfl (ck12_s c_a5).1 (ck12_s c_a5).2 rfl (cf12_39 c_a5).1 ?_
    refine zGo_s (pc' := 36) (st' := [.ref 1132, .ref (a5 + 33)]) dd235_35 rfl ?_
    obtain ⟨a6, e_a6, c_a6, h⟩ := ordd h
    refine mGR dd235_36 rfl rfl rfl rfl e_a6 ?_
    refine mGF (e := (a6 + 17)) dd235_39 rfl (ck12_s c_a6).1 (ck12_s c_a6).2 rfl (cf12_19 c_a6).1 ?_
    refine zGo_s (pc' := 43) (st' := [.int v3, .ref (a6 + 17), .ref (a5 + 33)]) dd235_42 rfl ?_
    obtain ⟨hi, h⟩ := ochk h
    refine mIA dd235_43 (cf12_19 c_a6).2.1 (cf12_19 c_a6).2.2 hi ?_
    obtain ⟨hi, h⟩ := ochk h
    refine mIA dd235_44 (cf12_39 c_a5).2.1 (cf12_39 c_a5).2.2 hi ?_
    exact zGo_lv (lv := [(0, .ref 1132), (1, .int x1), (2, .int v3)]) ⟨by simp, by simp, by simp⟩ (f235_45_ok hd h)
/-! PHModel.serve()V -/
theorem dd226_0 : decode cX13_serve 0 = .ok (.aload_n 0, 1) := by decide +kernel
theorem dd226_1 : decode cX13_serve 1 = .ok (.iconst (-1), 1) := by decide +kernel
theorem dd226_2 : decode cX13_serve 2 = .ok (.invokevirtual 749, 3) := by decide +kernel
theorem dd226_5 : decode cX13_serve 5 = .ok (.istore_n 1, 1) := by decide +kernel
theorem dd226_6 : decode cX13_serve 6 = .ok (.iload_n 1, 1) := by decide +kernel
theorem dd226_7 : decode cX13_serve 7 = .ok (.iconst (-1), 1) := by decide +kernel
theorem dd226_8 : decode cX13_serve 8 = .ok (.if_icmp .eq 34, 3) := by decide +kernel
theorem dd226_11 : decode cX13_serve 11 = .ok (.aload_n 0, 1) := by decide +kernel
theorem dd226_12 : decode cX13_serve 12 = .ok (.iload_n 1, 1) := by decide +kernel
theorem dd226_13 : decode cX13_serve 13 = .ok (.invokevirtual 752, 3) := by decide +kernel
theorem dd226_16 : decode cX13_serve 16 = .ok (.ifCond .eq 17, 3) := by decide +kernel
theorem dd226_19 : decode cX13_serve 19 = .ok (.aload_n 0, 1) := by decide +kernel
theorem dd226_20 : decode cX13_serve 20 = .ok (.iload_n 1, 1) := by decide +kernel
theorem dd226_21 : decode cX13_serve 21 = .ok (.invokevirtual 755, 3) := by decide +kernel
theorem dd226_24 : decode cX13_serve 24 = .ok (.aload_n 0, 1) := by decide +kernel
theorem dd226_25 : decode cX13_serve 25 = .ok (.iconst (-1), 1) := by decide +kernel
theorem dd226_26 : decode cX13_serve 26 = .ok (.invokevirtual 749, 3) := by decide +kernel
theorem dd226_29 : decode cX13_serve 29 = .ok (.istore_n 1, 1) := by decide +kernel
theorem dd226_30 : decode cX13_serve 30 = .ok (.goto (-24), 3) := by decide +kernel
theorem dd226_33 : decode cX13_serve 33 = .ok (.aload_n 0, 1) := by decide +kernel
theorem dd226_34 : decode cX13_serve 34 = .ok (.iload_n 1, 1) := by decide +kernel
theorem dd226_35 : decode cX13_serve 35 = .ok (.invokevirtual 749, 3) := by decide +kernel
theorem dd226_38 : decode cX13_serve 38 = .ok (.istore_n 1, 1) := by decide +kernel
theorem dd226_39 : decode cX13_serve 39 = .ok (.goto (-33), 3) := by decide +kernel
theorem dd226_42 : decode cX13_serve 42 = .ok (.return_, 1) := by decide +kernel
def f226_6 (n : Nat) : Nat → Int32 → zσ → Option zσ
  | 0, _, _ => none
  | j + 1, x1, s =>
    if x1 = (-1 : Int32) then
    some s
    else yb1 (f230 n x1 s) fun v2 u1 =>
    if v2 = (0 : Int32) then
    yb1 (f227 n x1 u1) fun v4 u3 =>
    f226_6 n j v4 u3
    else yb0 (f235 n x1 u1) fun u5 =>
    yb1 (f227 n (-1 : Int32) u5) fun v7 u6 =>
    f226_6 n j v7 u6
set_option maxRecDepth 20000 in
theorem f226_6_ok {n d : Nat} (hd : 27 ≤ d) : ∀ (j : Nat) (x1 : Int32) (s : zσ) (s2 : zσ), f226_6 n j x1 s = some s2 → ∀ {w : zσ} {fz : Bool} {L : Nat} {xs : Nat → Int32}, zGo (zX fz L xs) d q_226 (6, [(0, .ref 1132), (1, .int x1)], [], zmk w s, 0, 0) (none, zmk w s2, 0, 0) := by
  obtain ⟨d, rfl⟩ : ∃ d0, d = d0 + 1 := ⟨d - 1, by omega⟩
  intro j
  induction j with
  | zero => intro x1 s s2 h; cases h
  | succ j ih =>
    intro x1 s s2 h w fz L xs
    rw [f226_6] at h
    refine zGo_s (pc' := 7) (st' := [.int x1]) dd226_6 rfl ?_
    refine zGo_s (pc' := 8) (st' := [.int (-1 : Int32), .int x1]) dd226_7 rfl ?_
    rcases oite h with ⟨hc, h⟩ | ⟨hc, h⟩
    · refine zIT dd226_8 rfl (kEqT hc) ?_
      obtain rfl := ore0 h
      exact zGo_ret dd226_42 rfl rfl
    · refine zIF dd226_8 (kEqF hc) ?_
      refine zGo_s (pc' := 12) (st' := [.ref 1132]) dd226_11 rfl ?_
      refine zGo_s (pc' := 13) (st' := [.int x1, .ref 1132]) dd226_12 rfl ?_
      obtain ⟨v2, u1, hq, h⟩ := obnd h
      refine zCV1 (As := [.int x1]) (rest := []) (b := 1132) (q' := q_230) dd226_13 rfl rfl (rcv_m rfl rfl (by decide)) rfl rfl rfl (f230_ok (d := d) (by omega)  hq) ?_
      rcases oite h with ⟨hc, h⟩ | ⟨hc, h⟩
      · refine zUT dd226_16 rfl (kEqT hc) ?_
        refine zGo_s (pc' := 34) (st' := [.ref 1132]) dd226_33 rfl ?_
        refine zGo_s (pc' := 35) (st' := [.int x1, .ref 1132]) dd226_34 rfl ?_
        obtain ⟨v4, u3, hq, h⟩ := obnd h
        refine zCV1 (As := [.int x1]) (rest := []) (b := 1132) (q' := q_227) dd226_35 rfl rfl (rcv_m rfl rfl (by decide)) rfl rfl rfl (f227_ok (d := d) (by omega)  hq) ?_
        refine zGo_s (pc' := 39) (st' := []) (lv' := [(1, .int v4), (0, .ref 1132)]) dd226_38 rfl ?_
        refine zGo_s (pc' := 6) (st' := []) dd226_39 rfl ?_
        exact zGo_lv (lv := [(0, .ref 1132), (1, .int v4)]) ⟨by simp, by simp, by simp⟩ (ih _ _ _ h)
      · refine zUF dd226_16 (kEqF hc) ?_
        refine zGo_s (pc' := 20) (st' := [.ref 1132]) dd226_19 rfl ?_
        refine zGo_s (pc' := 21) (st' := [.int x1, .ref 1132]) dd226_20 rfl ?_
        obtain ⟨u5, hq, h⟩ := obn0 h
        refine zCV0 (As := [.int x1]) (rest := []) (b := 1132) (q' := q_235) dd226_21 rfl rfl (rcv_m rfl rfl (by decide)) rfl rfl rfl (f235_ok (d := d) (by omega)  hq) ?_
        refine zGo_s (pc' := 25) (st' := [.ref 1132]) dd226_24 rfl ?_
        refine zGo_s (pc' := 26) (st' := [.int (-1 : Int32), .ref 1132]) dd226_25 rfl ?_
        obtain ⟨v7, u6, hq, h⟩ := obnd h
        refine zCV1 (As := [.int (-1 : Int32)]) (rest := []) (b := 1132) (q' := q_227) dd226_26 rfl rfl (rcv_m rfl rfl (by decide)) rfl rfl rfl (f227_ok (d := d) (by omega)  hq) ?_
        refine zGo_s (pc' := 30) (st' := []) (lv' := [(1, .int v7), (0, .ref 1132)]) dd226_29 rfl ?_
        refine zGo_s (pc' := 6) (st' := []) dd226_30 rfl ?_
        exact zGo_lv (lv := [(0, .ref 1132), (1, .int v7)]) ⟨by simp, by simp, by simp⟩ (ih _ _ _ h)
def f226 (n : Nat) (s : zσ) : Option zσ :=
    yb1 (f227 n (-1 : Int32) s) fun v2 u1 =>
    f226_6 n n v2 u1
set_option maxRecDepth 20000 in
theorem f226_ok {n d : Nat} {s : zσ} {s2 : zσ} (hd : 27 ≤ d) (h : f226 n s = some s2) {w : zσ} {fz : Bool} {L : Nat} {xs : Nat → Int32} : zGo (zX fz L xs) d q_226 (0, [(0, .ref 1132)], [], zmk w s, 0, 0) (none, zmk w s2, 0, 0) := by
  obtain ⟨d, rfl⟩ : ∃ d0, d = d0 + 1 := ⟨d - 1, by omega⟩
  unfold f226 at h
  refine zGo_s (pc' := 1) (st' := [.ref 1132]) dd226_0 rfl ?_
  refine zGo_s (pc' := 2) (st' := [.int (-1 : Int32), .ref 1132]) dd226_1 rfl ?_
  obtain ⟨v2, u1, hq, h⟩ := obnd h
  refine zCV1 (As := [.int (-1 : Int32)]) (rest := []) (b := 1132) (q' := q_227) dd226_2 rfl rfl (rcv_m rfl rfl (by decide)) rfl rfl rfl (f227_ok (d := d) (by omega)  hq) ?_
  refine zGo_s (pc' := 6) (st' := []) (lv' := [(1, .int v2), (0, .ref 1132)]) dd226_5 rfl ?_
  exact zGo_lv (lv := [(0, .ref 1132), (1, .int v2)]) ⟨by simp, by simp, by simp⟩ (f226_6_ok hd _ _ _ _ h)
/-! PHModel.acts(I)V -/
theorem dd224_0 : decode cX13_acts 0 = .ok (.iload_n 1, 1) := by decide +kernel
theorem dd224_1 : decode cX13_acts 1 = .ok (.iconst 2, 1) := by decide +kernel
theorem dd224_2 : decode cX13_acts 2 = .ok (.irem, 1) := by decide +kernel
theorem dd224_3 : decode cX13_acts 3 = .ok (.ifCond .ne 13, 3) := by decide +kernel
theorem dd224_6 : decode cX13_acts 6 = .ok (.aload_n 0, 1) := by decide +kernel
theorem dd224_7 : decode cX13_acts 7 = .ok (.iload_n 1, 1) := by decide +kernel
theorem dd224_8 : decode cX13_acts 8 = .ok (.iconst 2, 1) := by decide +kernel
theorem dd224_9 : decode cX13_acts 9 = .ok (.idiv, 1) := by decide +kernel
theorem dd224_10 : decode cX13_acts 10 = .ok (.invokevirtual 586, 3) := by decide +kernel
theorem dd224_13 : decode cX13_acts 13 = .ok (.goto 11, 3) := by decide +kernel
theorem dd224_16 : decode cX13_acts 16 = .ok (.aload_n 0, 1) := by decide +kernel
theorem dd224_17 : decode cX13_acts 17 = .ok (.iload_n 1, 1) := by decide +kernel
theorem dd224_18 : decode cX13_acts 18 = .ok (.iconst 2, 1) := by decide +kernel
theorem dd224_19 : decode cX13_acts 19 = .ok (.idiv, 1) := by decide +kernel
theorem dd224_20 : decode cX13_acts 20 = .ok (.invokevirtual 728, 3) := by decide +kernel
theorem dd224_23 : decode cX13_acts 23 = .ok (.pop, 1) := by decide +kernel
theorem dd224_24 : decode cX13_acts 24 = .ok (.aload_n 0, 1) := by decide +kernel
theorem dd224_25 : decode cX13_acts 25 = .ok (.invokevirtual 659, 3) := by decide +kernel
theorem dd224_28 : decode cX13_acts 28 = .ok (.return_, 1) := by decide +kernel
def f224_24 (n : Nat) (s : zσ) : Option zσ :=
    yb0 (f226 n s) fun u1 =>
    some u1
set_option maxRecDepth 20000 in
theorem f224_24_ok {n d : Nat} {s : zσ} {s2 : zσ} (hd : 28 ≤ d) (h : f224_24 n s = some s2) {w : zσ} {fz : Bool} {L : Nat} {xs : Nat → Int32} : zGo (zX fz L xs) d q_224 (24, [(0, .ref 1132)], [], zmk w s, 0, 0) (none, zmk w s2, 0, 0) := by
  obtain ⟨d, rfl⟩ : ∃ d0, d = d0 + 1 := ⟨d - 1, by omega⟩
  unfold f224_24 at h
  refine zGo_s (pc' := 25) (st' := [.ref 1132]) dd224_24 rfl ?_
  obtain ⟨u1, hq, h⟩ := obn0 h
  refine zCV0 (As := []) (rest := []) (b := 1132) (q' := q_226) dd224_25 rfl rfl (rcv_m rfl rfl (by decide)) rfl rfl rfl (f226_ok (d := d) (by omega)  hq) ?_
  obtain rfl := ore0 h
  exact zGo_ret dd224_28 rfl rfl
def f224 (n : Nat) (x1 : Int32) (s : zσ) : Option zσ :=
    if (x1 - x1 / (2 : Int32) * (2 : Int32)) = (0 : Int32) then
    yb0 (f210 n (x1 / (2 : Int32)) s) fun u3 =>
    f224_24 n u3
    else yb1 (f225 n (x1 / (2 : Int32)) s) fun v2 u1 =>
    f224_24 n u1
set_option maxRecDepth 20000 in
theorem f224_ok {n d : Nat} {x1 : Int32} {s : zσ} {s2 : zσ} (hd : 28 ≤ d) (h : f224 n x1 s = some s2) {w : zσ} {fz : Bool} {L : Nat} {xs : Nat → Int32} : zGo (zX fz L xs) d q_224 (0, [(0, .ref 1132), (1, .int x1)], [], zmk w s, 0, 0) (none, zmk w s2, 0, 0) := by
  obtain ⟨d, rfl⟩ : ∃ d0, d = d0 + 1 := ⟨d - 1, by omega⟩
  unfold f224 at h
  refine zGo_s (pc' := 1) (st' := [.int x1]) dd224_0 rfl ?_
  refine zGo_s (pc' := 2) (st' := [.int (2 : Int32), .int x1]) dd224_1 rfl ?_
  refine zGo_s (pc' := 3) (st' := [.int (x1 - x1 / (2 : Int32) * (2 : Int32))]) dd224_2 rfl ?_
  rcases oite h with ⟨hc, h⟩ | ⟨hc, h⟩
  · refine zUF dd224_3 (kNeF hc) ?_
    refine zGo_s (pc' := 7) (st' := [.ref 1132]) dd224_6 rfl ?_
    refine zGo_s (pc' := 8) (st' := [.int x1, .ref 1132]) dd224_7 rfl ?_
    refine zGo_s (pc' := 9) (st' := [.int (2 : Int32), .int x1, .ref 1132]) dd224_8 rfl ?_
    refine zGo_s (pc' := 10) (st' := [.int (x1 / (2 : Int32)), .ref 1132]) dd224_9 rfl ?_
    obtain ⟨u3, hq, h⟩ := obn0 h
    refine zCV0 (As := [.int (x1 / (2 : Int32))]) (rest := []) (b := 1132) (q' := q_210) dd224_10 rfl rfl (rcv_m rfl rfl (by decide)) rfl rfl rfl (f210_ok (d := d) (by omega)  hq) ?_
    refine zGo_s (pc' := 24) (st' := []) dd224_13 rfl ?_
    exact zGo_lv (lv := [(0, .ref 1132)]) ⟨by simp, by simp, by simp⟩ (f224_24_ok hd h)
  · refine zUT dd224_3 rfl (kNeT hc) ?_
    refine zGo_s (pc' := 17) (st' := [.ref 1132]) dd224_16 rfl ?_
    refine zGo_s (pc' := 18) (st' := [.int x1, .ref 1132]) dd224_17 rfl ?_
    refine zGo_s (pc' := 19) (st' := [.int (2 : Int32), .int x1, .ref 1132]) dd224_18 rfl ?_
    refine zGo_s (pc' := 20) (st' := [.int (x1 / (2 : Int32)), .ref 1132]) dd224_19 rfl ?_
    obtain ⟨v2, u1, hq, h⟩ := obnd h
    refine zCV1 (As := [.int (x1 / (2 : Int32))]) (rest := []) (b := 1132) (q' := q_225) dd224_20 rfl rfl (rcv_m rfl rfl (by decide)) rfl rfl rfl (f225_ok (d := d) (by omega)  hq) ?_
    refine zGo_s (pc' := 24) (st' := []) dd224_23 rfl ?_
    exact zGo_lv (lv := [(0, .ref 1132)]) ⟨by simp, by simp, by simp⟩ (f224_24_ok hd h)
/-! PHModel.due()V -/
theorem dd222_0 : decode cX13_due 0 = .ok (.aload_n 0, 1) := by decide +kernel
theorem dd222_1 : decode cX13_due 1 = .ok (.invokevirtual 737, 3) := by decide +kernel
theorem dd222_4 : decode cX13_due 4 = .ok (.istore_n 1, 1) := by decide +kernel
theorem dd222_5 : decode cX13_due 5 = .ok (.iload_n 1, 1) := by decide +kernel
theorem dd222_6 : decode cX13_due 6 = .ok (.iconst (-1), 1) := by decide +kernel
theorem dd222_7 : decode cX13_due 7 = .ok (.if_icmp .eq 92, 3) := by decide +kernel
theorem dd222_10 : decode cX13_due 10 = .ok (.aload_n 0, 1) := by decide +kernel
theorem dd222_11 : decode cX13_due 11 = .ok (.getfield 139, 3) := by decide +kernel
theorem dd222_14 : decode cX13_due 14 = .ok (.iload_n 1, 1) := by decide +kernel
theorem dd222_15 : decode cX13_due 15 = .ok (.iaload, 1) := by decide +kernel
theorem dd222_16 : decode cX13_due 16 = .ok (.aload_n 0, 1) := by decide +kernel
theorem dd222_17 : decode cX13_due 17 = .ok (.getfield 560, 3) := by decide +kernel
theorem dd222_20 : decode cX13_due 20 = .ok (.if_icmp .gt 79, 3) := by decide +kernel
theorem dd222_23 : decode cX13_due 23 = .ok (.aload_n 0, 1) := by decide +kernel
theorem dd222_24 : decode cX13_due 24 = .ok (.getfield 139, 3) := by decide +kernel
theorem dd222_27 : decode cX13_due 27 = .ok (.iload_n 1, 1) := by decide +kernel
theorem dd222_28 : decode cX13_due 28 = .ok (.iaload, 1) := by decide +kernel
theorem dd222_29 : decode cX13_due 29 = .ok (.i2l, 1) := by decide +kernel
theorem dd222_30 : decode cX13_due 30 = .ok (.aload_n 0, 1) := by decide +kernel
theorem dd222_31 : decode cX13_due 31 = .ok (.getfield 142, 3) := by decide +kernel
theorem dd222_34 : decode cX13_due 34 = .ok (.iload_n 1, 1) := by decide +kernel
theorem dd222_35 : decode cX13_due 35 = .ok (.iaload, 1) := by decide +kernel
theorem dd222_36 : decode cX13_due 36 = .ok (.i2l, 1) := by decide +kernel
theorem dd222_37 : decode cX13_due 37 = .ok (.ladd, 1) := by decide +kernel
theorem dd222_38 : decode cX13_due 38 = .ok (.lstore_n 2, 1) := by decide +kernel
theorem dd222_39 : decode cX13_due 39 = .ok (.aload_n 0, 1) := by decide +kernel
theorem dd222_40 : decode cX13_due 40 = .ok (.getfield 142, 3) := by decide +kernel
theorem dd222_43 : decode cX13_due 43 = .ok (.iload_n 1, 1) := by decide +kernel
theorem dd222_44 : decode cX13_due 44 = .ok (.iaload, 1) := by decide +kernel
theorem dd222_45 : decode cX13_due 45 = .ok (.ifCond .le 34, 3) := by decide +kernel
theorem dd222_48 : decode cX13_due 48 = .ok (.lload_n 2, 1) := by decide +kernel
theorem dd222_49 : decode cX13_due 49 = .ok (.aload_n 0, 1) := by decide +kernel
theorem dd222_50 : decode cX13_due 50 = .ok (.getfield 145, 3) := by decide +kernel
theorem dd222_53 : decode cX13_due 53 = .ok (.iload_n 1, 1) := by decide +kernel
theorem dd222_54 : decode cX13_due 54 = .ok (.iaload, 1) := by decide +kernel
theorem dd222_55 : decode cX13_due 55 = .ok (.i2l, 1) := by decide +kernel
theorem dd222_56 : decode cX13_due 56 = .ok (.lcmp, 1) := by decide +kernel
theorem dd222_57 : decode cX13_due 57 = .ok (.ifCond .gt 22, 3) := by decide +kernel
theorem dd222_60 : decode cX13_due 60 = .ok (.lload_n 2, 1) := by decide +kernel
theorem dd222_61 : decode cX13_due 61 = .ok (.ldc2_w 733, 3) := by decide +kernel
theorem dd222_64 : decode cX13_due 64 = .ok (.lcmp, 1) := by decide +kernel
theorem dd222_65 : decode cX13_due 65 = .ok (.ifCond .gt 14, 3) := by decide +kernel
theorem dd222_68 : decode cX13_due 68 = .ok (.aload_n 0, 1) := by decide +kernel
theorem dd222_69 : decode cX13_due 69 = .ok (.getfield 139, 3) := by decide +kernel
theorem dd222_72 : decode cX13_due 72 = .ok (.iload_n 1, 1) := by decide +kernel
theorem dd222_73 : decode cX13_due 73 = .ok (.lload_n 2, 1) := by decide +kernel
theorem dd222_74 : decode cX13_due 74 = .ok (.l2i, 1) := by decide +kernel
theorem dd222_75 : decode cX13_due 75 = .ok (.iastore, 1) := by decide +kernel
theorem dd222_76 : decode cX13_due 76 = .ok (.goto 10, 3) := by decide +kernel
theorem dd222_79 : decode cX13_due 79 = .ok (.aload_n 0, 1) := by decide +kernel
theorem dd222_80 : decode cX13_due 80 = .ok (.getfield 136, 3) := by decide +kernel
theorem dd222_83 : decode cX13_due 83 = .ok (.iload_n 1, 1) := by decide +kernel
theorem dd222_84 : decode cX13_due 84 = .ok (.iconst 0, 1) := by decide +kernel
theorem dd222_85 : decode cX13_due 85 = .ok (.bastore, 1) := by decide +kernel
theorem dd222_86 : decode cX13_due 86 = .ok (.aload_n 0, 1) := by decide +kernel
theorem dd222_87 : decode cX13_due 87 = .ok (.iload_n 1, 1) := by decide +kernel
theorem dd222_88 : decode cX13_due 88 = .ok (.invokevirtual 740, 3) := by decide +kernel
theorem dd222_91 : decode cX13_due 91 = .ok (.aload_n 0, 1) := by decide +kernel
theorem dd222_92 : decode cX13_due 92 = .ok (.invokevirtual 737, 3) := by decide +kernel
theorem dd222_95 : decode cX13_due 95 = .ok (.istore_n 1, 1) := by decide +kernel
theorem dd222_96 : decode cX13_due 96 = .ok (.goto (-91), 3) := by decide +kernel
theorem dd222_99 : decode cX13_due 99 = .ok (.return_, 1) := by decide +kernel
def f222_86 (n : Nat) (r5 : Int32 → zσ → Option zσ) (x1 : Int32) (s : zσ) : Option zσ :=
    yb0 (f224 n x1 s) fun u1 =>
    yb1 (f223 n u1) fun v3 u2 =>
    r5 v3 u2
set_option maxRecDepth 20000 in
theorem f222_86_ok {n d : Nat} {r5 : Int32 → zσ → Option zσ} {x1 : Int32} {s : zσ} {s2 : zσ} (hd : 29 ≤ d) (hr5 : ∀ (x1 : Int32) (s : zσ) (s2 : zσ), r5 x1 s = some s2 → ∀ {w : zσ} {fz : Bool} {L : Nat} {xs : Nat → Int32}, zGo (zX fz L xs) d q_222 (5, [(0, .ref 1132), (1, .int x1)], [], zmk w s, 0, 0) (none, zmk w s2, 0, 0)) (h : f222_86 n r5 x1 s = some s2) {w : zσ} {fz : Bool} {L : Nat} {xs : Nat → Int32} : zGo (zX fz L xs) d q_222 (86, [(0, .ref 1132), (1, .int x1)], [], zmk w s, 0, 0) (none, zmk w s2, 0, 0) := by
  obtain ⟨d, rfl⟩ : ∃ d0, d = d0 + 1 := ⟨d - 1, by omega⟩
  unfold f222_86 at h
  refine zGo_s (pc' := 87) (st' := [.ref 1132]) dd222_86 rfl ?_
  refine zGo_s (pc' := 88) (st' := [.int x1, .ref 1132]) dd222_87 rfl ?_
  obtain ⟨u1, hq, h⟩ := obn0 h
  refine zCV0 (As := [.int x1]) (rest := []) (b := 1132) (q' := q_224) dd222_88 rfl rfl (rcv_m rfl rfl (by decide)) rfl rfl rfl (f224_ok (d := d) (by omega)  hq) ?_
  refine zGo_s (pc' := 92) (st' := [.ref 1132]) dd222_91 rfl ?_
  obtain ⟨v3, u2, hq, h⟩ := obnd h
  refine zCV1 (As := []) (rest := []) (b := 1132) (q' := q_223) dd222_92 rfl rfl (rcv_m rfl rfl (by decide)) rfl rfl rfl (f223_ok (d := d) (by omega)  hq) ?_
  refine zGo_s (pc' := 96) (st' := []) (lv' := [(1, .int v3), (0, .ref 1132)]) dd222_95 rfl ?_
  refine zGo_s (pc' := 5) (st' := []) dd222_96 rfl ?_
  exact zGo_lv (lv := [(0, .ref 1132), (1, .int v3)]) ⟨by simp, by simp, by simp⟩ (hr5 _ _ _ h)
def f222_79 (n : Nat) (r5 : Int32 → zσ → Option zσ) (x1 : Int32) (s : zσ) : Option zσ :=
    if zin? x1 16 = true then
    zlet (sI s 1240 (nx x1) (vp_nar .boolean (0 : Int32))) fun u1 =>
    f222_86 n r5 x1 u1
    else none
set_option maxRecDepth 20000 in
theorem f222_79_ok {n d : Nat} {r5 : Int32 → zσ → Option zσ} {x1 : Int32} {s : zσ} {s2 : zσ} (hd : 29 ≤ d) (hr5 : ∀ (x1 : Int32) (s : zσ) (s2 : zσ), r5 x1 s = some s2 → ∀ {w : zσ} {fz : Bool} {L : Nat} {xs : Nat → Int32}, zGo (zX fz L xs) d q_222 (5, [(0, .ref 1132), (1, .int x1)], [], zmk w s, 0, 0) (none, zmk w s2, 0, 0)) (h : f222_79 n r5 x1 s = some s2) {w : zσ} {fz : Bool} {L : Nat} {xs : Nat → Int32} : zGo (zX fz L xs) d q_222 (79, [(0, .ref 1132), (1, .int x1)], [], zmk w s, 0, 0) (none, zmk w s2, 0, 0) := by
  obtain ⟨d, rfl⟩ : ∃ d0, d = d0 + 1 := ⟨d - 1, by omega⟩
  unfold f222_79 at h
  refine zGo_s (pc' := 80) (st' := [.ref 1132]) dd222_79 rfl ?_
  refine mGF (e := 1240) dd222_80 rfl rfl rfl rfl rfl ?_
  refine zGo_s (pc' := 84) (st' := [.int x1, .ref 1240]) dd222_83 rfl ?_
  refine zGo_s (pc' := 85) (st' := [.int (0 : Int32), .int x1, .ref 1240]) dd222_84 rfl ?_
  obtain ⟨hi, h⟩ := ochk h
  obtain ⟨u1, e_u1, h⟩ := olet h
  refine mBS dd222_85 rfl rfl rfl hi e_u1 ?_
  exact f222_86_ok hd hr5 h
def f222_5 (n : Nat) : Nat → Int32 → zσ → Option zσ
  | 0, _, _ => none
  | j + 1, x1, s =>
    if x1 = (-1 : Int32) then
    some s
    else if zin? x1 16 = true then
    if (s.1 1132 20) < (s.1 1241 (nx x1)) then
    some s
    else if zin? x1 16 = true then
    if zin? x1 16 = true then
    zlet ((((s.1 1241 (nx x1)).toInt64) + ((s.1 1242 (nx x1)).toInt64))) fun v1 =>
    if zin? x1 16 = true then
    if (0 : Int32) < (s.1 1242 (nx x1)) then
    if zin? x1 16 = true then
    if ((s.1 1243 (nx x1)).toInt64) < v1 then
    f222_79 n (f222_5 n j) x1 s
    else if (1000000000 : Int64) < v1 then
    f222_79 n (f222_5 n j) x1 s
    else if zin? x1 16 = true then
    zlet (sI s 1241 (nx x1) (v1.toInt32)) fun u2 =>
    f222_86 n (f222_5 n j) x1 u2
    else none
    else none
    else f222_79 n (f222_5 n j) x1 s
    else none
    else none
    else none
    else none
set_option maxRecDepth 20000 in
theorem f222_5_ok {n d : Nat} (hd : 29 ≤ d) : ∀ (j : Nat) (x1 : Int32) (s : zσ) (s2 : zσ), f222_5 n j x1 s = some s2 → ∀ {w : zσ} {fz : Bool} {L : Nat} {xs : Nat → Int32}, zGo (zX fz L xs) d q_222 (5, [(0, .ref 1132), (1, .int x1)], [], zmk w s, 0, 0) (none, zmk w s2, 0, 0) := by
  obtain ⟨d, rfl⟩ : ∃ d0, d = d0 + 1 := ⟨d - 1, by omega⟩
  intro j
  induction j with
  | zero => intro x1 s s2 h; cases h
  | succ j ih =>
    intro x1 s s2 h w fz L xs
    rw [f222_5] at h
    refine zGo_s (pc' := 6) (st' := [.int x1]) dd222_5 rfl ?_
    refine zGo_s (pc' := 7) (st' := [.int (-1 : Int32), .int x1]) dd222_6 rfl ?_
    rcases oite h with ⟨hc, h⟩ | ⟨hc, h⟩
    · refine zIT dd222_7 rfl (kEqT hc) ?_
      obtain rfl := ore0 h
      exact zGo_ret dd222_99 rfl rfl
    · refine zIF dd222_7 (kEqF hc) ?_
      refine zGo_s (pc' := 11) (st' := [.ref 1132]) dd222_10 rfl ?_
      refine mGF (e := 1241) dd222_11 rfl rfl rfl rfl rfl ?_
      refine zGo_s (pc' := 15) (st' := [.int x1, .ref 1241]) dd222_14 rfl ?_
      obtain ⟨hi, h⟩ := ochk h
      refine mIA dd222_15 rfl rfl hi ?_
      refine zGo_s (pc' := 17) (st' := [.ref 1132, .int (s.1 1241 (nx x1))]) dd222_16 rfl ?_
      refine mGI dd222_17 rfl rfl rfl rfl ?_
      rcases oite h with ⟨hc, h⟩ | ⟨hc, h⟩
      · refine zIT dd222_20 rfl (kGtT hc) ?_
        obtain rfl := ore0 h
        exact zGo_ret dd222_99 rfl rfl
      · refine zIF dd222_20 (kGtF hc) ?_
        refine zGo_s (pc' := 24) (st' := [.ref 1132]) dd222_23 rfl ?_
        refine mGF (e := 1241) dd222_24 rfl rfl rfl rfl rfl ?_
        refine zGo_s (pc' := 28) (st' := [.int x1, .ref 1241]) dd222_27 rfl ?_
        obtain ⟨hi, h⟩ := ochk h
        refine mIA dd222_28 rfl rfl hi ?_
        refine zGo_s (pc' := 30) (st' := [.long ((s.1 1241 (nx x1)).toInt64)]) dd222_29 rfl ?_
        refine zGo_s (pc' := 31) (st' := [.ref 1132, .long ((s.1 1241 (nx x1)).toInt64)]) dd222_30 rfl ?_
        refine mGF (e := 1242) dd222_31 rfl rfl rfl rfl rfl ?_
        refine zGo_s (pc' := 35) (st' := [.int x1, .ref 1242, .long ((s.1 1241 (nx x1)).toInt64)]) dd222_34 rfl ?_
        obtain ⟨hi, h⟩ := ochk h
        refine mIA dd222_35 rfl rfl hi ?_
        refine zGo_s (pc' := 37) (st' := [.long ((s.1 1242 (nx x1)).toInt64), .long ((s.1 1241 (nx x1)).toInt64)]) dd222_36 rfl ?_
        refine zGo_s (pc' := 38) (st' := [.long (((s.1 1241 (nx x1)).toInt64) + ((s.1 1242 (nx x1)).toInt64))]) dd222_37 rfl ?_
        obtain ⟨v1, e_v1, h⟩ := olet h
        refine zGo_is2 e_v1 dd222_38 (x' := (39, [(2, .long v1), (0, .ref 1132), (1, .int x1)], [], _, _, _)) rfl ?_
        refine zGo_s (pc' := 40) (st' := [.ref 1132]) dd222_39 rfl ?_
        refine mGF (e := 1242) dd222_40 rfl rfl rfl rfl rfl ?_
        refine zGo_s (pc' := 44) (st' := [.int x1, .ref 1242]) dd222_43 rfl ?_
        obtain ⟨hi, h⟩ := ochk h
        refine mIA dd222_44 rfl rfl hi ?_
        rcases oite h with ⟨hc, h⟩ | ⟨hc, h⟩
        · refine zUF dd222_45 (kLeF hc) ?_
          refine zGo_s (pc' := 49) (st' := [.long v1]) dd222_48 rfl ?_
          refine zGo_s (pc' := 50) (st' := [.ref 1132, .long v1]) dd222_49 rfl ?_
          refine mGF (e := 1243) dd222_50 rfl rfl rfl rfl rfl ?_
          refine zGo_s (pc' := 54) (st' := [.int x1, .ref 1243, .long v1]) dd222_53 rfl ?_
          obtain ⟨hi, h⟩ := ochk h
          refine mIA dd222_54 rfl rfl hi ?_
          refine zGo_s (pc' := 56) (st' := [.long ((s.1 1243 (nx x1)).toInt64), .long v1]) dd222_55 rfl ?_
          refine zGo_s (pc' := 57) (st' := [.int (lg_cmp v1 ((s.1 1243 (nx x1)).toInt64))]) dd222_56 rfl ?_
          rcases oite h with ⟨hc, h⟩ | ⟨hc, h⟩
          · refine zUT dd222_57 rfl (kcGtT hc) ?_
            exact zGo_lv (lv := [(0, .ref 1132), (1, .int x1)]) ⟨by simp, by simp, by simp⟩ (f222_79_ok hd ih h)
          · refine zUF dd222_57 (kcGtF hc) ?_
            refine zGo_s (pc' := 61) (st' := [.long v1]) dd222_60 rfl ?_
            refine zGo_s (pc' := 64) (st' := [.long (1000000000 : Int64), .long v1]) dd222_61 rfl ?_
            refine zGo_s (pc' := 65) (st' := [.int (lg_cmp v1 (1000000000 : Int64))]) dd222_64 rfl ?_
            rcases oite h with ⟨hc, h⟩ | ⟨hc, h⟩
            · refine zUT dd222_65 rfl (kcGtT hc) ?_
              exact zGo_lv (lv := [(0, .ref 1132), (1, .int x1)]) ⟨by simp, by simp, by simp⟩ (f222_79_ok hd ih h)
            · refine zUF dd222_65 (kcGtF hc) ?_
              refine zGo_s (pc' := 69) (st' := [.ref 1132]) dd222_68 rfl ?_
              refine mGF (e := 1241) dd222_69 rfl rfl rfl rfl rfl ?_
              refine zGo_s (pc' := 73) (st' := [.int x1, .ref 1241]) dd222_72 rfl ?_
              refine zGo_s (pc' := 74) (st' := [.long v1, .int x1, .ref 1241]) dd222_73 rfl ?_
              refine zGo_s (pc' := 75) (st' := [.int (v1.toInt32), .int x1, .ref 1241]) dd222_74 rfl ?_
              obtain ⟨hi, h⟩ := ochk h
              obtain ⟨u2, e_u2, h⟩ := olet h
              refine mIS dd222_75 rfl rfl hi e_u2 ?_
              refine zGo_s (pc' := 86) (st' := []) dd222_76 rfl ?_
              exact zGo_lv (lv := [(0, .ref 1132), (1, .int x1)]) ⟨by simp, by simp, by simp⟩ (f222_86_ok hd ih h)
        · refine zUT dd222_45 rfl (kLeT hc) ?_
          exact zGo_lv (lv := [(0, .ref 1132), (1, .int x1)]) ⟨by simp, by simp, by simp⟩ (f222_79_ok hd ih h)
def f222 (n : Nat) (s : zσ) : Option zσ :=
    yb1 (f223 n s) fun v2 u1 =>
    f222_5 n n v2 u1
set_option maxRecDepth 20000 in
theorem f222_ok {n d : Nat} {s : zσ} {s2 : zσ} (hd : 29 ≤ d) (h : f222 n s = some s2) {w : zσ} {fz : Bool} {L : Nat} {xs : Nat → Int32} : zGo (zX fz L xs) d q_222 (0, [(0, .ref 1132)], [], zmk w s, 0, 0) (none, zmk w s2, 0, 0) := by
  obtain ⟨d, rfl⟩ : ∃ d0, d = d0 + 1 := ⟨d - 1, by omega⟩
  unfold f222 at h
  refine zGo_s (pc' := 1) (st' := [.ref 1132]) dd222_0 rfl ?_
  obtain ⟨v2, u1, hq, h⟩ := obnd h
  refine zCV1 (As := []) (rest := []) (b := 1132) (q' := q_223) dd222_1 rfl rfl (rcv_m rfl rfl (by decide)) rfl rfl rfl (f223_ok (d := d) (by omega)  hq) ?_
  refine zGo_s (pc' := 5) (st' := []) (lv' := [(1, .int v2), (0, .ref 1132)]) dd222_4 rfl ?_
  exact zGo_lv (lv := [(0, .ref 1132), (1, .int v2)]) ⟨by simp, by simp, by simp⟩ (f222_5_ok hd _ _ _ _ h)
