/-! PHModel.isFirst(II)Z -/
theorem dd239_0 : decode cX13_isFirst 0 = .ok (.aload_n 0, 1) := by decide +kernel
theorem dd239_1 : decode cX13_isFirst 1 = .ok (.getfield 94, 3) := by decide +kernel
theorem dd239_4 : decode cX13_isFirst 4 = .ok (.iload_n 1, 1) := by decide +kernel
theorem dd239_5 : decode cX13_isFirst 5 = .ok (.iaload, 1) := by decide +kernel
theorem dd239_6 : decode cX13_isFirst 6 = .ok (.aload_n 0, 1) := by decide +kernel
theorem dd239_7 : decode cX13_isFirst 7 = .ok (.getfield 94, 3) := by decide +kernel
theorem dd239_10 : decode cX13_isFirst 10 = .ok (.iload_n 2, 1) := by decide +kernel
theorem dd239_11 : decode cX13_isFirst 11 = .ok (.iaload, 1) := by decide +kernel
theorem dd239_12 : decode cX13_isFirst 12 = .ok (.if_icmp .eq 26, 3) := by decide +kernel
theorem dd239_15 : decode cX13_isFirst 15 = .ok (.aload_n 0, 1) := by decide +kernel
theorem dd239_16 : decode cX13_isFirst 16 = .ok (.getfield 94, 3) := by decide +kernel
theorem dd239_19 : decode cX13_isFirst 19 = .ok (.iload_n 1, 1) := by decide +kernel
theorem dd239_20 : decode cX13_isFirst 20 = .ok (.iaload, 1) := by decide +kernel
theorem dd239_21 : decode cX13_isFirst 21 = .ok (.aload_n 0, 1) := by decide +kernel
theorem dd239_22 : decode cX13_isFirst 22 = .ok (.getfield 94, 3) := by decide +kernel
theorem dd239_25 : decode cX13_isFirst 25 = .ok (.iload_n 2, 1) := by decide +kernel
theorem dd239_26 : decode cX13_isFirst 26 = .ok (.iaload, 1) := by decide +kernel
theorem dd239_27 : decode cX13_isFirst 27 = .ok (.if_icmp .ge 7, 3) := by decide +kernel
theorem dd239_30 : decode cX13_isFirst 30 = .ok (.iconst 1, 1) := by decide +kernel
theorem dd239_31 : decode cX13_isFirst 31 = .ok (.goto 27, 3) := by decide +kernel
theorem dd239_34 : decode cX13_isFirst 34 = .ok (.iconst 0, 1) := by decide +kernel
theorem dd239_35 : decode cX13_isFirst 35 = .ok (.goto 23, 3) := by decide +kernel
theorem dd239_38 : decode cX13_isFirst 38 = .ok (.aload_n 0, 1) := by decide +kernel
theorem dd239_39 : decode cX13_isFirst 39 = .ok (.getfield 97, 3) := by decide +kernel
theorem dd239_42 : decode cX13_isFirst 42 = .ok (.iload_n 1, 1) := by decide +kernel
theorem dd239_43 : decode cX13_isFirst 43 = .ok (.iaload, 1) := by decide +kernel
theorem dd239_44 : decode cX13_isFirst 44 = .ok (.aload_n 0, 1) := by decide +kernel
theorem dd239_45 : decode cX13_isFirst 45 = .ok (.getfield 97, 3) := by decide +kernel
theorem dd239_48 : decode cX13_isFirst 48 = .ok (.iload_n 2, 1) := by decide +kernel
theorem dd239_49 : decode cX13_isFirst 49 = .ok (.iaload, 1) := by decide +kernel
theorem dd239_50 : decode cX13_isFirst 50 = .ok (.if_icmp .ge 7, 3) := by decide +kernel
theorem dd239_53 : decode cX13_isFirst 53 = .ok (.iconst 1, 1) := by decide +kernel
theorem dd239_54 : decode cX13_isFirst 54 = .ok (.goto 4, 3) := by decide +kernel
theorem dd239_57 : decode cX13_isFirst 57 = .ok (.iconst 0, 1) := by decide +kernel
theorem dd239_58 : decode cX13_isFirst 58 = .ok (.ireturn, 1) := by decide +kernel
def f239 (n : Nat) (x1 : Int32) (x2 : Int32) (s : zσ) : Option (Int32 × zσ) :=
    if zin? x1 8 = true then
    if zin? x2 8 = true then
    if (s.1 1226 (nx x1)) = (s.1 1226 (nx x2)) then
    if zin? x1 8 = true then
    if zin? x2 8 = true then
    if (s.1 1227 (nx x1)) < (s.1 1227 (nx x2)) then
    some ((1 : Int32), s)
    else some ((0 : Int32), s)
    else none
    else none
    else if zin? x1 8 = true then
    if zin? x2 8 = true then
    if (s.1 1226 (nx x1)) < (s.1 1226 (nx x2)) then
    some ((1 : Int32), s)
    else some ((0 : Int32), s)
    else none
    else none
    else none
    else none
set_option maxRecDepth 20000 in
theorem f239_ok {n d : Nat} {x1 : Int32} {x2 : Int32} {s : zσ} {v : Int32} {s2 : zσ} (hd : 0 ≤ d) (h : f239 n x1 x2 s = some (v, s2)) {w : zσ} {fz : Bool} {L : Nat} {xs : Nat → Int32} : zGo (zX fz L xs) d q_239 (0, [(0, .ref 1132), (1, .int x1), (2, .int x2)], [], zmk w s, 0, 0) (some (.int v), zmk w s2, 0, 0) := by
  unfold f239 at h
  refine zGo_s (pc' := 1) (st' := [.ref 1132]) dd239_0 rfl ?_
  refine mGF (e := 1226) dd239_1 rfl rfl rfl rfl rfl ?_
  refine zGo_s (pc' := 5) (st' := [.int x1, .ref 1226]) dd239_4 rfl ?_
  obtain ⟨hi, h⟩ := ochk h
  refine mIA dd239_5 rfl rfl hi ?_
  refine zGo_s (pc' := 7) (st' := [.ref 1132, .int (s.1 1226 (nx x1))]) dd239_6 rfl ?_
  refine mGF (e := 1226) dd239_7 rfl rfl rfl rfl rfl ?_
  refine zGo_s (pc' := 11) (st' := [.int x2, .ref 1226, .int (s.1 1226 (nx x1))]) dd239_10 rfl ?_
  obtain ⟨hi, h⟩ := ochk h
  refine mIA dd239_11 rfl rfl hi ?_
  rcases oite h with ⟨hc, h⟩ | ⟨hc, h⟩
  · refine zIT dd239_12 rfl (kEqT hc) ?_
    refine zGo_s (pc' := 39) (st' := [.ref 1132]) dd239_38 rfl ?_
    refine mGF (e := 1227) dd239_39 rfl rfl rfl rfl rfl ?_
    refine zGo_s (pc' := 43) (st' := [.int x1, .ref 1227]) dd239_42 rfl ?_
    obtain ⟨hi, h⟩ := ochk h
    refine mIA dd239_43 rfl rfl hi ?_
    refine zGo_s (pc' := 45) (st' := [.ref 1132, .int (s.1 1227 (nx x1))]) dd239_44 rfl ?_
    refine mGF (e := 1227) dd239_45 rfl rfl rfl rfl rfl ?_
    refine zGo_s (pc' := 49) (st' := [.int x2, .ref 1227, .int (s.1 1227 (nx x1))]) dd239_48 rfl ?_
    obtain ⟨hi, h⟩ := ochk h
    refine mIA dd239_49 rfl rfl hi ?_
    rcases oite h with ⟨hc, h⟩ | ⟨hc, h⟩
    · refine zIF dd239_50 (kGeF hc) ?_
      refine zGo_s (pc' := 54) (st' := [.int (1 : Int32)]) dd239_53 rfl ?_
      refine zGo_s (pc' := 58) (st' := [.int (1 : Int32)]) dd239_54 rfl ?_
      obtain ⟨rfl, rfl⟩ := oret h
      exact zGo_ret dd239_58 rfl rfl
    · refine zIT dd239_50 rfl (kGeT hc) ?_
      refine zGo_s (pc' := 58) (st' := [.int (0 : Int32)]) dd239_57 rfl ?_
      obtain ⟨rfl, rfl⟩ := oret h
      exact zGo_ret dd239_58 rfl rfl
  · refine zIF dd239_12 (kEqF hc) ?_
    refine zGo_s (pc' := 16) (st' := [.ref 1132]) dd239_15 rfl ?_
    refine mGF (e := 1226) dd239_16 rfl rfl rfl rfl rfl ?_
    refine zGo_s (pc' := 20) (st' := [.int x1, .ref 1226]) dd239_19 rfl ?_
    obtain ⟨hi, h⟩ := ochk h
    refine mIA dd239_20 rfl rfl hi ?_
    refine zGo_s (pc' := 22) (st' := [.ref 1132, .int (s.1 1226 (nx x1))]) dd239_21 rfl ?_
    refine mGF (e := 1226) dd239_22 rfl rfl rfl rfl rfl ?_
    refine zGo_s (pc' := 26) (st' := [.int x2, .ref 1226, .int (s.1 1226 (nx x1))]) dd239_25 rfl ?_
    obtain ⟨hi, h⟩ := ochk h
    refine mIA dd239_26 rfl rfl hi ?_
    rcases oite h with ⟨hc, h⟩ | ⟨hc, h⟩
    · refine zIF dd239_27 (kGeF hc) ?_
      refine zGo_s (pc' := 31) (st' := [.int (1 : Int32)]) dd239_30 rfl ?_
      refine zGo_s (pc' := 58) (st' := [.int (1 : Int32)]) dd239_31 rfl ?_
      obtain ⟨rfl, rfl⟩ := oret h
      exact zGo_ret dd239_58 rfl rfl
    · refine zIT dd239_27 rfl (kGeT hc) ?_
      refine zGo_s (pc' := 35) (st' := [.int (0 : Int32)]) dd239_34 rfl ?_
      refine zGo_s (pc' := 58) (st' := [.int (0 : Int32)]) dd239_35 rfl ?_
      obtain ⟨rfl, rfl⟩ := oret h
      exact zGo_ret dd239_58 rfl rfl
/-! PHModel.chosen([I)I -/
theorem dd238_0 : decode cX13_chosen 0 = .ok (.iconst 0, 1) := by decide +kernel
theorem dd238_1 : decode cX13_chosen 1 = .ok (.istore_n 2, 1) := by decide +kernel
theorem dd238_2 : decode cX13_chosen 2 = .ok (.iconst (-1), 1) := by decide +kernel
theorem dd238_3 : decode cX13_chosen 3 = .ok (.istore_n 3, 1) := by decide +kernel
theorem dd238_4 : decode cX13_chosen 4 = .ok (.iload_n 2, 1) := by decide +kernel
theorem dd238_5 : decode cX13_chosen 5 = .ok (.aload_n 0, 1) := by decide +kernel
theorem dd238_6 : decode cX13_chosen 6 = .ok (.getfield 33, 3) := by decide +kernel
theorem dd238_9 : decode cX13_chosen 9 = .ok (.if_icmp .ge 111, 3) := by decide +kernel
theorem dd238_12 : decode cX13_chosen 12 = .ok (.iconst (-1), 1) := by decide +kernel
theorem dd238_13 : decode cX13_chosen 13 = .ok (.istore 4, 2) := by decide +kernel
theorem dd238_15 : decode cX13_chosen 15 = .ok (.iconst 0, 1) := by decide +kernel
theorem dd238_16 : decode cX13_chosen 16 = .ok (.istore 5, 2) := by decide +kernel
theorem dd238_18 : decode cX13_chosen 18 = .ok (.iload 5, 2) := by decide +kernel
theorem dd238_20 : decode cX13_chosen 20 = .ok (.aload_n 0, 1) := by decide +kernel
theorem dd238_21 : decode cX13_chosen 21 = .ok (.invokevirtual 583, 3) := by decide +kernel
theorem dd238_24 : decode cX13_chosen 24 = .ok (.if_icmp .ge 74, 3) := by decide +kernel
theorem dd238_27 : decode cX13_chosen 27 = .ok (.iload_n 3, 1) := by decide +kernel
theorem dd238_28 : decode cX13_chosen 28 = .ok (.iconst (-1), 1) := by decide +kernel
theorem dd238_29 : decode cX13_chosen 29 = .ok (.if_icmp .eq 13, 3) := by decide +kernel
theorem dd238_32 : decode cX13_chosen 32 = .ok (.aload_n 0, 1) := by decide +kernel
theorem dd238_33 : decode cX13_chosen 33 = .ok (.iload_n 3, 1) := by decide +kernel
theorem dd238_34 : decode cX13_chosen 34 = .ok (.iload 5, 2) := by decide +kernel
theorem dd238_36 : decode cX13_chosen 36 = .ok (.invokevirtual 758, 3) := by decide +kernel
theorem dd238_39 : decode cX13_chosen 39 = .ok (.ifCond .eq 7, 3) := by decide +kernel
theorem dd238_42 : decode cX13_chosen 42 = .ok (.iconst 1, 1) := by decide +kernel
theorem dd238_43 : decode cX13_chosen 43 = .ok (.goto 4, 3) := by decide +kernel
theorem dd238_46 : decode cX13_chosen 46 = .ok (.iconst 0, 1) := by decide +kernel
theorem dd238_47 : decode cX13_chosen 47 = .ok (.istore 6, 2) := by decide +kernel
theorem dd238_49 : decode cX13_chosen 49 = .ok (.aload_n 0, 1) := by decide +kernel
theorem dd238_50 : decode cX13_chosen 50 = .ok (.getfield 91, 3) := by decide +kernel
theorem dd238_53 : decode cX13_chosen 53 = .ok (.iload 5, 2) := by decide +kernel
theorem dd238_55 : decode cX13_chosen 55 = .ok (.iaload, 1) := by decide +kernel
theorem dd238_56 : decode cX13_chosen 56 = .ok (.iconst 1, 1) := by decide +kernel
theorem dd238_57 : decode cX13_chosen 57 = .ok (.if_icmp .ne 35, 3) := by decide +kernel
theorem dd238_60 : decode cX13_chosen 60 = .ok (.iload 6, 2) := by decide +kernel
theorem dd238_62 : decode cX13_chosen 62 = .ok (.ifCond .eq 30, 3) := by decide +kernel
theorem dd238_65 : decode cX13_chosen 65 = .ok (.iload 5, 2) := by decide +kernel
theorem dd238_67 : decode cX13_chosen 67 = .ok (.iload_n 3, 1) := by decide +kernel
theorem dd238_68 : decode cX13_chosen 68 = .ok (.if_icmp .eq 24, 3) := by decide +kernel
theorem dd238_71 : decode cX13_chosen 71 = .ok (.iload 4, 2) := by decide +kernel
theorem dd238_73 : decode cX13_chosen 73 = .ok (.iconst (-1), 1) := by decide +kernel
theorem dd238_74 : decode cX13_chosen 74 = .ok (.if_icmp .eq 14, 3) := by decide +kernel
theorem dd238_77 : decode cX13_chosen 77 = .ok (.aload_n 0, 1) := by decide +kernel
theorem dd238_78 : decode cX13_chosen 78 = .ok (.iload 5, 2) := by decide +kernel
theorem dd238_80 : decode cX13_chosen 80 = .ok (.iload 4, 2) := by decide +kernel
theorem dd238_82 : decode cX13_chosen 82 = .ok (.invokevirtual 758, 3) := by decide +kernel
theorem dd238_85 : decode cX13_chosen 85 = .ok (.ifCond .eq 7, 3) := by decide +kernel
theorem dd238_88 : decode cX13_chosen 88 = .ok (.iload 5, 2) := by decide +kernel
theorem dd238_90 : decode cX13_chosen 90 = .ok (.istore 4, 2) := by decide +kernel
theorem dd238_92 : decode cX13_chosen 92 = .ok (.iinc 5 1, 3) := by decide +kernel
theorem dd238_95 : decode cX13_chosen 95 = .ok (.goto (-77), 3) := by decide +kernel
theorem dd238_98 : decode cX13_chosen 98 = .ok (.iload 4, 2) := by decide +kernel
theorem dd238_100 : decode cX13_chosen 100 = .ok (.iconst (-1), 1) := by decide +kernel
theorem dd238_101 : decode cX13_chosen 101 = .ok (.if_icmp .ne 5, 3) := by decide +kernel
theorem dd238_104 : decode cX13_chosen 104 = .ok (.iload_n 2, 1) := by decide +kernel
theorem dd238_105 : decode cX13_chosen 105 = .ok (.ireturn, 1) := by decide +kernel
theorem dd238_106 : decode cX13_chosen 106 = .ok (.aload_n 1, 1) := by decide +kernel
theorem dd238_107 : decode cX13_chosen 107 = .ok (.iload_n 2, 1) := by decide +kernel
theorem dd238_108 : decode cX13_chosen 108 = .ok (.iload 4, 2) := by decide +kernel
theorem dd238_110 : decode cX13_chosen 110 = .ok (.iastore, 1) := by decide +kernel
theorem dd238_111 : decode cX13_chosen 111 = .ok (.iinc 2 1, 3) := by decide +kernel
theorem dd238_114 : decode cX13_chosen 114 = .ok (.iload 4, 2) := by decide +kernel
theorem dd238_116 : decode cX13_chosen 116 = .ok (.istore_n 3, 1) := by decide +kernel
theorem dd238_117 : decode cX13_chosen 117 = .ok (.goto (-113), 3) := by decide +kernel
theorem dd238_120 : decode cX13_chosen 120 = .ok (.iload_n 2, 1) := by decide +kernel
theorem dd238_121 : decode cX13_chosen 121 = .ok (.ireturn, 1) := by decide +kernel
def f238_92 (n : Nat) (r4 : Int32 → Int32 → zσ → Option (Int32 × zσ)) (r18 : Int32 → Int32 → Int32 → Int32 → zσ → Option (Int32 × zσ)) (x2 : Int32) (x3 : Int32) (x4 : Int32) (x5 : Int32) (s : zσ) : Option (Int32 × zσ) :=
    r18 x2 x3 x4 (x5 + (1 : Int32)) s
set_option maxRecDepth 20000 in
theorem f238_92_ok {n d : Nat} {r4 : Int32 → Int32 → zσ → Option (Int32 × zσ)} {r18 : Int32 → Int32 → Int32 → Int32 → zσ → Option (Int32 × zσ)} {x2 : Int32} {x3 : Int32} {x4 : Int32} {x5 : Int32} {s : zσ} {v : Int32} {s2 : zσ} (hd : 1 ≤ d) (hr4 : ∀ (x2 : Int32) (x3 : Int32) (s : zσ) (v : Int32) (s2 : zσ), r4 x2 x3 s = some (v, s2) → ∀ {w : zσ} {fz : Bool} {L : Nat} {xs : Nat → Int32}, zGo (zX fz L xs) d q_238 (4, [(0, .ref 1132), (1, .ref 1248), (2, .int x2), (3, .int x3)], [], zmk w s, 0, 0) (some (.int v), zmk w s2, 0, 0)) (hr18 : ∀ (x2 : Int32) (x3 : Int32) (x4 : Int32) (x5 : Int32) (s : zσ) (v : Int32) (s2 : zσ), r18 x2 x3 x4 x5 s = some (v, s2) → ∀ {w : zσ} {fz : Bool} {L : Nat} {xs : Nat → Int32}, zGo (zX fz L xs) d q_238 (18, [(0, .ref 1132), (1, .ref 1248), (2, .int x2), (3, .int x3), (4, .int x4), (5, .int x5)], [], zmk w s, 0, 0) (some (.int v), zmk w s2, 0, 0)) (h : f238_92 n r4 r18 x2 x3 x4 x5 s = some (v, s2)) {w : zσ} {fz : Bool} {L : Nat} {xs : Nat → Int32} : zGo (zX fz L xs) d q_238 (92, [(0, .ref 1132), (1, .ref 1248), (2, .int x2), (3, .int x3), (4, .int x4), (5, .int x5)], [], zmk w s, 0, 0) (some (.int v), zmk w s2, 0, 0) := by
  obtain ⟨d, rfl⟩ : ∃ d0, d = d0 + 1 := ⟨d - 1, by omega⟩
  unfold f238_92 at h
  refine zGo_s (pc' := 95) (st' := []) (lv' := [(5, .int (x5 + (1 : Int32))), (0, .ref 1132), (1, .ref 1248), (2, .int x2), (3, .int x3), (4, .int x4)]) dd238_92 rfl ?_
  refine zGo_s (pc' := 18) (st' := []) dd238_95 rfl ?_
  exact zGo_lv (lv := [(0, .ref 1132), (1, .ref 1248), (2, .int x2), (3, .int x3), (4, .int x4), (5, .int (x5 + (1 : Int32)))]) ⟨by simp, by simp, by simp⟩ (hr18 _ _ _ _ _ _ _ h)
def f238_88 (n : Nat) (r4 : Int32 → Int32 → zσ → Option (Int32 × zσ)) (r18 : Int32 → Int32 → Int32 → Int32 → zσ → Option (Int32 × zσ)) (x2 : Int32) (x3 : Int32) (x5 : Int32) (s : zσ) : Option (Int32 × zσ) :=
    f238_92 n r4 r18 x2 x3 x5 x5 s
set_option maxRecDepth 20000 in
theorem f238_88_ok {n d : Nat} {r4 : Int32 → Int32 → zσ → Option (Int32 × zσ)} {r18 : Int32 → Int32 → Int32 → Int32 → zσ → Option (Int32 × zσ)} {x2 : Int32} {x3 : Int32} {x5 : Int32} {s : zσ} {v : Int32} {s2 : zσ} (hd : 1 ≤ d) (hr4 : ∀ (x2 : Int32) (x3 : Int32) (s : zσ) (v : Int32) (s2 : zσ), r4 x2 x3 s = some (v, s2) → ∀ {w : zσ} {fz : Bool} {L : Nat} {xs : Nat → Int32}, zGo (zX fz L xs) d q_238 (4, [(0, .ref 1132), (1, .ref 1248), (2, .int x2), (3, .int x3)], [], zmk w s, 0, 0) (some (.int v), zmk w s2, 0, 0)) (hr18 : ∀ (x2 : Int32) (x3 : Int32) (x4 : Int32) (x5 : Int32) (s : zσ) (v : Int32) (s2 : zσ), r18 x2 x3 x4 x5 s = some (v, s2) → ∀ {w : zσ} {fz : Bool} {L : Nat} {xs : Nat → Int32}, zGo (zX fz L xs) d q_238 (18, [(0, .ref 1132), (1, .ref 1248), (2, .int x2), (3, .int x3), (4, .int x4), (5, .int x5)], [], zmk w s, 0, 0) (some (.int v), zmk w s2, 0, 0)) (h : f238_88 n r4 r18 x2 x3 x5 s = some (v, s2)) {w : zσ} {fz : Bool} {L : Nat} {xs : Nat → Int32} : zGo (zX fz L xs) d q_238 (88, [(0, .ref 1132), (1, .ref 1248), (2, .int x2), (3, .int x3), (5, .int x5)], [], zmk w s, 0, 0) (some (.int v), zmk w s2, 0, 0) := by
  obtain ⟨d, rfl⟩ : ∃ d0, d = d0 + 1 := ⟨d - 1, by omega⟩
  unfold f238_88 at h
  refine zGo_s (pc' := 90) (st' := [.int x5]) dd238_88 rfl ?_
  refine zGo_s (pc' := 92) (st' := []) (lv' := [(4, .int x5), (0, .ref 1132), (1, .ref 1248), (2, .int x2), (3, .int x3), (5, .int x5)]) dd238_90 rfl ?_
  exact zGo_lv (lv := [(0, .ref 1132), (1, .ref 1248), (2, .int x2), (3, .int x3), (4, .int x5), (5, .int x5)]) ⟨by simp, by simp, by simp⟩ (f238_92_ok hd hr4 hr18 h)
def f238_47 (n : Nat) (r4 : Int32 → Int32 → zσ → Option (Int32 × zσ)) (r18 : Int32 → Int32 → Int32 → Int32 → zσ → Option (Int32 × zσ)) (x2 : Int32) (x3 : Int32) (x4 : Int32) (x5 : Int32) (y0 : Int32) (s : zσ) : Option (Int32 × zσ) :=
    if zin? x5 8 = true then
    if (s.1 1225 (nx x5)) = (1 : Int32) then
    if y0 = (0 : Int32) then
    f238_92 n r4 r18 x2 x3 x4 x5 s
    else if x5 = x3 then
    f238_92 n r4 r18 x2 x3 x4 x5 s
    else if x4 = (-1 : Int32) then
    f238_88 n r4 r18 x2 x3 x5 s
    else yb1 (f239 n x5 x4 s) fun v2 u1 =>
    if v2 = (0 : Int32) then
    f238_92 n r4 r18 x2 x3 x4 x5 u1
    else f238_88 n r4 r18 x2 x3 x5 u1
    else f238_92 n r4 r18 x2 x3 x4 x5 s
    else none
set_option maxRecDepth 20000 in
theorem f238_47_ok {n d : Nat} {r4 : Int32 → Int32 → zσ → Option (Int32 × zσ)} {r18 : Int32 → Int32 → Int32 → Int32 → zσ → Option (Int32 × zσ)} {x2 : Int32} {x3 : Int32} {x4 : Int32} {x5 : Int32} {y0 : Int32} {s : zσ} {v : Int32} {s2 : zσ} (hd : 1 ≤ d) (hr4 : ∀ (x2 : Int32) (x3 : Int32) (s : zσ) (v : Int32) (s2 : zσ), r4 x2 x3 s = some (v, s2) → ∀ {w : zσ} {fz : Bool} {L : Nat} {xs : Nat → Int32}, zGo (zX fz L xs) d q_238 (4, [(0, .ref 1132), (1, .ref 1248), (2, .int x2), (3, .int x3)], [], zmk w s, 0, 0) (some (.int v), zmk w s2, 0, 0)) (hr18 : ∀ (x2 : Int32) (x3 : Int32) (x4 : Int32) (x5 : Int32) (s : zσ) (v : Int32) (s2 : zσ), r18 x2 x3 x4 x5 s = some (v, s2) → ∀ {w : zσ} {fz : Bool} {L : Nat} {xs : Nat → Int32}, zGo (zX fz L xs) d q_238 (18, [(0, .ref 1132), (1, .ref 1248), (2, .int x2), (3, .int x3), (4, .int x4), (5, .int x5)], [], zmk w s, 0, 0) (some (.int v), zmk w s2, 0, 0)) (h : f238_47 n r4 r18 x2 x3 x4 x5 y0 s = some (v, s2)) {w : zσ} {fz : Bool} {L : Nat} {xs : Nat → Int32} : zGo (zX fz L xs) d q_238 (47, [(0, .ref 1132), (1, .ref 1248), (2, .int x2), (3, .int x3), (4, .int x4), (5, .int x5)], [.int y0], zmk w s, 0, 0) (some (.int v), zmk w s2, 0, 0) := by
  obtain ⟨d, rfl⟩ : ∃ d0, d = d0 + 1 := ⟨d - 1, by omega⟩
  unfold f238_47 at h
  refine zGo_s (pc' := 49) (st' := []) (lv' := [(6, .int y0), (0, .ref 1132), (1, .ref 1248), (2, .int x2), (3, .int x3), (4, .int x4), (5, .int x5)]) dd238_47 rfl ?_
  refine zGo_s (pc' := 50) (st' := [.ref 1132]) dd238_49 rfl ?_
  refine mGF (e := 1225) dd238_50 rfl rfl rfl rfl rfl ?_
  refine zGo_s (pc' := 55) (st' := [.int x5, .ref 1225]) dd238_53 rfl ?_
  obtain ⟨hi, h⟩ := ochk h
  refine mIA dd238_55 rfl rfl hi ?_
  refine zGo_s (pc' := 57) (st' := [.int (1 : Int32), .int (s.1 1225 (nx x5))]) dd238_56 rfl ?_
  rcases oite h with ⟨hc, h⟩ | ⟨hc, h⟩
  · refine zIF dd238_57 (kNeF hc) ?_
    refine zGo_s (pc' := 62) (st' := [.int y0]) dd238_60 rfl ?_
    rcases oite h with ⟨hc, h⟩ | ⟨hc, h⟩
    · refine zUT dd238_62 rfl (kEqT hc) ?_
      exact zGo_lv (lv := [(0, .ref 1132), (1, .ref 1248), (2, .int x2), (3, .int x3), (4, .int x4), (5, .int x5)]) ⟨by simp, by simp, by simp⟩ (f238_92_ok hd hr4 hr18 h)
    · refine zUF dd238_62 (kEqF hc) ?_
      refine zGo_s (pc' := 67) (st' := [.int x5]) dd238_65 rfl ?_
      refine zGo_s (pc' := 68) (st' := [.int x3, .int x5]) dd238_67 rfl ?_
      rcases oite h with ⟨hc, h⟩ | ⟨hc, h⟩
      · refine zIT dd238_68 rfl (kEqT hc) ?_
        exact zGo_lv (lv := [(0, .ref 1132), (1, .ref 1248), (2, .int x2), (3, .int x3), (4, .int x4), (5, .int x5)]) ⟨by simp, by simp, by simp⟩ (f238_92_ok hd hr4 hr18 h)
      · refine zIF dd238_68 (kEqF hc) ?_
        refine zGo_s (pc' := 73) (st' := [.int x4]) dd238_71 rfl ?_
        refine zGo_s (pc' := 74) (st' := [.int (-1 : Int32), .int x4]) dd238_73 rfl ?_
        rcases oite h with ⟨hc, h⟩ | ⟨hc, h⟩
        · refine zIT dd238_74 rfl (kEqT hc) ?_
          exact zGo_lv (lv := [(0, .ref 1132), (1, .ref 1248), (2, .int x2), (3, .int x3), (5, .int x5)]) ⟨by simp, by simp, by simp⟩ (f238_88_ok hd hr4 hr18 h)
        · refine zIF dd238_74 (kEqF hc) ?_
          refine zGo_s (pc' := 78) (st' := [.ref 1132]) dd238_77 rfl ?_
          refine zGo_s (pc' := 80) (st' := [.int x5, .ref 1132]) dd238_78 rfl ?_
          refine zGo_s (pc' := 82) (st' := [.int x4, .int x5, .ref 1132]) dd238_80 rfl ?_
          obtain ⟨v2, u1, hq, h⟩ := obnd h
          refine zCV1 (As := [.int x5, .int x4]) (rest := []) (b := 1132) (q' := q_239) dd238_82 rfl rfl (rcv_m rfl rfl (by decide)) rfl rfl rfl (f239_ok (d := d) (by omega)  hq) ?_
          rcases oite h with ⟨hc, h⟩ | ⟨hc, h⟩
          · refine zUT dd238_85 rfl (kEqT hc) ?_
            exact zGo_lv (lv := [(0, .ref 1132), (1, .ref 1248), (2, .int x2), (3, .int x3), (4, .int x4), (5, .int x5)]) ⟨by simp, by simp, by simp⟩ (f238_92_ok hd hr4 hr18 h)
          · refine zUF dd238_85 (kEqF hc) ?_
            exact zGo_lv (lv := [(0, .ref 1132), (1, .ref 1248), (2, .int x2), (3, .int x3), (5, .int x5)]) ⟨by simp, by simp, by simp⟩ (f238_88_ok hd hr4 hr18 h)
  · refine zIT dd238_57 rfl (kNeT hc) ?_
    exact zGo_lv (lv := [(0, .ref 1132), (1, .ref 1248), (2, .int x2), (3, .int x3), (4, .int x4), (5, .int x5)]) ⟨by simp, by simp, by simp⟩ (f238_92_ok hd hr4 hr18 h)
def f238_42 (n : Nat) (r4 : Int32 → Int32 → zσ → Option (Int32 × zσ)) (r18 : Int32 → Int32 → Int32 → Int32 → zσ → Option (Int32 × zσ)) (x2 : Int32) (x3 : Int32) (x4 : Int32) (x5 : Int32) (s : zσ) : Option (Int32 × zσ) :=
    f238_47 n r4 r18 x2 x3 x4 x5 (1 : Int32) s
set_option maxRecDepth 20000 in
theorem f238_42_ok {n d : Nat} {r4 : Int32 → Int32 → zσ → Option (Int32 × zσ)} {r18 : Int32 → Int32 → Int32 → Int32 → zσ → Option (Int32 × zσ)} {x2 : Int32} {x3 : Int32} {x4 : Int32} {x5 : Int32} {s : zσ} {v : Int32} {s2 : zσ} (hd : 1 ≤ d) (hr4 : ∀ (x2 : Int32) (x3 : Int32) (s : zσ) (v : Int32) (s2 : zσ), r4 x2 x3 s = some (v, s2) → ∀ {w : zσ} {fz : Bool} {L : Nat} {xs : Nat → Int32}, zGo (zX fz L xs) d q_238 (4, [(0, .ref 1132), (1, .ref 1248), (2, .int x2), (3, .int x3)], [], zmk w s, 0, 0) (some (.int v), zmk w s2, 0, 0)) (hr18 : ∀ (x2 : Int32) (x3 : Int32) (x4 : Int32) (x5 : Int32) (s : zσ) (v : Int32) (s2 : zσ), r18 x2 x3 x4 x5 s = some (v, s2) → ∀ {w : zσ} {fz : Bool} {L : Nat} {xs : Nat → Int32}, zGo (zX fz L xs) d q_238 (18, [(0, .ref 1132), (1, .ref 1248), (2, .int x2), (3, .int x3), (4, .int x4), (5, .int x5)], [], zmk w s, 0, 0) (some (.int v), zmk w s2, 0, 0)) (h : f238_42 n r4 r18 x2 x3 x4 x5 s = some (v, s2)) {w : zσ} {fz : Bool} {L : Nat} {xs : Nat → Int32} : zGo (zX fz L xs) d q_238 (42, [(0, .ref 1132), (1, .ref 1248), (2, .int x2), (3, .int x3), (4, .int x4), (5, .int x5)], [], zmk w s, 0, 0) (some (.int v), zmk w s2, 0, 0) := by
  obtain ⟨d, rfl⟩ : ∃ d0, d = d0 + 1 := ⟨d - 1, by omega⟩
  unfold f238_42 at h
  refine zGo_s (pc' := 43) (st' := [.int (1 : Int32)]) dd238_42 rfl ?_
  refine zGo_s (pc' := 47) (st' := [.int (1 : Int32)]) dd238_43 rfl ?_
  exact f238_47_ok hd hr4 hr18 h
def f238_18 (n : Nat) (r4 : Int32 → Int32 → zσ → Option (Int32 × zσ)) : Nat → Int32 → Int32 → Int32 → Int32 → zσ → Option (Int32 × zσ)
  | 0, _, _, _, _, _ => none
  | j + 1, x2, x3, x4, x5, s =>
    yb1 (f209 n s) fun v2 u1 =>
    if x5 < v2 then
    if x3 = (-1 : Int32) then
    f238_42 n r4 (f238_18 n r4 j) x2 x3 x4 x5 u1
    else yb1 (f239 n x3 x5 u1) fun v5 u4 =>
    if v5 = (0 : Int32) then
    f238_47 n r4 (f238_18 n r4 j) x2 x3 x4 x5 (0 : Int32) u4
    else f238_42 n r4 (f238_18 n r4 j) x2 x3 x4 x5 u4
    else if x4 = (-1 : Int32) then
    some (x2, u1)
    else if zin? x2 3 = true then
    zlet (sI u1 1248 (nx x2) x4) fun u3 =>
    r4 (x2 + (1 : Int32)) x4 u3
    else none
set_option maxRecDepth 20000 in
theorem f238_18_ok {n d : Nat} {r4 : Int32 → Int32 → zσ → Option (Int32 × zσ)} (hd : 1 ≤ d) (hr4 : ∀ (x2 : Int32) (x3 : Int32) (s : zσ) (v : Int32) (s2 : zσ), r4 x2 x3 s = some (v, s2) → ∀ {w : zσ} {fz : Bool} {L : Nat} {xs : Nat → Int32}, zGo (zX fz L xs) d q_238 (4, [(0, .ref 1132), (1, .ref 1248), (2, .int x2), (3, .int x3)], [], zmk w s, 0, 0) (some (.int v), zmk w s2, 0, 0)) : ∀ (j : Nat) (x2 : Int32) (x3 : Int32) (x4 : Int32) (x5 : Int32) (s : zσ) (v : Int32) (s2 : zσ), f238_18 n r4 j x2 x3 x4 x5 s = some (v, s2) → ∀ {w : zσ} {fz : Bool} {L : Nat} {xs : Nat → Int32}, zGo (zX fz L xs) d q_238 (18, [(0, .ref 1132), (1, .ref 1248), (2, .int x2), (3, .int x3), (4, .int x4), (5, .int x5)], [], zmk w s, 0, 0) (some (.int v), zmk w s2, 0, 0) := by
  obtain ⟨d, rfl⟩ : ∃ d0, d = d0 + 1 := ⟨d - 1, by omega⟩
  intro j
  induction j with
  | zero => intro x2 x3 x4 x5 s v s2 h; cases h
  | succ j ih =>
    intro x2 x3 x4 x5 s v s2 h w fz L xs
    rw [f238_18] at h
    refine zGo_s (pc' := 20) (st' := [.int x5]) dd238_18 rfl ?_
    refine zGo_s (pc' := 21) (st' := [.ref 1132, .int x5]) dd238_20 rfl ?_
    obtain ⟨v2, u1, hq, h⟩ := obnd h
    refine zCV1 (As := []) (rest := [.int x5]) (b := 1132) (q' := q_209) dd238_21 rfl rfl (rcv_m rfl rfl (by decide)) rfl rfl rfl (f209_ok (d := d) (by omega)  hq) ?_
    rcases oite h with ⟨hc, h⟩ | ⟨hc, h⟩
    · refine zIF dd238_24 (kGeF hc) ?_
      refine zGo_s (pc' := 28) (st' := [.int x3]) dd238_27 rfl ?_
      refine zGo_s (pc' := 29) (st' := [.int (-1 : Int32), .int x3]) dd238_28 rfl ?_
      rcases oite h with ⟨hc, h⟩ | ⟨hc, h⟩
      · refine zIT dd238_29 rfl (kEqT hc) ?_
        exact f238_42_ok hd hr4 ih h
      · refine zIF dd238_29 (kEqF hc) ?_
        refine zGo_s (pc' := 33) (st' := [.ref 1132]) dd238_32 rfl ?_
        refine zGo_s (pc' := 34) (st' := [.int x3, .ref 1132]) dd238_33 rfl ?_
        refine zGo_s (pc' := 36) (st' := [.int x5, .int x3, .ref 1132]) dd238_34 rfl ?_
        obtain ⟨v5, u4, hq, h⟩ := obnd h
        refine zCV1 (As := [.int x3, .int x5]) (rest := []) (b := 1132) (q' := q_239) dd238_36 rfl rfl (rcv_m rfl rfl (by decide)) rfl rfl rfl (f239_ok (d := d) (by omega)  hq) ?_
        rcases oite h with ⟨hc, h⟩ | ⟨hc, h⟩
        · refine zUT dd238_39 rfl (kEqT hc) ?_
          refine zGo_s (pc' := 47) (st' := [.int (0 : Int32)]) dd238_46 rfl ?_
          exact f238_47_ok hd hr4 ih h
        · refine zUF dd238_39 (kEqF hc) ?_
          exact f238_42_ok hd hr4 ih h
    · refine zIT dd238_24 rfl (kGeT hc) ?_
      refine zGo_s (pc' := 100) (st' := [.int x4]) dd238_98 rfl ?_
      refine zGo_s (pc' := 101) (st' := [.int (-1 : Int32), .int x4]) dd238_100 rfl ?_
      rcases oite h with ⟨hc, h⟩ | ⟨hc, h⟩
      · refine zIF dd238_101 (kNeF hc) ?_
        refine zGo_s (pc' := 105) (st' := [.int x2]) dd238_104 rfl ?_
        obtain ⟨rfl, rfl⟩ := oret h
        exact zGo_ret dd238_105 rfl rfl
      · refine zIT dd238_101 rfl (kNeT hc) ?_
        refine zGo_s (pc' := 107) (st' := [.ref 1248]) dd238_106 rfl ?_
        refine zGo_s (pc' := 108) (st' := [.int x2, .ref 1248]) dd238_107 rfl ?_
        refine zGo_s (pc' := 110) (st' := [.int x4, .int x2, .ref 1248]) dd238_108 rfl ?_
        obtain ⟨hi, h⟩ := ochk h
        obtain ⟨u3, e_u3, h⟩ := olet h
        refine mIS dd238_110 rfl rfl hi e_u3 ?_
        refine zGo_s (pc' := 114) (st' := []) (lv' := [(2, .int (x2 + (1 : Int32))), (0, .ref 1132), (1, .ref 1248), (3, .int x3), (4, .int x4), (5, .int x5)]) dd238_111 rfl ?_
        refine zGo_s (pc' := 116) (st' := [.int x4]) dd238_114 rfl ?_
        refine zGo_s (pc' := 117) (st' := []) (lv' := [(3, .int x4), (2, .int (x2 + (1 : Int32))), (0, .ref 1132), (1, .ref 1248), (4, .int x4), (5, .int x5)]) dd238_116 rfl ?_
        refine zGo_s (pc' := 4) (st' := []) dd238_117 rfl ?_
        exact zGo_lv (lv := [(0, .ref 1132), (1, .ref 1248), (2, .int (x2 + (1 : Int32))), (3, .int x4)]) ⟨by simp, by simp, by simp⟩ (hr4 _ _ _ _ _ h)
def f238_4 (n : Nat) : Nat → Int32 → Int32 → zσ → Option (Int32 × zσ)
  | 0, _, _, _ => none
  | j + 1, x2, x3, s =>
    if x2 < (s.1 1132 19) then
    f238_18 n (f238_4 n j) n x2 x3 (-1 : Int32) (0 : Int32) s
    else some (x2, s)
set_option maxRecDepth 20000 in
theorem f238_4_ok {n d : Nat} (hd : 1 ≤ d) : ∀ (j : Nat) (x2 : Int32) (x3 : Int32) (s : zσ) (v : Int32) (s2 : zσ), f238_4 n j x2 x3 s = some (v, s2) → ∀ {w : zσ} {fz : Bool} {L : Nat} {xs : Nat → Int32}, zGo (zX fz L xs) d q_238 (4, [(0, .ref 1132), (1, .ref 1248), (2, .int x2), (3, .int x3)], [], zmk w s, 0, 0) (some (.int v), zmk w s2, 0, 0) := by
  obtain ⟨d, rfl⟩ : ∃ d0, d = d0 + 1 := ⟨d - 1, by omega⟩
  intro j
  induction j with
  | zero => intro x2 x3 s v s2 h; cases h
  | succ j ih =>
    intro x2 x3 s v s2 h w fz L xs
    rw [f238_4] at h
    refine zGo_s (pc' := 5) (st' := [.int x2]) dd238_4 rfl ?_
    refine zGo_s (pc' := 6) (st' := [.ref 1132, .int x2]) dd238_5 rfl ?_
    refine mGI dd238_6 rfl rfl rfl rfl ?_
    rcases oite h with ⟨hc, h⟩ | ⟨hc, h⟩
    · refine zIF dd238_9 (kGeF hc) ?_
      refine zGo_s (pc' := 13) (st' := [.int (-1 : Int32)]) dd238_12 rfl ?_
      refine zGo_s (pc' := 15) (st' := []) (lv' := [(4, .int (-1 : Int32)), (0, .ref 1132), (1, .ref 1248), (2, .int x2), (3, .int x3)]) dd238_13 rfl ?_
      refine zGo_s (pc' := 16) (st' := [.int (0 : Int32)]) dd238_15 rfl ?_
      refine zGo_s (pc' := 18) (st' := []) (lv' := [(5, .int (0 : Int32)), (4, .int (-1 : Int32)), (0, .ref 1132), (1, .ref 1248), (2, .int x2), (3, .int x3)]) dd238_16 rfl ?_
      exact zGo_lv (lv := [(0, .ref 1132), (1, .ref 1248), (2, .int x2), (3, .int x3), (4, .int (-1 : Int32)), (5, .int (0 : Int32))]) ⟨by simp, by simp, by simp⟩ (f238_18_ok hd ih _ _ _ _ _ _ _ _ h)
    · refine zIT dd238_9 rfl (kGeT hc) ?_
      refine zGo_s (pc' := 121) (st' := [.int x2]) dd238_120 rfl ?_
      obtain ⟨rfl, rfl⟩ := oret h
      exact zGo_ret dd238_121 rfl rfl
def f238 (n : Nat) (s : zσ) : Option (Int32 × zσ) :=
    f238_4 n n (0 : Int32) (-1 : Int32) s
set_option maxRecDepth 20000 in
theorem f238_ok {n d : Nat} {s : zσ} {v : Int32} {s2 : zσ} (hd : 1 ≤ d) (h : f238 n s = some (v, s2)) {w : zσ} {fz : Bool} {L : Nat} {xs : Nat → Int32} : zGo (zX fz L xs) d q_238 (0, [(0, .ref 1132), (1, .ref 1248)], [], zmk w s, 0, 0) (some (.int v), zmk w s2, 0, 0) := by
  obtain ⟨d, rfl⟩ : ∃ d0, d = d0 + 1 := ⟨d - 1, by omega⟩
  unfold f238 at h
  refine zGo_s (pc' := 1) (st' := [.int (0 : Int32)]) dd238_0 rfl ?_
  refine zGo_s (pc' := 2) (st' := []) (lv' := [(2, .int (0 : Int32)), (0, .ref 1132), (1, .ref 1248)]) dd238_1 rfl ?_
  refine zGo_s (pc' := 3) (st' := [.int (-1 : Int32)]) dd238_2 rfl ?_
  refine zGo_s (pc' := 4) (st' := []) (lv' := [(3, .int (-1 : Int32)), (2, .int (0 : Int32)), (0, .ref 1132), (1, .ref 1248)]) dd238_3 rfl ?_
  exact zGo_lv (lv := [(0, .ref 1132), (1, .ref 1248), (2, .int (0 : Int32)), (3, .int (-1 : Int32))]) ⟨by simp, by simp, by simp⟩ (f238_4_ok hd _ _ _ _ _ _ h)
/-! PHModel.isEnded()Z -/
theorem dd240_0 : decode cX13_isEnded 0 = .ok (.iconst 1, 1) := by decide +kernel
theorem dd240_1 : decode cX13_isEnded 1 = .ok (.istore_n 1, 1) := by decide +kernel
theorem dd240_2 : decode cX13_isEnded 2 = .ok (.iconst 0, 1) := by decide +kernel
theorem dd240_3 : decode cX13_isEnded 3 = .ok (.istore_n 2, 1) := by decide +kernel
theorem dd240_4 : decode cX13_isEnded 4 = .ok (.iload_n 2, 1) := by decide +kernel
theorem dd240_5 : decode cX13_isEnded 5 = .ok (.aload_n 0, 1) := by decide +kernel
theorem dd240_6 : decode cX13_isEnded 6 = .ok (.invokevirtual 583, 3) := by decide +kernel
theorem dd240_9 : decode cX13_isEnded 9 = .ok (.if_icmp .ge 28, 3) := by decide +kernel
theorem dd240_12 : decode cX13_isEnded 12 = .ok (.iload_n 1, 1) := by decide +kernel
theorem dd240_13 : decode cX13_isEnded 13 = .ok (.ifCond .eq 16, 3) := by decide +kernel
theorem dd240_16 : decode cX13_isEnded 16 = .ok (.aload_n 0, 1) := by decide +kernel
theorem dd240_17 : decode cX13_isEnded 17 = .ok (.getfield 91, 3) := by decide +kernel
theorem dd240_20 : decode cX13_isEnded 20 = .ok (.iload_n 2, 1) := by decide +kernel
theorem dd240_21 : decode cX13_isEnded 21 = .ok (.iaload, 1) := by decide +kernel
theorem dd240_22 : decode cX13_isEnded 22 = .ok (.ifCond .ne 7, 3) := by decide +kernel
theorem dd240_25 : decode cX13_isEnded 25 = .ok (.iconst 1, 1) := by decide +kernel
theorem dd240_26 : decode cX13_isEnded 26 = .ok (.goto 4, 3) := by decide +kernel
theorem dd240_29 : decode cX13_isEnded 29 = .ok (.iconst 0, 1) := by decide +kernel
theorem dd240_30 : decode cX13_isEnded 30 = .ok (.istore_n 1, 1) := by decide +kernel
theorem dd240_31 : decode cX13_isEnded 31 = .ok (.iinc 2 1, 3) := by decide +kernel
theorem dd240_34 : decode cX13_isEnded 34 = .ok (.goto (-30), 3) := by decide +kernel
theorem dd240_37 : decode cX13_isEnded 37 = .ok (.iload_n 1, 1) := by decide +kernel
theorem dd240_38 : decode cX13_isEnded 38 = .ok (.ireturn, 1) := by decide +kernel
def f240_30 (n : Nat) (r4 : Int32 → Int32 → zσ → Option (Int32 × zσ)) (x2 : Int32) (y0 : Int32) (s : zσ) : Option (Int32 × zσ) :=
    r4 y0 (x2 + (1 : Int32)) s
set_option maxRecDepth 20000 in
theorem f240_30_ok {n d : Nat} {r4 : Int32 → Int32 → zσ → Option (Int32 × zσ)} {x2 : Int32} {y0 : Int32} {s : zσ} {v : Int32} {s2 : zσ} (hd : 1 ≤ d) (hr4 : ∀ (x1 : Int32) (x2 : Int32) (s : zσ) (v : Int32) (s2 : zσ), r4 x1 x2 s = some (v, s2) → ∀ {w : zσ} {fz : Bool} {L : Nat} {xs : Nat → Int32}, zGo (zX fz L xs) d q_240 (4, [(0, .ref 1132), (1, .int x1), (2, .int x2)], [], zmk w s, 0, 0) (some (.int v), zmk w s2, 0, 0)) (h : f240_30 n r4 x2 y0 s = some (v, s2)) {w : zσ} {fz : Bool} {L : Nat} {xs : Nat → Int32} : zGo (zX fz L xs) d q_240 (30, [(0, .ref 1132), (2, .int x2)], [.int y0], zmk w s, 0, 0) (some (.int v), zmk w s2, 0, 0) := by
  obtain ⟨d, rfl⟩ : ∃ d0, d = d0 + 1 := ⟨d - 1, by omega⟩
  unfold f240_30 at h
  refine zGo_s (pc' := 31) (st' := []) (lv' := [(1, .int y0), (0, .ref 1132), (2, .int x2)]) dd240_30 rfl ?_
  refine zGo_s (pc' := 34) (st' := []) (lv' := [(2, .int (x2 + (1 : Int32))), (1, .int y0), (0, .ref 1132)]) dd240_31 rfl ?_
  refine zGo_s (pc' := 4) (st' := []) dd240_34 rfl ?_
  exact zGo_lv (lv := [(0, .ref 1132), (1, .int y0), (2, .int (x2 + (1 : Int32)))]) ⟨by simp, by simp, by simp⟩ (hr4 _ _ _ _ _ h)
def f240_29 (n : Nat) (r4 : Int32 → Int32 → zσ → Option (Int32 × zσ)) (x2 : Int32) (s : zσ) : Option (Int32 × zσ) :=
    f240_30 n r4 x2 (0 : Int32) s
set_option maxRecDepth 20000 in
theorem f240_29_ok {n d : Nat} {r4 : Int32 → Int32 → zσ → Option (Int32 × zσ)} {x2 : Int32} {s : zσ} {v : Int32} {s2 : zσ} (hd : 1 ≤ d) (hr4 : ∀ (x1 : Int32) (x2 : Int32) (s : zσ) (v : Int32) (s2 : zσ), r4 x1 x2 s = some (v, s2) → ∀ {w : zσ} {fz : Bool} {L : Nat} {xs : Nat → Int32}, zGo (zX fz L xs) d q_240 (4, [(0, .ref 1132), (1, .int x1), (2, .int x2)], [], zmk w s, 0, 0) (some (.int v), zmk w s2, 0, 0)) (h : f240_29 n r4 x2 s = some (v, s2)) {w : zσ} {fz : Bool} {L : Nat} {xs : Nat → Int32} : zGo (zX fz L xs) d q_240 (29, [(0, .ref 1132), (2, .int x2)], [], zmk w s, 0, 0) (some (.int v), zmk w s2, 0, 0) := by
  obtain ⟨d, rfl⟩ : ∃ d0, d = d0 + 1 := ⟨d - 1, by omega⟩
  unfold f240_29 at h
  refine zGo_s (pc' := 30) (st' := [.int (0 : Int32)]) dd240_29 rfl ?_
  exact f240_30_ok hd hr4 h
def f240_4 (n : Nat) : Nat → Int32 → Int32 → zσ → Option (Int32 × zσ)
  | 0, _, _, _ => none
  | j + 1, x1, x2, s =>
    yb1 (f209 n s) fun v2 u1 =>
    if x2 < v2 then
    if x1 = (0 : Int32) then
    f240_29 n (f240_4 n j) x2 u1
    else if zin? x2 8 = true then
    if (u1.1 1225 (nx x2)) = (0 : Int32) then
    f240_30 n (f240_4 n j) x2 (1 : Int32) u1
    else f240_29 n (f240_4 n j) x2 u1
    else none
    else if x1 = 0 ∨ x1 = 1 then
    some (x1, u1)
    else none
set_option maxRecDepth 20000 in
theorem f240_4_ok {n d : Nat} (hd : 1 ≤ d) : ∀ (j : Nat) (x1 : Int32) (x2 : Int32) (s : zσ) (v : Int32) (s2 : zσ), f240_4 n j x1 x2 s = some (v, s2) → ∀ {w : zσ} {fz : Bool} {L : Nat} {xs : Nat → Int32}, zGo (zX fz L xs) d q_240 (4, [(0, .ref 1132), (1, .int x1), (2, .int x2)], [], zmk w s, 0, 0) (some (.int v), zmk w s2, 0, 0) := by
  obtain ⟨d, rfl⟩ : ∃ d0, d = d0 + 1 := ⟨d - 1, by omega⟩
  intro j
  induction j with
  | zero => intro x1 x2 s v s2 h; cases h
  | succ j ih =>
    intro x1 x2 s v s2 h w fz L xs
    rw [f240_4] at h
    refine zGo_s (pc' := 5) (st' := [.int x2]) dd240_4 rfl ?_
    refine zGo_s (pc' := 6) (st' := [.ref 1132, .int x2]) dd240_5 rfl ?_
    obtain ⟨v2, u1, hq, h⟩ := obnd h
    refine zCV1 (As := []) (rest := [.int x2]) (b := 1132) (q' := q_209) dd240_6 rfl rfl (rcv_m rfl rfl (by decide)) rfl rfl rfl (f209_ok (d := d) (by omega)  hq) ?_
    rcases oite h with ⟨hc, h⟩ | ⟨hc, h⟩
    · refine zIF dd240_9 (kGeF hc) ?_
      refine zGo_s (pc' := 13) (st' := [.int x1]) dd240_12 rfl ?_
      rcases oite h with ⟨hc, h⟩ | ⟨hc, h⟩
      · refine zUT dd240_13 rfl (kEqT hc) ?_
        exact zGo_lv (lv := [(0, .ref 1132), (2, .int x2)]) ⟨by simp, by simp, by simp⟩ (f240_29_ok hd ih h)
      · refine zUF dd240_13 (kEqF hc) ?_
        refine zGo_s (pc' := 17) (st' := [.ref 1132]) dd240_16 rfl ?_
        refine mGF (e := 1225) dd240_17 rfl rfl rfl rfl rfl ?_
        refine zGo_s (pc' := 21) (st' := [.int x2, .ref 1225]) dd240_20 rfl ?_
        obtain ⟨hi, h⟩ := ochk h
        refine mIA dd240_21 rfl rfl hi ?_
        rcases oite h with ⟨hc, h⟩ | ⟨hc, h⟩
        · refine zUF dd240_22 (kNeF hc) ?_
          refine zGo_s (pc' := 26) (st' := [.int (1 : Int32)]) dd240_25 rfl ?_
          refine zGo_s (pc' := 30) (st' := [.int (1 : Int32)]) dd240_26 rfl ?_
          exact zGo_lv (lv := [(0, .ref 1132), (2, .int x2)]) ⟨by simp, by simp, by simp⟩ (f240_30_ok hd ih h)
        · refine zUT dd240_22 rfl (kNeT hc) ?_
          exact zGo_lv (lv := [(0, .ref 1132), (2, .int x2)]) ⟨by simp, by simp, by simp⟩ (f240_29_ok hd ih h)
    · refine zIT dd240_9 rfl (kGeT hc) ?_
      refine zGo_s (pc' := 38) (st' := [.int x1]) dd240_37 rfl ?_
      obtain ⟨hb, h⟩ := ochk h
      obtain ⟨rfl, rfl⟩ := oret h
      exact zGo_ret dd240_38 rfl (if_pos hb)
def f240 (n : Nat) (s : zσ) : Option (Int32 × zσ) :=
    f240_4 n n (1 : Int32) (0 : Int32) s
set_option maxRecDepth 20000 in
theorem f240_ok {n d : Nat} {s : zσ} {v : Int32} {s2 : zσ} (hd : 1 ≤ d) (h : f240 n s = some (v, s2)) {w : zσ} {fz : Bool} {L : Nat} {xs : Nat → Int32} : zGo (zX fz L xs) d q_240 (0, [(0, .ref 1132)], [], zmk w s, 0, 0) (some (.int v), zmk w s2, 0, 0) := by
  obtain ⟨d, rfl⟩ : ∃ d0, d = d0 + 1 := ⟨d - 1, by omega⟩
  unfold f240 at h
  refine zGo_s (pc' := 1) (st' := [.int (1 : Int32)]) dd240_0 rfl ?_
  refine zGo_s (pc' := 2) (st' := []) (lv' := [(1, .int (1 : Int32)), (0, .ref 1132)]) dd240_1 rfl ?_
  refine zGo_s (pc' := 3) (st' := [.int (0 : Int32)]) dd240_2 rfl ?_
  refine zGo_s (pc' := 4) (st' := []) (lv' := [(2, .int (0 : Int32)), (1, .int (1 : Int32)), (0, .ref 1132)]) dd240_3 rfl ?_
  exact zGo_lv (lv := [(0, .ref 1132), (1, .int (1 : Int32)), (2, .int (0 : Int32))]) ⟨by simp, by simp, by simp⟩ (f240_4_ok hd _ _ _ _ _ _ h)
/-! PHModel.signals(I)V -/
theorem dd246_0 : decode cX13_signals 0 = .ok (.aload_n 0, 1) := by decide +kernel
theorem dd246_1 : decode cX13_signals 1 = .ok (.aload_n 0, 1) := by decide +kernel
theorem dd246_2 : decode cX13_signals 2 = .ok (.getfield 623, 3) := by decide +kernel
theorem dd246_5 : decode cX13_signals 5 = .ok (.ifCond .ne 7, 3) := by decide +kernel
theorem dd246_8 : decode cX13_signals 8 = .ok (.iload_n 1, 1) := by decide +kernel
theorem dd246_9 : decode cX13_signals 9 = .ok (.goto 7, 3) := by decide +kernel
theorem dd246_12 : decode cX13_signals 12 = .ok (.aload_n 0, 1) := by decide +kernel
theorem dd246_13 : decode cX13_signals 13 = .ok (.getfield 623, 3) := by decide +kernel
theorem dd246_16 : decode cX13_signals 16 = .ok (.putfield 623, 3) := by decide +kernel
theorem dd246_19 : decode cX13_signals 19 = .ok (.return_, 1) := by decide +kernel
def f246_16 (n : Nat) (y0 : Int32) (s : zσ) : Option zσ :=
    zlet (sI s 1132 69 y0) fun u1 =>
    some u1
set_option maxRecDepth 20000 in
theorem f246_16_ok {n d : Nat} {y0 : Int32} {s : zσ} {s2 : zσ} (hd : 0 ≤ d) (h : f246_16 n y0 s = some s2) {w : zσ} {fz : Bool} {L : Nat} {xs : Nat → Int32} : zGo (zX fz L xs) d q_246 (16, [], [.int y0, .ref 1132], zmk w s, 0, 0) (none, zmk w s2, 0, 0) := by
  unfold f246_16 at h
  obtain ⟨u1, e_u1, h⟩ := olet h
  refine mPI dd246_16 rfl rfl rfl rfl rfl rfl e_u1 ?_
  obtain rfl := ore0 h
  exact zGo_ret dd246_19 rfl rfl
def f246 (n : Nat) (x1 : Int32) (s : zσ) : Option zσ :=
    if (s.1 1132 69) = (0 : Int32) then
    f246_16 n x1 s
    else f246_16 n (s.1 1132 69) s
set_option maxRecDepth 20000 in
theorem f246_ok {n d : Nat} {x1 : Int32} {s : zσ} {s2 : zσ} (hd : 0 ≤ d) (h : f246 n x1 s = some s2) {w : zσ} {fz : Bool} {L : Nat} {xs : Nat → Int32} : zGo (zX fz L xs) d q_246 (0, [(0, .ref 1132), (1, .int x1)], [], zmk w s, 0, 0) (none, zmk w s2, 0, 0) := by
  unfold f246 at h
  refine zGo_s (pc' := 1) (st' := [.ref 1132]) dd246_0 rfl ?_
  refine zGo_s (pc' := 2) (st' := [.ref 1132, .ref 1132]) dd246_1 rfl ?_
  refine mGI dd246_2 rfl rfl rfl rfl ?_
  rcases oite h with ⟨hc, h⟩ | ⟨hc, h⟩
  · refine zUF dd246_5 (kNeF hc) ?_
    refine zGo_s (pc' := 9) (st' := [.int x1, .ref 1132]) dd246_8 rfl ?_
    refine zGo_s (pc' := 16) (st' := [.int x1, .ref 1132]) dd246_9 rfl ?_
    exact zGo_lv (lv := []) ⟨by simp, by simp, by simp⟩ (f246_16_ok hd h)
  · refine zUT dd246_5 rfl (kNeT hc) ?_
    refine zGo_s (pc' := 13) (st' := [.ref 1132, .ref 1132]) dd246_12 rfl ?_
    refine mGI dd246_13 rfl rfl rfl rfl ?_
    exact zGo_lv (lv := []) ⟨by simp, by simp, by simp⟩ (f246_16_ok hd h)
/-! PHModel.fit(J)J -/
theorem dd245_0 : decode cX13_fit 0 = .ok (.lload_n 1, 1) := by decide +kernel
theorem dd245_1 : decode cX13_fit 1 = .ok (.lload_n 1, 1) := by decide +kernel
theorem dd245_2 : decode cX13_fit 2 = .ok (.l2i, 1) := by decide +kernel
theorem dd245_3 : decode cX13_fit 3 = .ok (.i2l, 1) := by decide +kernel
theorem dd245_4 : decode cX13_fit 4 = .ok (.lcmp, 1) := by decide +kernel
theorem dd245_5 : decode cX13_fit 5 = .ok (.ifCond .eq 8, 3) := by decide +kernel
theorem dd245_8 : decode cX13_fit 8 = .ok (.aload_n 0, 1) := by decide +kernel
theorem dd245_9 : decode cX13_fit 9 = .ok (.iconst 5, 1) := by decide +kernel
theorem dd245_10 : decode cX13_fit 10 = .ok (.invokevirtual 644, 3) := by decide +kernel
theorem dd245_13 : decode cX13_fit 13 = .ok (.lload_n 1, 1) := by decide +kernel
theorem dd245_14 : decode cX13_fit 14 = .ok (.lreturn, 1) := by decide +kernel
def f245 (n : Nat) (x1 : Int64) (s : zσ) : Option (Int64 × zσ) :=
    if x1 = ((x1.toInt32).toInt64) then
    some (x1, s)
    else yb0 (f246 n (5 : Int32) s) fun u1 =>
    some (x1, u1)
set_option maxRecDepth 20000 in
theorem f245_ok {n d : Nat} {x1 : Int64} {s : zσ} {v : Int64} {s2 : zσ} (hd : 1 ≤ d) (h : f245 n x1 s = some (v, s2)) {w : zσ} {fz : Bool} {L : Nat} {xs : Nat → Int32} : zGo (zX fz L xs) d q_245 (0, [(0, .ref 1132), (1, .long x1)], [], zmk w s, 0, 0) (some (.long v), zmk w s2, 0, 0) := by
  obtain ⟨d, rfl⟩ : ∃ d0, d = d0 + 1 := ⟨d - 1, by omega⟩
  unfold f245 at h
  refine zGo_s (pc' := 1) (st' := [.long x1]) dd245_0 rfl ?_
  refine zGo_s (pc' := 2) (st' := [.long x1, .long x1]) dd245_1 rfl ?_
  refine zGo_s (pc' := 3) (st' := [.int (x1.toInt32), .long x1]) dd245_2 rfl ?_
  refine zGo_s (pc' := 4) (st' := [.long ((x1.toInt32).toInt64), .long x1]) dd245_3 rfl ?_
  refine zGo_s (pc' := 5) (st' := [.int (lg_cmp x1 ((x1.toInt32).toInt64))]) dd245_4 rfl ?_
  rcases oite h with ⟨hc, h⟩ | ⟨hc, h⟩
  · refine zUT dd245_5 rfl (kcEqT hc) ?_
    refine zGo_s (pc' := 14) (st' := [.long x1]) dd245_13 rfl ?_
    obtain ⟨rfl, rfl⟩ := oret h
    exact zGo_ret dd245_14 rfl rfl
  · refine zUF dd245_5 (kcEqF hc) ?_
    refine zGo_s (pc' := 9) (st' := [.ref 1132]) dd245_8 rfl ?_
    refine zGo_s (pc' := 10) (st' := [.int (5 : Int32), .ref 1132]) dd245_9 rfl ?_
    obtain ⟨u1, hq, h⟩ := obn0 h
    refine zCV0 (As := [.int (5 : Int32)]) (rest := []) (b := 1132) (q' := q_246) dd245_10 rfl rfl (rcv_m rfl rfl (by decide)) rfl rfl rfl (f246_ok (d := d) (by omega)  hq) ?_
    refine zGo_s (pc' := 14) (st' := [.long x1]) dd245_13 rfl ?_
    obtain ⟨rfl, rfl⟩ := oret h
    exact zGo_ret dd245_14 rfl rfl
/-! PHModel.signed(IJJ)J -/
theorem dd244_0 : decode cX13_signed 0 = .ok (.iload_n 1, 1) := by decide +kernel
theorem dd244_1 : decode cX13_signed 1 = .ok (.tableswitch 204 37 61 #[142, 204, 204, 204, 204, 133, 115, 204, 124, 204, 142, 204, 204, 204, 204, 204, 204, 204, 204, 204, 204, 204, 204, 191, 178], 115) := by decide +kernel
theorem dd244_116 : decode cX13_signed 116 = .ok (.aload_n 0, 1) := by decide +kernel
theorem dd244_117 : decode cX13_signed 117 = .ok (.lload_n 2, 1) := by decide +kernel
theorem dd244_118 : decode cX13_signed 118 = .ok (.lload 4, 2) := by decide +kernel
theorem dd244_120 : decode cX13_signed 120 = .ok (.ladd, 1) := by decide +kernel
theorem dd244_121 : decode cX13_signed 121 = .ok (.invokevirtual 630, 3) := by decide +kernel
theorem dd244_124 : decode cX13_signed 124 = .ok (.lreturn, 1) := by decide +kernel
theorem dd244_125 : decode cX13_signed 125 = .ok (.aload_n 0, 1) := by decide +kernel
theorem dd244_126 : decode cX13_signed 126 = .ok (.lload_n 2, 1) := by decide +kernel
theorem dd244_127 : decode cX13_signed 127 = .ok (.lload 4, 2) := by decide +kernel
theorem dd244_129 : decode cX13_signed 129 = .ok (.lsub, 1) := by decide +kernel
theorem dd244_130 : decode cX13_signed 130 = .ok (.invokevirtual 630, 3) := by decide +kernel
theorem dd244_133 : decode cX13_signed 133 = .ok (.lreturn, 1) := by decide +kernel
theorem dd244_134 : decode cX13_signed 134 = .ok (.aload_n 0, 1) := by decide +kernel
theorem dd244_135 : decode cX13_signed 135 = .ok (.lload_n 2, 1) := by decide +kernel
theorem dd244_136 : decode cX13_signed 136 = .ok (.lload 4, 2) := by decide +kernel
theorem dd244_138 : decode cX13_signed 138 = .ok (.lmul, 1) := by decide +kernel
theorem dd244_139 : decode cX13_signed 139 = .ok (.invokevirtual 630, 3) := by decide +kernel
theorem dd244_142 : decode cX13_signed 142 = .ok (.lreturn, 1) := by decide +kernel
theorem dd244_143 : decode cX13_signed 143 = .ok (.lload 4, 2) := by decide +kernel
theorem dd244_145 : decode cX13_signed 145 = .ok (.lconst 0, 1) := by decide +kernel
theorem dd244_146 : decode cX13_signed 146 = .ok (.lcmp, 1) := by decide +kernel
theorem dd244_147 : decode cX13_signed 147 = .ok (.ifCond .ne 10, 3) := by decide +kernel
theorem dd244_150 : decode cX13_signed 150 = .ok (.aload_n 0, 1) := by decide +kernel
theorem dd244_151 : decode cX13_signed 151 = .ok (.iconst 4, 1) := by decide +kernel
theorem dd244_152 : decode cX13_signed 152 = .ok (.invokevirtual 644, 3) := by decide +kernel
theorem dd244_155 : decode cX13_signed 155 = .ok (.lconst 0, 1) := by decide +kernel
theorem dd244_156 : decode cX13_signed 156 = .ok (.lreturn, 1) := by decide +kernel
theorem dd244_157 : decode cX13_signed 157 = .ok (.iload_n 1, 1) := by decide +kernel
theorem dd244_158 : decode cX13_signed 158 = .ok (.bipush 47, 2) := by decide +kernel
theorem dd244_160 : decode cX13_signed 160 = .ok (.if_icmp .ne 14, 3) := by decide +kernel
theorem dd244_163 : decode cX13_signed 163 = .ok (.aload_n 0, 1) := by decide +kernel
theorem dd244_164 : decode cX13_signed 164 = .ok (.lload_n 2, 1) := by decide +kernel
theorem dd244_165 : decode cX13_signed 165 = .ok (.lload 4, 2) := by decide +kernel
theorem dd244_167 : decode cX13_signed 167 = .ok (.ldiv, 1) := by decide +kernel
theorem dd244_168 : decode cX13_signed 168 = .ok (.invokevirtual 630, 3) := by decide +kernel
theorem dd244_171 : decode cX13_signed 171 = .ok (.goto 7, 3) := by decide +kernel
theorem dd244_174 : decode cX13_signed 174 = .ok (.lload_n 2, 1) := by decide +kernel
theorem dd244_175 : decode cX13_signed 175 = .ok (.lload 4, 2) := by decide +kernel
theorem dd244_177 : decode cX13_signed 177 = .ok (.lrem, 1) := by decide +kernel
theorem dd244_178 : decode cX13_signed 178 = .ok (.lreturn, 1) := by decide +kernel
theorem dd244_179 : decode cX13_signed 179 = .ok (.lload_n 2, 1) := by decide +kernel
theorem dd244_180 : decode cX13_signed 180 = .ok (.lload 4, 2) := by decide +kernel
theorem dd244_182 : decode cX13_signed 182 = .ok (.lcmp, 1) := by decide +kernel
theorem dd244_183 : decode cX13_signed 183 = .ok (.ifCond .ne 7, 3) := by decide +kernel
theorem dd244_186 : decode cX13_signed 186 = .ok (.lconst 1, 1) := by decide +kernel
theorem dd244_187 : decode cX13_signed 187 = .ok (.goto 4, 3) := by decide +kernel
theorem dd244_190 : decode cX13_signed 190 = .ok (.lconst 0, 1) := by decide +kernel
theorem dd244_191 : decode cX13_signed 191 = .ok (.lreturn, 1) := by decide +kernel
theorem dd244_192 : decode cX13_signed 192 = .ok (.lload_n 2, 1) := by decide +kernel
theorem dd244_193 : decode cX13_signed 193 = .ok (.lload 4, 2) := by decide +kernel
theorem dd244_195 : decode cX13_signed 195 = .ok (.lcmp, 1) := by decide +kernel
theorem dd244_196 : decode cX13_signed 196 = .ok (.ifCond .ge 7, 3) := by decide +kernel
theorem dd244_199 : decode cX13_signed 199 = .ok (.lconst 1, 1) := by decide +kernel
theorem dd244_200 : decode cX13_signed 200 = .ok (.goto 4, 3) := by decide +kernel
theorem dd244_203 : decode cX13_signed 203 = .ok (.lconst 0, 1) := by decide +kernel
theorem dd244_204 : decode cX13_signed 204 = .ok (.lreturn, 1) := by decide +kernel
theorem dd244_205 : decode cX13_signed 205 = .ok (.lload_n 2, 1) := by decide +kernel
theorem dd244_206 : decode cX13_signed 206 = .ok (.lload 4, 2) := by decide +kernel
theorem dd244_208 : decode cX13_signed 208 = .ok (.lcmp, 1) := by decide +kernel
theorem dd244_209 : decode cX13_signed 209 = .ok (.ifCond .le 7, 3) := by decide +kernel
theorem dd244_212 : decode cX13_signed 212 = .ok (.lconst 1, 1) := by decide +kernel
theorem dd244_213 : decode cX13_signed 213 = .ok (.goto 4, 3) := by decide +kernel
theorem dd244_216 : decode cX13_signed 216 = .ok (.lconst 0, 1) := by decide +kernel
theorem dd244_217 : decode cX13_signed 217 = .ok (.lreturn, 1) := by decide +kernel
def f244_205 (n : Nat) (x2 : Int64) (x4 : Int64) (s : zσ) : Option (Int64 × zσ) :=
    if x4 < x2 then
    some ((1 : Int64), s)
    else some ((0 : Int64), s)
set_option maxRecDepth 20000 in
theorem f244_205_ok {n d : Nat} {x2 : Int64} {x4 : Int64} {s : zσ} {v : Int64} {s2 : zσ} (hd : 2 ≤ d) (h : f244_205 n x2 x4 s = some (v, s2)) {w : zσ} {fz : Bool} {L : Nat} {xs : Nat → Int32} : zGo (zX fz L xs) d q_244 (205, [(2, .long x2), (4, .long x4)], [], zmk w s, 0, 0) (some (.long v), zmk w s2, 0, 0) := by
  obtain ⟨d, rfl⟩ : ∃ d0, d = d0 + 1 := ⟨d - 1, by omega⟩
  unfold f244_205 at h
  refine zGo_s (pc' := 206) (st' := [.long x2]) dd244_205 rfl ?_
  refine zGo_s (pc' := 208) (st' := [.long x4, .long x2]) dd244_206 rfl ?_
  refine zGo_s (pc' := 209) (st' := [.int (lg_cmp x2 x4)]) dd244_208 rfl ?_
  rcases oite h with ⟨hc, h⟩ | ⟨hc, h⟩
  · refine zUF dd244_209 (kcLeF hc) ?_
    refine zGo_s (pc' := 213) (st' := [.long (1 : Int64)]) dd244_212 rfl ?_
    refine zGo_s (pc' := 217) (st' := [.long (1 : Int64)]) dd244_213 rfl ?_
    obtain ⟨rfl, rfl⟩ := oret h
    exact zGo_ret dd244_217 rfl rfl
  · refine zUT dd244_209 rfl (kcLeT hc) ?_
    refine zGo_s (pc' := 217) (st' := [.long (0 : Int64)]) dd244_216 rfl ?_
    obtain ⟨rfl, rfl⟩ := oret h
    exact zGo_ret dd244_217 rfl rfl
def f244_143 (n : Nat) (x1 : Int32) (x2 : Int64) (x4 : Int64) (s : zσ) : Option (Int64 × zσ) :=
    if x4 = (0 : Int64) then
    yb0 (f246 n (4 : Int32) s) fun u3 =>
    some ((0 : Int64), u3)
    else if x1 = (47 : Int32) then
    if ¬ x4 = 0 then
    yb1 (f245 n (x2 / x4) s) fun v2 u1 =>
    some (v2, u1)
    else none
    else if ¬ x4 = 0 then
    some ((x2 - x2 / x4 * x4), s)
    else none
set_option maxRecDepth 20000 in
theorem f244_143_ok {n d : Nat} {x1 : Int32} {x2 : Int64} {x4 : Int64} {s : zσ} {v : Int64} {s2 : zσ} (hd : 2 ≤ d) (h : f244_143 n x1 x2 x4 s = some (v, s2)) {w : zσ} {fz : Bool} {L : Nat} {xs : Nat → Int32} : zGo (zX fz L xs) d q_244 (143, [(0, .ref 1132), (1, .int x1), (2, .long x2), (4, .long x4)], [], zmk w s, 0, 0) (some (.long v), zmk w s2, 0, 0) := by
  obtain ⟨d, rfl⟩ : ∃ d0, d = d0 + 1 := ⟨d - 1, by omega⟩
  unfold f244_143 at h
  refine zGo_s (pc' := 145) (st' := [.long x4]) dd244_143 rfl ?_
  refine zGo_s (pc' := 146) (st' := [.long (0 : Int64), .long x4]) dd244_145 rfl ?_
  refine zGo_s (pc' := 147) (st' := [.int (lg_cmp x4 (0 : Int64))]) dd244_146 rfl ?_
  rcases oite h with ⟨hc, h⟩ | ⟨hc, h⟩
  · refine zUF dd244_147 (kcNeF hc) ?_
    refine zGo_s (pc' := 151) (st' := [.ref 1132]) dd244_150 rfl ?_
    refine zGo_s (pc' := 152) (st' := [.int (4 : Int32), .ref 1132]) dd244_151 rfl ?_
    obtain ⟨u3, hq, h⟩ := obn0 h
    refine zCV0 (As := [.int (4 : Int32)]) (rest := []) (b := 1132) (q' := q_246) dd244_152 rfl rfl (rcv_m rfl rfl (by decide)) rfl rfl rfl (f246_ok (d := d) (by omega)  hq) ?_
    refine zGo_s (pc' := 156) (st' := [.long (0 : Int64)]) dd244_155 rfl ?_
    obtain ⟨rfl, rfl⟩ := oret h
    exact zGo_ret dd244_156 rfl rfl
  · refine zUT dd244_147 rfl (kcNeT hc) ?_
    refine zGo_s (pc' := 158) (st' := [.int x1]) dd244_157 rfl ?_
    refine zGo_s (pc' := 160) (st' := [.int (47 : Int32), .int x1]) dd244_158 rfl ?_
    rcases oite h with ⟨hc, h⟩ | ⟨hc, h⟩
    · refine zIF dd244_160 (kNeF hc) ?_
      refine zGo_s (pc' := 164) (st' := [.ref 1132]) dd244_163 rfl ?_
      refine zGo_s (pc' := 165) (st' := [.long x2, .ref 1132]) dd244_164 rfl ?_
      refine zGo_s (pc' := 167) (st' := [.long x4, .long x2, .ref 1132]) dd244_165 rfl ?_
      obtain ⟨hc, h⟩ := ochk h
      refine zGo_ldd dd244_167 hc ?_
      obtain ⟨v2, u1, hq, h⟩ := obnd h
      refine zCV1 (As := [.long (x2 / x4)]) (rest := []) (b := 1132) (q' := q_245) dd244_168 rfl rfl (rcv_m rfl rfl (by decide)) rfl rfl rfl (f245_ok (d := d) (by omega)  hq) ?_
      refine zGo_s (pc' := 178) (st' := [.long v2]) dd244_171 rfl ?_
      obtain ⟨rfl, rfl⟩ := oret h
      exact zGo_ret dd244_178 rfl rfl
    · refine zIT dd244_160 rfl (kNeT hc) ?_
      refine zGo_s (pc' := 175) (st' := [.long x2]) dd244_174 rfl ?_
      refine zGo_s (pc' := 177) (st' := [.long x4, .long x2]) dd244_175 rfl ?_
      obtain ⟨hc, h⟩ := ochk h
      refine zGo_ldr dd244_177 hc ?_
      obtain ⟨rfl, rfl⟩ := oret h
      exact zGo_ret dd244_178 rfl rfl
def f244 (n : Nat) (x1 : Int32) (x2 : Int64) (x4 : Int64) (s : zσ) : Option (Int64 × zσ) :=
    if x1 = (37 : Int32) then
    f244_143 n x1 x2 x4 s
    else if x1 = (42 : Int32) then
    yb1 (f245 n (x2 * x4) s) fun v2 u1 =>
    some (v2, u1)
    else if x1 = (43 : Int32) then
    yb1 (f245 n (x2 + x4) s) fun v4 u3 =>
    some (v4, u3)
    else if x1 = (45 : Int32) then
    yb1 (f245 n (x2 - x4) s) fun v6 u5 =>
    some (v6, u5)
    else if x1 = (47 : Int32) then
    f244_143 n x1 x2 x4 s
    else if x1 = (60 : Int32) then
    if x2 < x4 then
    some ((1 : Int64), s)
    else some ((0 : Int64), s)
    else if x1 = (61 : Int32) then
    if x2 = x4 then
    some ((1 : Int64), s)
    else some ((0 : Int64), s)
    else f244_205 n x2 x4 s
set_option maxRecDepth 20000 in
theorem f244_ok {n d : Nat} {x1 : Int32} {x2 : Int64} {x4 : Int64} {s : zσ} {v : Int64} {s2 : zσ} (hd : 2 ≤ d) (h : f244 n x1 x2 x4 s = some (v, s2)) {w : zσ} {fz : Bool} {L : Nat} {xs : Nat → Int32} : zGo (zX fz L xs) d q_244 (0, [(0, .ref 1132), (1, .int x1), (2, .long x2), (4, .long x4)], [], zmk w s, 0, 0) (some (.long v), zmk w s2, 0, 0) := by
  obtain ⟨d, rfl⟩ : ∃ d0, d = d0 + 1 := ⟨d - 1, by omega⟩
  unfold f244 at h
  refine zGo_s (pc' := 1) (st' := [.int x1]) dd244_0 rfl ?_
  rcases oite h with ⟨hc, h⟩ | ⟨hn0, h⟩
  · refine zGo_sw dd244_1 (o := 142) (by rw [hc]; decide +kernel) rfl ?_
    exact f244_143_ok hd h
  rcases oite h with ⟨hc, h⟩ | ⟨hn1, h⟩
  · refine zGo_sw dd244_1 (o := 133) (by rw [hc]; decide +kernel) rfl ?_
    refine zGo_s (pc' := 135) (st' := [.ref 1132]) dd244_134 rfl ?_
    refine zGo_s (pc' := 136) (st' := [.long x2, .ref 1132]) dd244_135 rfl ?_
    refine zGo_s (pc' := 138) (st' := [.long x4, .long x2, .ref 1132]) dd244_136 rfl ?_
    refine zGo_s (pc' := 139) (st' := [.long (x2 * x4), .ref 1132]) dd244_138 rfl ?_
    obtain ⟨v2, u1, hq, h⟩ := obnd h
    refine zCV1 (As := [.long (x2 * x4)]) (rest := []) (b := 1132) (q' := q_245) dd244_139 rfl rfl (rcv_m rfl rfl (by decide)) rfl rfl rfl (f245_ok (d := d) (by omega)  hq) ?_
    obtain ⟨rfl, rfl⟩ := oret h
    exact zGo_ret dd244_142 rfl rfl
  rcases oite h with ⟨hc, h⟩ | ⟨hn2, h⟩
  · refine zGo_sw dd244_1 (o := 115) (by rw [hc]; decide +kernel) rfl ?_
    refine zGo_s (pc' := 117) (st' := [.ref 1132]) dd244_116 rfl ?_
    refine zGo_s (pc' := 118) (st' := [.long x2, .ref 1132]) dd244_117 rfl ?_
    refine zGo_s (pc' := 120) (st' := [.long x4, .long x2, .ref 1132]) dd244_118 rfl ?_
    refine zGo_s (pc' := 121) (st' := [.long (x2 + x4), .ref 1132]) dd244_120 rfl ?_
    obtain ⟨v4, u3, hq, h⟩ := obnd h
    refine zCV1 (As := [.long (x2 + x4)]) (rest := []) (b := 1132) (q' := q_245) dd244_121 rfl rfl (rcv_m rfl rfl (by decide)) rfl rfl rfl (f245_ok (d := d) (by omega)  hq) ?_
    obtain ⟨rfl, rfl⟩ := oret h
    exact zGo_ret dd244_124 rfl rfl
  rcases oite h with ⟨hc, h⟩ | ⟨hn3, h⟩
  · refine zGo_sw dd244_1 (o := 124) (by rw [hc]; decide +kernel) rfl ?_
    refine zGo_s (pc' := 126) (st' := [.ref 1132]) dd244_125 rfl ?_
    refine zGo_s (pc' := 127) (st' := [.long x2, .ref 1132]) dd244_126 rfl ?_
    refine zGo_s (pc' := 129) (st' := [.long x4, .long x2, .ref 1132]) dd244_127 rfl ?_
    refine zGo_s (pc' := 130) (st' := [.long (x2 - x4), .ref 1132]) dd244_129 rfl ?_
    obtain ⟨v6, u5, hq, h⟩ := obnd h
    refine zCV1 (As := [.long (x2 - x4)]) (rest := []) (b := 1132) (q' := q_245) dd244_130 rfl rfl (rcv_m rfl rfl (by decide)) rfl rfl rfl (f245_ok (d := d) (by omega)  hq) ?_
    obtain ⟨rfl, rfl⟩ := oret h
    exact zGo_ret dd244_133 rfl rfl
  rcases oite h with ⟨hc, h⟩ | ⟨hn4, h⟩
  · refine zGo_sw dd244_1 (o := 142) (by rw [hc]; decide +kernel) rfl ?_
    exact f244_143_ok hd h
  rcases oite h with ⟨hc, h⟩ | ⟨hn5, h⟩
  · refine zGo_sw dd244_1 (o := 191) (by rw [hc]; decide +kernel) rfl ?_
    refine zGo_s (pc' := 193) (st' := [.long x2]) dd244_192 rfl ?_
    refine zGo_s (pc' := 195) (st' := [.long x4, .long x2]) dd244_193 rfl ?_
    refine zGo_s (pc' := 196) (st' := [.int (lg_cmp x2 x4)]) dd244_195 rfl ?_
    rcases oite h with ⟨hc, h⟩ | ⟨hc, h⟩
    · refine zUF dd244_196 (kcGeF hc) ?_
      refine zGo_s (pc' := 200) (st' := [.long (1 : Int64)]) dd244_199 rfl ?_
      refine zGo_s (pc' := 204) (st' := [.long (1 : Int64)]) dd244_200 rfl ?_
      obtain ⟨rfl, rfl⟩ := oret h
      exact zGo_ret dd244_204 rfl rfl
    · refine zUT dd244_196 rfl (kcGeT hc) ?_
      refine zGo_s (pc' := 204) (st' := [.long (0 : Int64)]) dd244_203 rfl ?_
      obtain ⟨rfl, rfl⟩ := oret h
      exact zGo_ret dd244_204 rfl rfl
  rcases oite h with ⟨hc, h⟩ | ⟨hn6, h⟩
  · refine zGo_sw dd244_1 (o := 178) (by rw [hc]; decide +kernel) rfl ?_
    refine zGo_s (pc' := 180) (st' := [.long x2]) dd244_179 rfl ?_
    refine zGo_s (pc' := 182) (st' := [.long x4, .long x2]) dd244_180 rfl ?_
    refine zGo_s (pc' := 183) (st' := [.int (lg_cmp x2 x4)]) dd244_182 rfl ?_
    rcases oite h with ⟨hc, h⟩ | ⟨hc, h⟩
    · refine zUF dd244_183 (kcNeF hc) ?_
      refine zGo_s (pc' := 187) (st' := [.long (1 : Int64)]) dd244_186 rfl ?_
      refine zGo_s (pc' := 191) (st' := [.long (1 : Int64)]) dd244_187 rfl ?_
      obtain ⟨rfl, rfl⟩ := oret h
      exact zGo_ret dd244_191 rfl rfl
    · refine zUT dd244_183 rfl (kcNeT hc) ?_
      refine zGo_s (pc' := 191) (st' := [.long (0 : Int64)]) dd244_190 rfl ?_
      obtain ⟨rfl, rfl⟩ := oret h
      exact zGo_ret dd244_191 rfl rfl
  refine zGo_sw dd244_1 (o := 204) (zto_d (by decide) (by decide) fun k hk => ?_) rfl ?_
  · have hk2 : k = 0 ∨ k = 1 ∨ k = 2 ∨ k = 3 ∨ k = 4 ∨ k = 5 ∨ k = 6 ∨ k = 7 ∨ k = 8 ∨ k = 9 ∨ k = 10 ∨ k = 11 ∨ k = 12 ∨ k = 13 ∨ k = 14 ∨ k = 15 ∨ k = 16 ∨ k = 17 ∨ k = 18 ∨ k = 19 ∨ k = 20 ∨ k = 21 ∨ k = 22 ∨ k = 23 ∨ k = 24 := by omega
    rcases hk2 with rfl | rfl | rfl | rfl | rfl | rfl | rfl | rfl | rfl | rfl | rfl | rfl | rfl | rfl | rfl | rfl | rfl | rfl | rfl | rfl | rfl | rfl | rfl | rfl | rfl
    · exact Or.inr hn0
    · exact Or.inl rfl
    · exact Or.inl rfl
    · exact Or.inl rfl
    · exact Or.inl rfl
    · exact Or.inr hn1
    · exact Or.inr hn2
    · exact Or.inl rfl
    · exact Or.inr hn3
    · exact Or.inl rfl
    · exact Or.inr hn4
    · exact Or.inl rfl
    · exact Or.inl rfl
    · exact Or.inl rfl
    · exact Or.inl rfl
    · exact Or.inl rfl
    · exact Or.inl rfl
    · exact Or.inl rfl
    · exact Or.inl rfl
    · exact Or.inl rfl
    · exact Or.inl rfl
    · exact Or.inl rfl
    · exact Or.inl rfl
    · exact Or.inr hn5
    · exact Or.inr hn6
  exact zGo_lv (lv := [(2, .long x2), (4, .long x4)]) ⟨by simp, by simp, by simp⟩ (f244_205_ok hd h)
/-! PHModel.sizeOf(I)I -/
theorem dd249_0 : decode cX13_sizeOf 0 = .ok (.aload_n 0, 1) := by decide +kernel
theorem dd249_1 : decode cX13_sizeOf 1 = .ok (.getfield 39, 3) := by decide +kernel
theorem dd249_4 : decode cX13_sizeOf 4 = .ok (.iload_n 1, 1) := by decide +kernel
theorem dd249_5 : decode cX13_sizeOf 5 = .ok (.iaload, 1) := by decide +kernel
theorem dd249_6 : decode cX13_sizeOf 6 = .ok (.iconst (-1), 1) := by decide +kernel
theorem dd249_7 : decode cX13_sizeOf 7 = .ok (.if_icmp .ne 10, 3) := by decide +kernel
theorem dd249_10 : decode cX13_sizeOf 10 = .ok (.aload_n 0, 1) := by decide +kernel
theorem dd249_11 : decode cX13_sizeOf 11 = .ok (.iconst 1, 1) := by decide +kernel
theorem dd249_12 : decode cX13_sizeOf 12 = .ok (.invokevirtual 644, 3) := by decide +kernel
theorem dd249_15 : decode cX13_sizeOf 15 = .ok (.iconst 0, 1) := by decide +kernel
theorem dd249_16 : decode cX13_sizeOf 16 = .ok (.ireturn, 1) := by decide +kernel
theorem dd249_17 : decode cX13_sizeOf 17 = .ok (.aload_n 0, 1) := by decide +kernel
theorem dd249_18 : decode cX13_sizeOf 18 = .ok (.getfield 42, 3) := by decide +kernel
theorem dd249_21 : decode cX13_sizeOf 21 = .ok (.aload_n 0, 1) := by decide +kernel
theorem dd249_22 : decode cX13_sizeOf 22 = .ok (.getfield 39, 3) := by decide +kernel
theorem dd249_25 : decode cX13_sizeOf 25 = .ok (.iload_n 1, 1) := by decide +kernel
theorem dd249_26 : decode cX13_sizeOf 26 = .ok (.iaload, 1) := by decide +kernel
theorem dd249_27 : decode cX13_sizeOf 27 = .ok (.iaload, 1) := by decide +kernel
theorem dd249_28 : decode cX13_sizeOf 28 = .ok (.ireturn, 1) := by decide +kernel
def f249 (n : Nat) (x1 : Int32) (s : zσ) : Option (Int32 × zσ) :=
    if zin? x1 4 = true then
    if (s.1 1208 (nx x1)) = (-1 : Int32) then
    yb0 (f246 n (1 : Int32) s) fun u1 =>
    some ((0 : Int32), u1)
    else if zin? x1 4 = true then
    if zin? (s.1 1208 (nx x1)) 5 = true then
    some ((s.1 1209 (nx (s.1 1208 (nx x1)))), s)
    else none
    else none
    else none
set_option maxRecDepth 20000 in
theorem f249_ok {n d : Nat} {x1 : Int32} {s : zσ} {v : Int32} {s2 : zσ} (hd : 1 ≤ d) (h : f249 n x1 s = some (v, s2)) {w : zσ} {fz : Bool} {L : Nat} {xs : Nat → Int32} : zGo (zX fz L xs) d q_249 (0, [(0, .ref 1132), (1, .int x1)], [], zmk w s, 0, 0) (some (.int v), zmk w s2, 0, 0) := by
  obtain ⟨d, rfl⟩ : ∃ d0, d = d0 + 1 := ⟨d - 1, by omega⟩
  unfold f249 at h
  refine zGo_s (pc' := 1) (st' := [.ref 1132]) dd249_0 rfl ?_
  refine mGF (e := 1208) dd249_1 rfl rfl rfl rfl rfl ?_
  refine zGo_s (pc' := 5) (st' := [.int x1, .ref 1208]) dd249_4 rfl ?_
  obtain ⟨hi, h⟩ := ochk h
  refine mIA dd249_5 rfl rfl hi ?_
  refine zGo_s (pc' := 7) (st' := [.int (-1 : Int32), .int (s.1 1208 (nx x1))]) dd249_6 rfl ?_
  rcases oite h with ⟨hc, h⟩ | ⟨hc, h⟩
  · refine zIF dd249_7 (kNeF hc) ?_
    refine zGo_s (pc' := 11) (st' := [.ref 1132]) dd249_10 rfl ?_
    refine zGo_s (pc' := 12) (st' := [.int (1 : Int32), .ref 1132]) dd249_11 rfl ?_
    obtain ⟨u1, hq, h⟩ := obn0 h
    refine zCV0 (As := [.int (1 : Int32)]) (rest := []) (b := 1132) (q' := q_246) dd249_12 rfl rfl (rcv_m rfl rfl (by decide)) rfl rfl rfl (f246_ok (d := d) (by omega)  hq) ?_
    refine zGo_s (pc' := 16) (st' := [.int (0 : Int32)]) dd249_15 rfl ?_
    obtain ⟨rfl, rfl⟩ := oret h
    exact zGo_ret dd249_16 rfl rfl
  · refine zIT dd249_7 rfl (kNeT hc) ?_
    refine zGo_s (pc' := 18) (st' := [.ref 1132]) dd249_17 rfl ?_
    refine mGF (e := 1209) dd249_18 rfl rfl rfl rfl rfl ?_
    refine zGo_s (pc' := 22) (st' := [.ref 1132, .ref 1209]) dd249_21 rfl ?_
    refine mGF (e := 1208) dd249_22 rfl rfl rfl rfl rfl ?_
    refine zGo_s (pc' := 26) (st' := [.int x1, .ref 1208, .ref 1209]) dd249_25 rfl ?_
    obtain ⟨hi, h⟩ := ochk h
    refine mIA dd249_26 rfl rfl hi ?_
    obtain ⟨hi, h⟩ := ochk h
    refine mIA dd249_27 rfl rfl hi ?_
    obtain ⟨rfl, rfl⟩ := oret h
    exact zGo_ret dd249_28 rfl rfl
/-! PHModel.placeOf(IJ)I -/
theorem dd248_0 : decode cX13_placeOf 0 = .ok (.aload_n 0, 1) := by decide +kernel
theorem dd248_1 : decode cX13_placeOf 1 = .ok (.iload_n 1, 1) := by decide +kernel
theorem dd248_2 : decode cX13_placeOf 2 = .ok (.invokevirtual 641, 3) := by decide +kernel
theorem dd248_5 : decode cX13_placeOf 5 = .ok (.istore 4, 2) := by decide +kernel
theorem dd248_7 : decode cX13_placeOf 7 = .ok (.aload_n 0, 1) := by decide +kernel
theorem dd248_8 : decode cX13_placeOf 8 = .ok (.getfield 623, 3) := by decide +kernel
theorem dd248_11 : decode cX13_placeOf 11 = .ok (.ifCond .ne 22, 3) := by decide +kernel
theorem dd248_14 : decode cX13_placeOf 14 = .ok (.lload_n 2, 1) := by decide +kernel
theorem dd248_15 : decode cX13_placeOf 15 = .ok (.lconst 0, 1) := by decide +kernel
theorem dd248_16 : decode cX13_placeOf 16 = .ok (.lcmp, 1) := by decide +kernel
theorem dd248_17 : decode cX13_placeOf 17 = .ok (.ifCond .lt 11, 3) := by decide +kernel
theorem dd248_20 : decode cX13_placeOf 20 = .ok (.lload_n 2, 1) := by decide +kernel
theorem dd248_21 : decode cX13_placeOf 21 = .ok (.iload 4, 2) := by decide +kernel
theorem dd248_23 : decode cX13_placeOf 23 = .ok (.i2l, 1) := by decide +kernel
theorem dd248_24 : decode cX13_placeOf 24 = .ok (.lcmp, 1) := by decide +kernel
theorem dd248_25 : decode cX13_placeOf 25 = .ok (.ifCond .lt 8, 3) := by decide +kernel
theorem dd248_28 : decode cX13_placeOf 28 = .ok (.aload_n 0, 1) := by decide +kernel
theorem dd248_29 : decode cX13_placeOf 29 = .ok (.iconst 2, 1) := by decide +kernel
theorem dd248_30 : decode cX13_placeOf 30 = .ok (.invokevirtual 644, 3) := by decide +kernel
theorem dd248_33 : decode cX13_placeOf 33 = .ok (.aload_n 0, 1) := by decide +kernel
theorem dd248_34 : decode cX13_placeOf 34 = .ok (.getfield 623, 3) := by decide +kernel
theorem dd248_37 : decode cX13_placeOf 37 = .ok (.ifCond .ne 18, 3) := by decide +kernel
theorem dd248_40 : decode cX13_placeOf 40 = .ok (.bipush 20, 2) := by decide +kernel
theorem dd248_42 : decode cX13_placeOf 42 = .ok (.aload_n 0, 1) := by decide +kernel
theorem dd248_43 : decode cX13_placeOf 43 = .ok (.getfield 39, 3) := by decide +kernel
theorem dd248_46 : decode cX13_placeOf 46 = .ok (.iload_n 1, 1) := by decide +kernel
theorem dd248_47 : decode cX13_placeOf 47 = .ok (.iaload, 1) := by decide +kernel
theorem dd248_48 : decode cX13_placeOf 48 = .ok (.imul, 1) := by decide +kernel
theorem dd248_49 : decode cX13_placeOf 49 = .ok (.lload_n 2, 1) := by decide +kernel
theorem dd248_50 : decode cX13_placeOf 50 = .ok (.l2i, 1) := by decide +kernel
theorem dd248_51 : decode cX13_placeOf 51 = .ok (.iadd, 1) := by decide +kernel
theorem dd248_52 : decode cX13_placeOf 52 = .ok (.goto 4, 3) := by decide +kernel
theorem dd248_55 : decode cX13_placeOf 55 = .ok (.iconst 0, 1) := by decide +kernel
theorem dd248_56 : decode cX13_placeOf 56 = .ok (.ireturn, 1) := by decide +kernel
def f248_33 (n : Nat) (x1 : Int32) (x2 : Int64) (s : zσ) : Option (Int32 × zσ) :=
    if (s.1 1132 69) = (0 : Int32) then
    if zin? x1 4 = true then
    some ((((20 : Int32) * (s.1 1208 (nx x1))) + (x2.toInt32)), s)
    else none
    else some ((0 : Int32), s)
set_option maxRecDepth 20000 in
theorem f248_33_ok {n d : Nat} {x1 : Int32} {x2 : Int64} {s : zσ} {v : Int32} {s2 : zσ} (hd : 2 ≤ d) (h : f248_33 n x1 x2 s = some (v, s2)) {w : zσ} {fz : Bool} {L : Nat} {xs : Nat → Int32} : zGo (zX fz L xs) d q_248 (33, [(0, .ref 1132), (1, .int x1), (2, .long x2)], [], zmk w s, 0, 0) (some (.int v), zmk w s2, 0, 0) := by
  obtain ⟨d, rfl⟩ : ∃ d0, d = d0 + 1 := ⟨d - 1, by omega⟩
  unfold f248_33 at h
  refine zGo_s (pc' := 34) (st' := [.ref 1132]) dd248_33 rfl ?_
  refine mGI dd248_34 rfl rfl rfl rfl ?_
  rcases oite h with ⟨hc, h⟩ | ⟨hc, h⟩
  · refine zUF dd248_37 (kNeF hc) ?_
    refine zGo_s (pc' := 42) (st' := [.int (20 : Int32)]) dd248_40 rfl ?_
    refine zGo_s (pc' := 43) (st' := [.ref 1132, .int (20 : Int32)]) dd248_42 rfl ?_
    refine mGF (e := 1208) dd248_43 rfl rfl rfl rfl rfl ?_
    refine zGo_s (pc' := 47) (st' := [.int x1, .ref 1208, .int (20 : Int32)]) dd248_46 rfl ?_
    obtain ⟨hi, h⟩ := ochk h
    refine mIA dd248_47 rfl rfl hi ?_
    refine zGo_s (pc' := 49) (st' := [.int ((20 : Int32) * (s.1 1208 (nx x1)))]) dd248_48 rfl ?_
    refine zGo_s (pc' := 50) (st' := [.long x2, .int ((20 : Int32) * (s.1 1208 (nx x1)))]) dd248_49 rfl ?_
    refine zGo_s (pc' := 51) (st' := [.int (x2.toInt32), .int ((20 : Int32) * (s.1 1208 (nx x1)))]) dd248_50 rfl ?_
    refine zGo_s (pc' := 52) (st' := [.int (((20 : Int32) * (s.1 1208 (nx x1))) + (x2.toInt32))]) dd248_51 rfl ?_
    refine zGo_s (pc' := 56) (st' := [.int (((20 : Int32) * (s.1 1208 (nx x1))) + (x2.toInt32))]) dd248_52 rfl ?_
    obtain ⟨rfl, rfl⟩ := oret h
    exact zGo_ret dd248_56 rfl rfl
  · refine zUT dd248_37 rfl (kNeT hc) ?_
    refine zGo_s (pc' := 56) (st' := [.int (0 : Int32)]) dd248_55 rfl ?_
    obtain ⟨rfl, rfl⟩ := oret h
    exact zGo_ret dd248_56 rfl rfl
def f248_28 (n : Nat) (x1 : Int32) (x2 : Int64) (s : zσ) : Option (Int32 × zσ) :=
    yb0 (f246 n (2 : Int32) s) fun u1 =>
    f248_33 n x1 x2 u1
set_option maxRecDepth 20000 in
theorem f248_28_ok {n d : Nat} {x1 : Int32} {x2 : Int64} {s : zσ} {v : Int32} {s2 : zσ} (hd : 2 ≤ d) (h : f248_28 n x1 x2 s = some (v, s2)) {w : zσ} {fz : Bool} {L : Nat} {xs : Nat → Int32} : zGo (zX fz L xs) d q_248 (28, [(0, .ref 1132), (1, .int x1), (2, .long x2)], [], zmk w s, 0, 0) (some (.int v), zmk w s2, 0, 0) := by
  obtain ⟨d, rfl⟩ : ∃ d0, d = d0 + 1 := ⟨d - 1, by omega⟩
  unfold f248_28 at h
  refine zGo_s (pc' := 29) (st' := [.ref 1132]) dd248_28 rfl ?_
  refine zGo_s (pc' := 30) (st' := [.int (2 : Int32), .ref 1132]) dd248_29 rfl ?_
  obtain ⟨u1, hq, h⟩ := obn0 h
  refine zCV0 (As := [.int (2 : Int32)]) (rest := []) (b := 1132) (q' := q_246) dd248_30 rfl rfl (rcv_m rfl rfl (by decide)) rfl rfl rfl (f246_ok (d := d) (by omega)  hq) ?_
  exact f248_33_ok hd h
def f248 (n : Nat) (x1 : Int32) (x2 : Int64) (s : zσ) : Option (Int32 × zσ) :=
    yb1 (f249 n x1 s) fun v2 u1 =>
    if (u1.1 1132 69) = (0 : Int32) then
    if x2 < (0 : Int64) then
    f248_28 n x1 x2 u1
    else if x2 < (v2.toInt64) then
    f248_33 n x1 x2 u1
    else f248_28 n x1 x2 u1
    else f248_33 n x1 x2 u1
set_option maxRecDepth 20000 in
theorem f248_ok {n d : Nat} {x1 : Int32} {x2 : Int64} {s : zσ} {v : Int32} {s2 : zσ} (hd : 2 ≤ d) (h : f248 n x1 x2 s = some (v, s2)) {w : zσ} {fz : Bool} {L : Nat} {xs : Nat → Int32} : zGo (zX fz L xs) d q_248 (0, [(0, .ref 1132), (1, .int x1), (2, .long x2)], [], zmk w s, 0, 0) (some (.int v), zmk w s2, 0, 0) := by
  obtain ⟨d, rfl⟩ : ∃ d0, d = d0 + 1 := ⟨d - 1, by omega⟩
  unfold f248 at h
  refine zGo_s (pc' := 1) (st' := [.ref 1132]) dd248_0 rfl ?_
  refine zGo_s (pc' := 2) (st' := [.int x1, .ref 1132]) dd248_1 rfl ?_
  obtain ⟨v2, u1, hq, h⟩ := obnd h
  refine zCV1 (As := [.int x1]) (rest := []) (b := 1132) (q' := q_249) dd248_2 rfl rfl (rcv_m rfl rfl (by decide)) rfl rfl rfl (f249_ok (d := d) (by omega)  hq) ?_
  refine zGo_s (pc' := 7) (st' := []) (lv' := [(4, .int v2), (0, .ref 1132), (1, .int x1), (2, .long x2)]) dd248_5 rfl ?_
  refine zGo_s (pc' := 8) (st' := [.ref 1132]) dd248_7 rfl ?_
  refine mGI dd248_8 rfl rfl rfl rfl ?_
  rcases oite h with ⟨hc, h⟩ | ⟨hc, h⟩
  · refine zUF dd248_11 (kNeF hc) ?_
    refine zGo_s (pc' := 15) (st' := [.long x2]) dd248_14 rfl ?_
    refine zGo_s (pc' := 16) (st' := [.long (0 : Int64), .long x2]) dd248_15 rfl ?_
    refine zGo_s (pc' := 17) (st' := [.int (lg_cmp x2 (0 : Int64))]) dd248_16 rfl ?_
    rcases oite h with ⟨hc, h⟩ | ⟨hc, h⟩
    · refine zUT dd248_17 rfl (kcLtT hc) ?_
      exact zGo_lv (lv := [(0, .ref 1132), (1, .int x1), (2, .long x2)]) ⟨by simp, by simp, by simp⟩ (f248_28_ok hd h)
    · refine zUF dd248_17 (kcLtF hc) ?_
      refine zGo_s (pc' := 21) (st' := [.long x2]) dd248_20 rfl ?_
      refine zGo_s (pc' := 23) (st' := [.int v2, .long x2]) dd248_21 rfl ?_
      refine zGo_s (pc' := 24) (st' := [.long (v2.toInt64), .long x2]) dd248_23 rfl ?_
      refine zGo_s (pc' := 25) (st' := [.int (lg_cmp x2 (v2.toInt64))]) dd248_24 rfl ?_
      rcases oite h with ⟨hc, h⟩ | ⟨hc, h⟩
      · refine zUT dd248_25 rfl (kcLtT hc) ?_
        exact zGo_lv (lv := [(0, .ref 1132), (1, .int x1), (2, .long x2)]) ⟨by simp, by simp, by simp⟩ (f248_33_ok hd h)
      · refine zUF dd248_25 (kcLtF hc) ?_
        exact zGo_lv (lv := [(0, .ref 1132), (1, .int x1), (2, .long x2)]) ⟨by simp, by simp, by simp⟩ (f248_28_ok hd h)
  · refine zUT dd248_11 rfl (kNeT hc) ?_
    exact zGo_lv (lv := [(0, .ref 1132), (1, .int x1), (2, .long x2)]) ⟨by simp, by simp, by simp⟩ (f248_33_ok hd h)
/-! PHModel.itemOf(IJ)I -/
theorem dd247_0 : decode cX13_itemOf 0 = .ok (.aload_n 0, 1) := by decide +kernel
theorem dd247_1 : decode cX13_itemOf 1 = .ok (.iload_n 1, 1) := by decide +kernel
theorem dd247_2 : decode cX13_itemOf 2 = .ok (.lload_n 2, 1) := by decide +kernel
theorem dd247_3 : decode cX13_itemOf 3 = .ok (.invokevirtual 647, 3) := by decide +kernel
theorem dd247_6 : decode cX13_itemOf 6 = .ok (.istore 4, 2) := by decide +kernel
theorem dd247_8 : decode cX13_itemOf 8 = .ok (.aload_n 0, 1) := by decide +kernel
theorem dd247_9 : decode cX13_itemOf 9 = .ok (.getfield 623, 3) := by decide +kernel
theorem dd247_12 : decode cX13_itemOf 12 = .ok (.ifCond .ne 13, 3) := by decide +kernel
theorem dd247_15 : decode cX13_itemOf 15 = .ok (.aload_n 0, 1) := by decide +kernel
theorem dd247_16 : decode cX13_itemOf 16 = .ok (.getfield 45, 3) := by decide +kernel
theorem dd247_19 : decode cX13_itemOf 19 = .ok (.iload 4, 2) := by decide +kernel
theorem dd247_21 : decode cX13_itemOf 21 = .ok (.iaload, 1) := by decide +kernel
theorem dd247_22 : decode cX13_itemOf 22 = .ok (.goto 4, 3) := by decide +kernel
theorem dd247_25 : decode cX13_itemOf 25 = .ok (.iconst 0, 1) := by decide +kernel
theorem dd247_26 : decode cX13_itemOf 26 = .ok (.ireturn, 1) := by decide +kernel
def f247 (n : Nat) (x1 : Int32) (x2 : Int64) (s : zσ) : Option (Int32 × zσ) :=
    yb1 (f248 n x1 x2 s) fun v2 u1 =>
    if (u1.1 1132 69) = (0 : Int32) then
    if zin? v2 100 = true then
    some ((u1.1 1210 (nx v2)), u1)
    else none
    else some ((0 : Int32), u1)
set_option maxRecDepth 20000 in
theorem f247_ok {n d : Nat} {x1 : Int32} {x2 : Int64} {s : zσ} {v : Int32} {s2 : zσ} (hd : 3 ≤ d) (h : f247 n x1 x2 s = some (v, s2)) {w : zσ} {fz : Bool} {L : Nat} {xs : Nat → Int32} : zGo (zX fz L xs) d q_247 (0, [(0, .ref 1132), (1, .int x1), (2, .long x2)], [], zmk w s, 0, 0) (some (.int v), zmk w s2, 0, 0) := by
  obtain ⟨d, rfl⟩ : ∃ d0, d = d0 + 1 := ⟨d - 1, by omega⟩
  unfold f247 at h
  refine zGo_s (pc' := 1) (st' := [.ref 1132]) dd247_0 rfl ?_
  refine zGo_s (pc' := 2) (st' := [.int x1, .ref 1132]) dd247_1 rfl ?_
  refine zGo_s (pc' := 3) (st' := [.long x2, .int x1, .ref 1132]) dd247_2 rfl ?_
  obtain ⟨v2, u1, hq, h⟩ := obnd h
  refine zCV1 (As := [.int x1, .long x2]) (rest := []) (b := 1132) (q' := q_248) dd247_3 rfl rfl (rcv_m rfl rfl (by decide)) rfl rfl rfl (f248_ok (d := d) (by omega)  hq) ?_
  refine zGo_s (pc' := 8) (st' := []) (lv' := [(4, .int v2), (0, .ref 1132), (1, .int x1), (2, .long x2)]) dd247_6 rfl ?_
  refine zGo_s (pc' := 9) (st' := [.ref 1132]) dd247_8 rfl ?_
  refine mGI dd247_9 rfl rfl rfl rfl ?_
  rcases oite h with ⟨hc, h⟩ | ⟨hc, h⟩
  · refine zUF dd247_12 (kNeF hc) ?_
    refine zGo_s (pc' := 16) (st' := [.ref 1132]) dd247_15 rfl ?_
    refine mGF (e := 1210) dd247_16 rfl rfl rfl rfl rfl ?_
    refine zGo_s (pc' := 21) (st' := [.int v2, .ref 1210]) dd247_19 rfl ?_
    obtain ⟨hi, h⟩ := ochk h
    refine mIA dd247_21 rfl rfl hi ?_
    refine zGo_s (pc' := 26) (st' := [.int (u1.1 1210 (nx v2))]) dd247_22 rfl ?_
    obtain ⟨rfl, rfl⟩ := oret h
    exact zGo_ret dd247_26 rfl rfl
  · refine zUT dd247_12 rfl (kNeT hc) ?_
    refine zGo_s (pc' := 26) (st' := [.int (0 : Int32)]) dd247_25 rfl ?_
    obtain ⟨rfl, rfl⟩ := oret h
    exact zGo_ret dd247_26 rfl rfl
/-! PHModel.get(II)I -/
theorem dd250_0 : decode cX13_get 0 = .ok (.aload_n 0, 1) := by decide +kernel
theorem dd250_1 : decode cX13_get 1 = .ok (.getfield 20, 3) := by decide +kernel
theorem dd250_4 : decode cX13_get 4 = .ok (.getfield 544, 3) := by decide +kernel
theorem dd250_7 : decode cX13_get 7 = .ok (.iload_n 2, 1) := by decide +kernel
theorem dd250_8 : decode cX13_get 8 = .ok (.iaload, 1) := by decide +kernel
theorem dd250_9 : decode cX13_get 9 = .ok (.istore_n 3, 1) := by decide +kernel
theorem dd250_10 : decode cX13_get 10 = .ok (.aload_n 0, 1) := by decide +kernel
theorem dd250_11 : decode cX13_get 11 = .ok (.getfield 20, 3) := by decide +kernel
theorem dd250_14 : decode cX13_get 14 = .ok (.getfield 541, 3) := by decide +kernel
theorem dd250_17 : decode cX13_get 17 = .ok (.iload_n 2, 1) := by decide +kernel
theorem dd250_18 : decode cX13_get 18 = .ok (.iaload, 1) := by decide +kernel
theorem dd250_19 : decode cX13_get 19 = .ok (.ifCond .ne 12, 3) := by decide +kernel
theorem dd250_22 : decode cX13_get 22 = .ok (.aload_n 0, 1) := by decide +kernel
theorem dd250_23 : decode cX13_get 23 = .ok (.getfield 36, 3) := by decide +kernel
theorem dd250_26 : decode cX13_get 26 = .ok (.iload_n 3, 1) := by decide +kernel
theorem dd250_27 : decode cX13_get 27 = .ok (.iaload, 1) := by decide +kernel
theorem dd250_28 : decode cX13_get 28 = .ok (.goto 17, 3) := by decide +kernel
theorem dd250_31 : decode cX13_get 31 = .ok (.aload_n 0, 1) := by decide +kernel
theorem dd250_32 : decode cX13_get 32 = .ok (.getfield 133, 3) := by decide +kernel
theorem dd250_35 : decode cX13_get 35 = .ok (.iconst 3, 1) := by decide +kernel
theorem dd250_36 : decode cX13_get 36 = .ok (.aload_n 0, 1) := by decide +kernel
theorem dd250_37 : decode cX13_get 37 = .ok (.iload_n 1, 1) := by decide +kernel
theorem dd250_38 : decode cX13_get 38 = .ok (.invokevirtual 620, 3) := by decide +kernel
theorem dd250_41 : decode cX13_get 41 = .ok (.imul, 1) := by decide +kernel
theorem dd250_42 : decode cX13_get 42 = .ok (.iload_n 3, 1) := by decide +kernel
theorem dd250_43 : decode cX13_get 43 = .ok (.iadd, 1) := by decide +kernel
theorem dd250_44 : decode cX13_get 44 = .ok (.iaload, 1) := by decide +kernel
theorem dd250_45 : decode cX13_get 45 = .ok (.ireturn, 1) := by decide +kernel
def f250 (n : Nat) (x1 : Int32) (x2 : Int32) (s : zσ) : Option (Int32 × zσ) :=
    zrd 12 (s.2.2 1132 11) fun a1 =>
    if zin? x2 1400 = true then
    zlet ((s.1 (a1 + 33) (nx x2))) fun v2 =>
    zrd 12 (s.2.2 1132 11) fun a3 =>
    if zin? x2 1400 = true then
    if (s.1 (a3 + 34) (nx x2)) = (0 : Int32) then
    if zin? v2 8 = true then
    some ((s.1 1207 (nx v2)), s)
    else none
    else yb1 (f218 n x1 s) fun v5 u4 =>
    if zin? (((3 : Int32) * v5) + v2) 3360 = true then
    some ((u4.1 1239 (nx (((3 : Int32) * v5) + v2))), u4)
    else none
    else none
    else none
set_option maxRecDepth 20000 in
theorem f250_ok {n d : Nat} {x1 : Int32} {x2 : Int32} {s : zσ} {v : Int32} {s2 : zσ} (hd : 2 ≤ d) (h : f250 n x1 x2 s = some (v, s2)) {w : zσ} {fz : Bool} {L : Nat} {xs : Nat → Int32} : zGo (zX fz L xs) d q_250 (0, [(0, .ref 1132), (1, .int x1), (2, .int x2)], [], zmk w s, 0, 0) (some (.int v), zmk w s2, 0, 0) := by
  obtain ⟨d, rfl⟩ : ∃ d0, d = d0 + 1 := ⟨d - 1, by omega⟩
  unfold f250 at h
  refine zGo_s (pc' := 1) (st' := [.ref 1132]) dd250_0 rfl ?_
  obtain ⟨a1, e_a1, c_a1, h⟩ := ordd h
  refine mGR dd250_1 rfl rfl rfl rfl e_a1 ?_
  refine mGF (e := (a1 + 33)) dd250_4 rfl (ck12_s c_a1).1 (ck12_s c_a1).2 rfl (cf12_39 c_a1).1 ?_
  refine zGo_s (pc' := 8) (st' := [.int x2, .ref (a1 + 33)]) dd250_7 rfl ?_
  obtain ⟨hi, h⟩ := ochk h
  refine mIA dd250_8 (cf12_39 c_a1).2.1 (cf12_39 c_a1).2.2 hi ?_
  obtain ⟨v2, e_v2, h⟩ := olet h
  refine zGo_is1 e_v2 dd250_9 (x' := (10, [(3, .int v2), (0, .ref 1132), (1, .int x1), (2, .int x2)], [], _, _, _)) rfl ?_
  refine zGo_s (pc' := 11) (st' := [.ref 1132]) dd250_10 rfl ?_
  obtain ⟨a3, e_a3, c_a3, h⟩ := ordd h
  refine mGR dd250_11 rfl rfl rfl rfl e_a3 ?_
  refine mGF (e := (a3 + 34)) dd250_14 rfl (ck12_s c_a3).1 (ck12_s c_a3).2 rfl (cf12_40 c_a3).1 ?_
  refine zGo_s (pc' := 18) (st' := [.int x2, .ref (a3 + 34)]) dd250_17 rfl ?_
  obtain ⟨hi, h⟩ := ochk h
  refine mIA dd250_18 (cf12_40 c_a3).2.1 (cf12_40 c_a3).2.2 hi ?_
  rcases oite h with ⟨hc, h⟩ | ⟨hc, h⟩
  · refine zUF dd250_19 (kNeF hc) ?_
    refine zGo_s (pc' := 23) (st' := [.ref 1132]) dd250_22 rfl ?_
    refine mGF (e := 1207) dd250_23 rfl rfl rfl rfl rfl ?_
    refine zGo_s (pc' := 27) (st' := [.int v2, .ref 1207]) dd250_26 rfl ?_
    obtain ⟨hi, h⟩ := ochk h
    refine mIA dd250_27 rfl rfl hi ?_
    refine zGo_s (pc' := 45) (st' := [.int (s.1 1207 (nx v2))]) dd250_28 rfl ?_
    obtain ⟨rfl, rfl⟩ := oret h
    exact zGo_ret dd250_45 rfl rfl
  · refine zUT dd250_19 rfl (kNeT hc) ?_
    refine zGo_s (pc' := 32) (st' := [.ref 1132]) dd250_31 rfl ?_
    refine mGF (e := 1239) dd250_32 rfl rfl rfl rfl rfl ?_
    refine zGo_s (pc' := 36) (st' := [.int (3 : Int32), .ref 1239]) dd250_35 rfl ?_
    refine zGo_s (pc' := 37) (st' := [.ref 1132, .int (3 : Int32), .ref 1239]) dd250_36 rfl ?_
    refine zGo_s (pc' := 38) (st' := [.int x1, .ref 1132, .int (3 : Int32), .ref 1239]) dd250_37 rfl ?_
    obtain ⟨v5, u4, hq, h⟩ := obnd h
    refine zCV1 (As := [.int x1]) (rest := [.int (3 : Int32), .ref 1239]) (b := 1132) (q' := q_218) dd250_38 rfl rfl (rcv_m rfl rfl (by decide)) rfl rfl rfl (f218_ok (d := d) (by omega)  hq) ?_
    refine zGo_s (pc' := 42) (st' := [.int ((3 : Int32) * v5), .ref 1239]) dd250_41 rfl ?_
    refine zGo_s (pc' := 43) (st' := [.int v2, .int ((3 : Int32) * v5), .ref 1239]) dd250_42 rfl ?_
    refine zGo_s (pc' := 44) (st' := [.int (((3 : Int32) * v5) + v2), .ref 1239]) dd250_43 rfl ?_
    obtain ⟨hi, h⟩ := ochk h
    refine mIA dd250_44 rfl rfl hi ?_
    obtain ⟨rfl, rfl⟩ := oret h
    exact zGo_ret dd250_45 rfl rfl
