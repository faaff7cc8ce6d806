/-! PHModel.goes()Z -/
theorem dd167_0 : decode cX13_goes 0 = .ok (.aload_n 0, 1) := by decide +kernel
theorem dd167_1 : decode cX13_goes 1 = .ok (.getfield 167, 3) := by decide +kernel
theorem dd167_4 : decode cX13_goes 4 = .ok (.ifCond .ne 7, 3) := by decide +kernel
theorem dd167_7 : decode cX13_goes 7 = .ok (.iconst 1, 1) := by decide +kernel
theorem dd167_8 : decode cX13_goes 8 = .ok (.goto 4, 3) := by decide +kernel
theorem dd167_11 : decode cX13_goes 11 = .ok (.iconst 0, 1) := by decide +kernel
theorem dd167_12 : decode cX13_goes 12 = .ok (.ireturn, 1) := by decide +kernel
def f167 (n : Nat) (s : zσ) : Option (Int32 × zσ) :=
    if (s.1 1132 9) = (0 : Int32) then
    some ((1 : Int32), s)
    else some ((0 : Int32), s)
set_option maxRecDepth 20000 in
theorem f167_ok {n d : Nat} {s : zσ} {v : Int32} {s2 : zσ} (hd : 0 ≤ d) (h : f167 n s = some (v, s2)) {w : zσ} {fz : Bool} {L : Nat} {xs : Nat → Int32} : zGo (zX fz L xs) d q_167 (0, [(0, .ref 1132)], [], zmk w s, 0, 0) (some (.int v), zmk w s2, 0, 0) := by
  unfold f167 at h
  refine zGo_s (pc' := 1) (st' := [.ref 1132]) dd167_0 rfl ?_
  refine mGI dd167_1 rfl rfl rfl rfl ?_
  rcases oite h with ⟨hc, h⟩ | ⟨hc, h⟩
  · refine zUF dd167_4 (kNeF hc) ?_
    refine zGo_s (pc' := 8) (st' := [.int (1 : Int32)]) dd167_7 rfl ?_
    refine zGo_s (pc' := 12) (st' := [.int (1 : Int32)]) dd167_8 rfl ?_
    obtain ⟨rfl, rfl⟩ := oret h
    exact zGo_ret dd167_12 rfl rfl
  · refine zUT dd167_4 rfl (kNeT hc) ?_
    refine zGo_s (pc' := 12) (st' := [.int (0 : Int32)]) dd167_11 rfl ?_
    obtain ⟨rfl, rfl⟩ := oret h
    exact zGo_ret dd167_12 rfl rfl
/-! PHModel.of(LString;)J -/
theorem dd171_0 : decode cX13_of 0 = .ok (.lconst 0, 1) := by decide +kernel
theorem dd171_1 : decode cX13_of 1 = .ok (.lstore_n 1, 1) := by decide +kernel
theorem dd171_2 : decode cX13_of 2 = .ok (.iconst 0, 1) := by decide +kernel
theorem dd171_3 : decode cX13_of 3 = .ok (.istore_n 3, 1) := by decide +kernel
theorem dd171_4 : decode cX13_of 4 = .ok (.iload_n 3, 1) := by decide +kernel
theorem dd171_5 : decode cX13_of 5 = .ok (.aload_n 0, 1) := by decide +kernel
theorem dd171_6 : decode cX13_of 6 = .ok (.invokevirtual 207, 3) := by decide +kernel
theorem dd171_9 : decode cX13_of 9 = .ok (.if_icmp .ge 21, 3) := by decide +kernel
theorem dd171_12 : decode cX13_of 12 = .ok (.lload_n 1, 1) := by decide +kernel
theorem dd171_13 : decode cX13_of 13 = .ok (.bipush 8, 2) := by decide +kernel
theorem dd171_15 : decode cX13_of 15 = .ok (.lshl, 1) := by decide +kernel
theorem dd171_16 : decode cX13_of 16 = .ok (.aload_n 0, 1) := by decide +kernel
theorem dd171_17 : decode cX13_of 17 = .ok (.iload_n 3, 1) := by decide +kernel
theorem dd171_18 : decode cX13_of 18 = .ok (.invokevirtual 211, 3) := by decide +kernel
theorem dd171_21 : decode cX13_of 21 = .ok (.i2l, 1) := by decide +kernel
theorem dd171_22 : decode cX13_of 22 = .ok (.lor, 1) := by decide +kernel
theorem dd171_23 : decode cX13_of 23 = .ok (.lstore_n 1, 1) := by decide +kernel
theorem dd171_24 : decode cX13_of 24 = .ok (.iinc 3 1, 3) := by decide +kernel
theorem dd171_27 : decode cX13_of 27 = .ok (.goto (-23), 3) := by decide +kernel
theorem dd171_30 : decode cX13_of 30 = .ok (.lload_n 1, 1) := by decide +kernel
theorem dd171_31 : decode cX13_of 31 = .ok (.lreturn, 1) := by decide +kernel
def f171_4 (n : Nat) : Nat → Nat → Int64 → Int32 → zσ → Option (Int64 × zσ)
  | 0, _, _, _, _ => none
  | j + 1, x0, x1, x3, s =>
    if x3 < (Int32.ofNat (zlen.getD x0 0)) then
    if zin? x3 (zlen.getD x0 0) = true then
    zlet (((x1 <<< ((8 : Int32).toInt64 &&& 63)) ||| ((zchr x0 (nx x3)).toInt64))) fun v1 =>
    f171_4 n j x0 v1 (x3 + (1 : Int32)) s
    else none
    else some (x1, s)
set_option maxRecDepth 20000 in
theorem f171_4_ok {n d : Nat} (hd : 4 ≤ d) : ∀ (j : Nat) (x0 : Nat) (x1 : Int64) (x3 : Int32) (s : zσ) (v : Int64) (s2 : zσ), x0 < 51 → f171_4 n j x0 x1 x3 s = some (v, s2) → ∀ {w : zσ} {fz : Bool} {L : Nat} {xs : Nat → Int32}, zGo (zX fz L xs) d q_171 (4, [(0, .ref x0), (1, .long x1), (3, .int x3)], [], zmk w s, 0, 0) (some (.long v), zmk w s2, 0, 0) := by
  obtain ⟨d, rfl⟩ : ∃ d0, d = d0 + 1 := ⟨d - 1, by omega⟩
  intro j
  induction j with
  | zero => intro x0 x1 x3 s v s2 hx0 h; cases h
  | succ j ih =>
    intro x0 x1 x3 s v s2 hx0 h w fz L xs
    rw [f171_4] at h
    refine zGo_s (pc' := 5) (st' := [.int x3]) dd171_4 rfl ?_
    refine zGo_s (pc' := 6) (st' := [.ref x0, .int x3]) dd171_5 rfl ?_
    refine zCV1 (As := []) (rest := [.int x3]) (b := x0) (q' := q_2) dd171_6 rfl rfl (zrcv_s hx0) rfl rfl rfl (zGo_dm (g_length (d := 0) hx0) (by omega)) ?_
    rcases oite h with ⟨hc, h⟩ | ⟨hc, h⟩
    · refine zIF dd171_9 (kGeF hc) ?_
      refine zGo_s (pc' := 13) (st' := [.long x1]) dd171_12 rfl ?_
      refine zGo_s (pc' := 15) (st' := [.int (8 : Int32), .long x1]) dd171_13 rfl ?_
      refine zGo_s (pc' := 16) (st' := [.long (x1 <<< ((8 : Int32).toInt64 &&& 63))]) dd171_15 rfl ?_
      refine zGo_s (pc' := 17) (st' := [.ref x0, .long (x1 <<< ((8 : Int32).toInt64 &&& 63))]) dd171_16 rfl ?_
      refine zGo_s (pc' := 18) (st' := [.int x3, .ref x0, .long (x1 <<< ((8 : Int32).toInt64 &&& 63))]) dd171_17 rfl ?_
      obtain ⟨hi, h⟩ := ochk h
      refine zCV1 (As := [.int x3]) (rest := [.long (x1 <<< ((8 : Int32).toInt64 &&& 63))]) (b := x0) (q' := q_4) dd171_18 rfl rfl (zrcv_s hx0) rfl rfl rfl (zGo_dm (g_charAt (d := 0) hx0 hi) (by omega)) ?_
      refine zGo_s (pc' := 22) (st' := [.long ((zchr x0 (nx x3)).toInt64), .long (x1 <<< ((8 : Int32).toInt64 &&& 63))]) dd171_21 rfl ?_
      refine zGo_s (pc' := 23) (st' := [.long ((x1 <<< ((8 : Int32).toInt64 &&& 63)) ||| ((zchr x0 (nx x3)).toInt64))]) dd171_22 rfl ?_
      obtain ⟨v1, e_v1, h⟩ := olet h
      refine zGo_is2 e_v1 dd171_23 (x' := (24, [(1, .long v1), (0, .ref x0), (3, .int x3)], [], _, _, _)) rfl ?_
      refine zGo_s (pc' := 27) (st' := []) (lv' := [(3, .int (x3 + (1 : Int32))), (1, .long v1), (0, .ref x0)]) dd171_24 rfl ?_
      refine zGo_s (pc' := 4) (st' := []) dd171_27 rfl ?_
      exact zGo_lv (lv := [(0, .ref x0), (1, .long v1), (3, .int (x3 + (1 : Int32)))]) ⟨by simp, by simp, by simp⟩ (ih _ _ _ _ _ _ hx0 h)
    · refine zIT dd171_9 rfl (kGeT hc) ?_
      refine zGo_s (pc' := 31) (st' := [.long x1]) dd171_30 rfl ?_
      obtain ⟨rfl, rfl⟩ := oret h
      exact zGo_ret dd171_31 rfl rfl
def f171 (n : Nat) (x0 : Nat) (s : zσ) : Option (Int64 × zσ) :=
    f171_4 n n x0 (0 : Int64) (0 : Int32) s
set_option maxRecDepth 20000 in
theorem f171_ok {n d : Nat} {x0 : Nat} {s : zσ} {v : Int64} {s2 : zσ} (hd : 4 ≤ d) (hx0 : x0 < 51) (h : f171 n x0 s = some (v, s2)) {w : zσ} {fz : Bool} {L : Nat} {xs : Nat → Int32} : zGo (zX fz L xs) d q_171 (0, [(0, .ref x0)], [], zmk w s, 0, 0) (some (.long v), zmk w s2, 0, 0) := by
  obtain ⟨d, rfl⟩ : ∃ d0, d = d0 + 1 := ⟨d - 1, by omega⟩
  unfold f171 at h
  refine zGo_s (pc' := 1) (st' := [.long (0 : Int64)]) dd171_0 rfl ?_
  refine zGo_s (pc' := 2) (st' := []) (lv' := [(1, .long (0 : Int64)), (0, .ref x0)]) dd171_1 rfl ?_
  refine zGo_s (pc' := 3) (st' := [.int (0 : Int32)]) dd171_2 rfl ?_
  refine zGo_s (pc' := 4) (st' := []) (lv' := [(3, .int (0 : Int32)), (1, .long (0 : Int64)), (0, .ref x0)]) dd171_3 rfl ?_
  exact zGo_lv (lv := [(0, .ref x0), (1, .long (0 : Int64)), (3, .int (0 : Int32))]) ⟨by simp, by simp, by simp⟩ (f171_4_ok hd _ _ _ _ _ _ _ hx0 h)
/-! PHModel.isWord(LString;)Z -/
theorem dd170_0 : decode cX13_isWord 0 = .ok (.aload_n 0, 1) := by decide +kernel
theorem dd170_1 : decode cX13_isWord 1 = .ok (.getfield 179, 3) := by decide +kernel
theorem dd170_4 : decode cX13_isWord 4 = .ok (.iconst 1, 1) := by decide +kernel
theorem dd170_5 : decode cX13_isWord 5 = .ok (.if_icmp .ne 19, 3) := by decide +kernel
theorem dd170_8 : decode cX13_isWord 8 = .ok (.aload_n 0, 1) := by decide +kernel
theorem dd170_9 : decode cX13_isWord 9 = .ok (.getfield 186, 3) := by decide +kernel
theorem dd170_12 : decode cX13_isWord 12 = .ok (.aload_n 1, 1) := by decide +kernel
theorem dd170_13 : decode cX13_isWord 13 = .ok (.invokestatic 219, 3) := by decide +kernel
theorem dd170_16 : decode cX13_isWord 16 = .ok (.lcmp, 1) := by decide +kernel
theorem dd170_17 : decode cX13_isWord 17 = .ok (.ifCond .ne 7, 3) := by decide +kernel
theorem dd170_20 : decode cX13_isWord 20 = .ok (.iconst 1, 1) := by decide +kernel
theorem dd170_21 : decode cX13_isWord 21 = .ok (.goto 4, 3) := by decide +kernel
theorem dd170_24 : decode cX13_isWord 24 = .ok (.iconst 0, 1) := by decide +kernel
theorem dd170_25 : decode cX13_isWord 25 = .ok (.ireturn, 1) := by decide +kernel
def f170 (n : Nat) (x1 : Nat) (s : zσ) : Option (Int32 × zσ) :=
    if (s.1 1132 3) = (1 : Int32) then
    yb1 (f171 n x1 s) fun v2 u1 =>
    if (s.2.1 1132 6) = v2 then
    some ((1 : Int32), u1)
    else some ((0 : Int32), u1)
    else some ((0 : Int32), s)
set_option maxRecDepth 20000 in
theorem f170_ok {n d : Nat} {x1 : Nat} {s : zσ} {v : Int32} {s2 : zσ} (hd : 5 ≤ d) (hx1 : x1 < 51) (h : f170 n x1 s = some (v, s2)) {w : zσ} {fz : Bool} {L : Nat} {xs : Nat → Int32} : zGo (zX fz L xs) d q_170 (0, [(0, .ref 1132), (1, .ref x1)], [], zmk w s, 0, 0) (some (.int v), zmk w s2, 0, 0) := by
  obtain ⟨d, rfl⟩ : ∃ d0, d = d0 + 1 := ⟨d - 1, by omega⟩
  unfold f170 at h
  refine zGo_s (pc' := 1) (st' := [.ref 1132]) dd170_0 rfl ?_
  refine mGI dd170_1 rfl rfl rfl rfl ?_
  refine zGo_s (pc' := 5) (st' := [.int (1 : Int32), .int (s.1 1132 3)]) dd170_4 rfl ?_
  rcases oite h with ⟨hc, h⟩ | ⟨hc, h⟩
  · refine zIF dd170_5 (kNeF hc) ?_
    refine zGo_s (pc' := 9) (st' := [.ref 1132]) dd170_8 rfl ?_
    refine mGJ dd170_9 rfl rfl rfl rfl ?_
    refine zGo_s (pc' := 13) (st' := [.ref x1, .long (s.2.1 1132 6)]) dd170_12 rfl ?_
    obtain ⟨v2, u1, hq, h⟩ := obnd h
    refine zCS1 (As := [.ref x1]) (rest := [.long (s.2.1 1132 6)]) (q' := q_171) dd170_13 rfl rfl rfl rfl rfl (f171_ok (d := d) (by omega) hx1 hq) ?_
    refine zGo_s (pc' := 17) (st' := [.int (lg_cmp (s.2.1 1132 6) v2)]) dd170_16 rfl ?_
    rcases oite h with ⟨hc, h⟩ | ⟨hc, h⟩
    · refine zUF dd170_17 (kcNeF hc) ?_
      refine zGo_s (pc' := 21) (st' := [.int (1 : Int32)]) dd170_20 rfl ?_
      refine zGo_s (pc' := 25) (st' := [.int (1 : Int32)]) dd170_21 rfl ?_
      obtain ⟨rfl, rfl⟩ := oret h
      exact zGo_ret dd170_25 rfl rfl
    · refine zUT dd170_17 rfl (kcNeT hc) ?_
      refine zGo_s (pc' := 25) (st' := [.int (0 : Int32)]) dd170_24 rfl ?_
      obtain ⟨rfl, rfl⟩ := oret h
      exact zGo_ret dd170_25 rfl rfl
  · refine zIT dd170_5 rfl (kNeT hc) ?_
    refine zGo_s (pc' := 25) (st' := [.int (0 : Int32)]) dd170_24 rfl ?_
    obtain ⟨rfl, rfl⟩ := oret h
    exact zGo_ret dd170_25 rfl rfl
/-! PHModel.sortOf()I -/
theorem dd169_0 : decode cX13_sortOf 0 = .ok (.aload_n 0, 1) := by decide +kernel
theorem dd169_1 : decode cX13_sortOf 1 = .ok (.ldc_w 496, 3) := by decide +kernel
theorem dd169_4 : decode cX13_sortOf 4 = .ok (.invokevirtual 328, 3) := by decide +kernel
theorem dd169_7 : decode cX13_sortOf 7 = .ok (.ifCond .eq 7, 3) := by decide +kernel
theorem dd169_10 : decode cX13_sortOf 10 = .ok (.iconst 0, 1) := by decide +kernel
theorem dd169_11 : decode cX13_sortOf 11 = .ok (.goto 119, 3) := by decide +kernel
theorem dd169_14 : decode cX13_sortOf 14 = .ok (.aload_n 0, 1) := by decide +kernel
theorem dd169_15 : decode cX13_sortOf 15 = .ok (.ldc_w 498, 3) := by decide +kernel
theorem dd169_18 : decode cX13_sortOf 18 = .ok (.invokevirtual 328, 3) := by decide +kernel
theorem dd169_21 : decode cX13_sortOf 21 = .ok (.ifCond .eq 7, 3) := by decide +kernel
theorem dd169_24 : decode cX13_sortOf 24 = .ok (.iconst 1, 1) := by decide +kernel
theorem dd169_25 : decode cX13_sortOf 25 = .ok (.goto 105, 3) := by decide +kernel
theorem dd169_28 : decode cX13_sortOf 28 = .ok (.aload_n 0, 1) := by decide +kernel
theorem dd169_29 : decode cX13_sortOf 29 = .ok (.ldc_w 499, 3) := by decide +kernel
theorem dd169_32 : decode cX13_sortOf 32 = .ok (.invokevirtual 328, 3) := by decide +kernel
theorem dd169_35 : decode cX13_sortOf 35 = .ok (.ifCond .eq 7, 3) := by decide +kernel
theorem dd169_38 : decode cX13_sortOf 38 = .ok (.iconst 2, 1) := by decide +kernel
theorem dd169_39 : decode cX13_sortOf 39 = .ok (.goto 91, 3) := by decide +kernel
theorem dd169_42 : decode cX13_sortOf 42 = .ok (.aload_n 0, 1) := by decide +kernel
theorem dd169_43 : decode cX13_sortOf 43 = .ok (.ldc_w 501, 3) := by decide +kernel
theorem dd169_46 : decode cX13_sortOf 46 = .ok (.invokevirtual 328, 3) := by decide +kernel
theorem dd169_49 : decode cX13_sortOf 49 = .ok (.ifCond .eq 7, 3) := by decide +kernel
theorem dd169_52 : decode cX13_sortOf 52 = .ok (.iconst 3, 1) := by decide +kernel
theorem dd169_53 : decode cX13_sortOf 53 = .ok (.goto 77, 3) := by decide +kernel
theorem dd169_56 : decode cX13_sortOf 56 = .ok (.aload_n 0, 1) := by decide +kernel
theorem dd169_57 : decode cX13_sortOf 57 = .ok (.ldc_w 503, 3) := by decide +kernel
theorem dd169_60 : decode cX13_sortOf 60 = .ok (.invokevirtual 328, 3) := by decide +kernel
theorem dd169_63 : decode cX13_sortOf 63 = .ok (.ifCond .eq 7, 3) := by decide +kernel
theorem dd169_66 : decode cX13_sortOf 66 = .ok (.iconst 4, 1) := by decide +kernel
theorem dd169_67 : decode cX13_sortOf 67 = .ok (.goto 63, 3) := by decide +kernel
theorem dd169_70 : decode cX13_sortOf 70 = .ok (.aload_n 0, 1) := by decide +kernel
theorem dd169_71 : decode cX13_sortOf 71 = .ok (.ldc_w 505, 3) := by decide +kernel
theorem dd169_74 : decode cX13_sortOf 74 = .ok (.invokevirtual 328, 3) := by decide +kernel
theorem dd169_77 : decode cX13_sortOf 77 = .ok (.ifCond .eq 7, 3) := by decide +kernel
theorem dd169_80 : decode cX13_sortOf 80 = .ok (.iconst 5, 1) := by decide +kernel
theorem dd169_81 : decode cX13_sortOf 81 = .ok (.goto 49, 3) := by decide +kernel
theorem dd169_84 : decode cX13_sortOf 84 = .ok (.aload_n 0, 1) := by decide +kernel
theorem dd169_85 : decode cX13_sortOf 85 = .ok (.ldc_w 507, 3) := by decide +kernel
theorem dd169_88 : decode cX13_sortOf 88 = .ok (.invokevirtual 328, 3) := by decide +kernel
theorem dd169_91 : decode cX13_sortOf 91 = .ok (.ifCond .eq 8, 3) := by decide +kernel
theorem dd169_94 : decode cX13_sortOf 94 = .ok (.bipush 6, 2) := by decide +kernel
theorem dd169_96 : decode cX13_sortOf 96 = .ok (.goto 34, 3) := by decide +kernel
theorem dd169_99 : decode cX13_sortOf 99 = .ok (.aload_n 0, 1) := by decide +kernel
theorem dd169_100 : decode cX13_sortOf 100 = .ok (.ldc_w 509, 3) := by decide +kernel
theorem dd169_103 : decode cX13_sortOf 103 = .ok (.invokevirtual 328, 3) := by decide +kernel
theorem dd169_106 : decode cX13_sortOf 106 = .ok (.ifCond .eq 8, 3) := by decide +kernel
theorem dd169_109 : decode cX13_sortOf 109 = .ok (.bipush 7, 2) := by decide +kernel
theorem dd169_111 : decode cX13_sortOf 111 = .ok (.goto 19, 3) := by decide +kernel
theorem dd169_114 : decode cX13_sortOf 114 = .ok (.aload_n 0, 1) := by decide +kernel
theorem dd169_115 : decode cX13_sortOf 115 = .ok (.ldc_w 510, 3) := by decide +kernel
theorem dd169_118 : decode cX13_sortOf 118 = .ok (.invokevirtual 328, 3) := by decide +kernel
theorem dd169_121 : decode cX13_sortOf 121 = .ok (.ifCond .eq 8, 3) := by decide +kernel
theorem dd169_124 : decode cX13_sortOf 124 = .ok (.bipush 8, 2) := by decide +kernel
theorem dd169_126 : decode cX13_sortOf 126 = .ok (.goto 4, 3) := by decide +kernel
theorem dd169_129 : decode cX13_sortOf 129 = .ok (.iconst (-1), 1) := by decide +kernel
theorem dd169_130 : decode cX13_sortOf 130 = .ok (.ireturn, 1) := by decide +kernel
def f169 (n : Nat) (s : zσ) : Option (Int32 × zσ) :=
    yb1 (f170 n 3 s) fun v2 u1 =>
    if v2 = (0 : Int32) then
    yb1 (f170 n 4 u1) fun v4 u3 =>
    if v4 = (0 : Int32) then
    yb1 (f170 n 5 u3) fun v6 u5 =>
    if v6 = (0 : Int32) then
    yb1 (f170 n 6 u5) fun v8 u7 =>
    if v8 = (0 : Int32) then
    yb1 (f170 n 7 u7) fun v10 u9 =>
    if v10 = (0 : Int32) then
    yb1 (f170 n 8 u9) fun v12 u11 =>
    if v12 = (0 : Int32) then
    yb1 (f170 n 9 u11) fun v14 u13 =>
    if v14 = (0 : Int32) then
    yb1 (f170 n 10 u13) fun v16 u15 =>
    if v16 = (0 : Int32) then
    yb1 (f170 n 11 u15) fun v18 u17 =>
    if v18 = (0 : Int32) then
    some ((-1 : Int32), u17)
    else some ((8 : Int32), u17)
    else some ((7 : Int32), u15)
    else some ((6 : Int32), u13)
    else some ((5 : Int32), u11)
    else some ((4 : Int32), u9)
    else some ((3 : Int32), u7)
    else some ((2 : Int32), u5)
    else some ((1 : Int32), u3)
    else some ((0 : Int32), u1)
set_option maxRecDepth 20000 in
theorem f169_ok {n d : Nat} {s : zσ} {v : Int32} {s2 : zσ} (hd : 6 ≤ d) (h : f169 n s = some (v, s2)) {w : zσ} {fz : Bool} {L : Nat} {xs : Nat → Int32} : zGo (zX fz L xs) d q_169 (0, [(0, .ref 1132)], [], zmk w s, 0, 0) (some (.int v), zmk w s2, 0, 0) := by
  obtain ⟨d, rfl⟩ : ∃ d0, d = d0 + 1 := ⟨d - 1, by omega⟩
  unfold f169 at h
  refine zGo_s (pc' := 1) (st' := [.ref 1132]) dd169_0 rfl ?_
  refine zGo_s (pc' := 4) (st' := [.ref 3, .ref 1132]) dd169_1 rfl ?_
  obtain ⟨v2, u1, hq, h⟩ := obnd h
  refine zCV1 (As := [.ref 3]) (rest := []) (b := 1132) (q' := q_170) dd169_4 rfl rfl (rcv_m rfl rfl (by decide)) rfl rfl rfl (f170_ok (d := d) (by omega) (by decide) hq) ?_
  rcases oite h with ⟨hc, h⟩ | ⟨hc, h⟩
  · refine zUT dd169_7 rfl (kEqT hc) ?_
    refine zGo_s (pc' := 15) (st' := [.ref 1132]) dd169_14 rfl ?_
    refine zGo_s (pc' := 18) (st' := [.ref 4, .ref 1132]) dd169_15 rfl ?_
    obtain ⟨v4, u3, hq, h⟩ := obnd h
    refine zCV1 (As := [.ref 4]) (rest := []) (b := 1132) (q' := q_170) dd169_18 rfl rfl (rcv_m rfl rfl (by decide)) rfl rfl rfl (f170_ok (d := d) (by omega) (by decide) hq) ?_
    rcases oite h with ⟨hc, h⟩ | ⟨hc, h⟩
    · refine zUT dd169_21 rfl (kEqT hc) ?_
      refine zGo_s (pc' := 29) (st' := [.ref 1132]) dd169_28 rfl ?_
      refine zGo_s (pc' := 32) (st' := [.ref 5, .ref 1132]) dd169_29 rfl ?_
      obtain ⟨v6, u5, hq, h⟩ := obnd h
      refine zCV1 (As := [.ref 5]) (rest := []) (b := 1132) (q' := q_170) dd169_32 rfl rfl (rcv_m rfl rfl (by decide)) rfl rfl rfl (f170_ok (d := d) (by omega) (by decide) hq) ?_
      rcases oite h with ⟨hc, h⟩ | ⟨hc, h⟩
      · refine zUT dd169_35 rfl (kEqT hc) ?_
        refine zGo_s (pc' := 43) (st' := [.ref 1132]) dd169_42 rfl ?_
        refine zGo_s (pc' := 46) (st' := [.ref 6, .ref 1132]) dd169_43 rfl ?_
        obtain ⟨v8, u7, hq, h⟩ := obnd h
        refine zCV1 (As := [.ref 6]) (rest := []) (b := 1132) (q' := q_170) dd169_46 rfl rfl (rcv_m rfl rfl (by decide)) rfl rfl rfl (f170_ok (d := d) (by omega) (by decide) hq) ?_
        rcases oite h with ⟨hc, h⟩ | ⟨hc, h⟩
        · refine zUT dd169_49 rfl (kEqT hc) ?_
          refine zGo_s (pc' := 57) (st' := [.ref 1132]) dd169_56 rfl ?_
          refine zGo_s (pc' := 60) (st' := [.ref 7, .ref 1132]) dd169_57 rfl ?_
          obtain ⟨v10, u9, hq, h⟩ := obnd h
          refine zCV1 (As := [.ref 7]) (rest := []) (b := 1132) (q' := q_170) dd169_60 rfl rfl (rcv_m rfl rfl (by decide)) rfl rfl rfl (f170_ok (d := d) (by omega) (by decide) hq) ?_
          rcases oite h with ⟨hc, h⟩ | ⟨hc, h⟩
          · refine zUT dd169_63 rfl (kEqT hc) ?_
            refine zGo_s (pc' := 71) (st' := [.ref 1132]) dd169_70 rfl ?_
            refine zGo_s (pc' := 74) (st' := [.ref 8, .ref 1132]) dd169_71 rfl ?_
            obtain ⟨v12, u11, hq, h⟩ := obnd h
            refine zCV1 (As := [.ref 8]) (rest := []) (b := 1132) (q' := q_170) dd169_74 rfl rfl (rcv_m rfl rfl (by decide)) rfl rfl rfl (f170_ok (d := d) (by omega) (by decide) hq) ?_
            rcases oite h with ⟨hc, h⟩ | ⟨hc, h⟩
            · refine zUT dd169_77 rfl (kEqT hc) ?_
              refine zGo_s (pc' := 85) (st' := [.ref 1132]) dd169_84 rfl ?_
              refine zGo_s (pc' := 88) (st' := [.ref 9, .ref 1132]) dd169_85 rfl ?_
              obtain ⟨v14, u13, hq, h⟩ := obnd h
              refine zCV1 (As := [.ref 9]) (rest := []) (b := 1132) (q' := q_170) dd169_88 rfl rfl (rcv_m rfl rfl (by decide)) rfl rfl rfl (f170_ok (d := d) (by omega) (by decide) hq) ?_
              rcases oite h with ⟨hc, h⟩ | ⟨hc, h⟩
              · refine zUT dd169_91 rfl (kEqT hc) ?_
                refine zGo_s (pc' := 100) (st' := [.ref 1132]) dd169_99 rfl ?_
                refine zGo_s (pc' := 103) (st' := [.ref 10, .ref 1132]) dd169_100 rfl ?_
                obtain ⟨v16, u15, hq, h⟩ := obnd h
                refine zCV1 (As := [.ref 10]) (rest := []) (b := 1132) (q' := q_170) dd169_103 rfl rfl (rcv_m rfl rfl (by decide)) rfl rfl rfl (f170_ok (d := d) (by omega) (by decide) hq) ?_
                rcases oite h with ⟨hc, h⟩ | ⟨hc, h⟩
                · refine zUT dd169_106 rfl (kEqT hc) ?_
                  refine zGo_s (pc' := 115) (st' := [.ref 1132]) dd169_114 rfl ?_
                  refine zGo_s (pc' := 118) (st' := [.ref 11, .ref 1132]) dd169_115 rfl ?_
                  obtain ⟨v18, u17, hq, h⟩ := obnd h
                  refine zCV1 (As := [.ref 11]) (rest := []) (b := 1132) (q' := q_170) dd169_118 rfl rfl (rcv_m rfl rfl (by decide)) rfl rfl rfl (f170_ok (d := d) (by omega) (by decide) hq) ?_
                  rcases oite h with ⟨hc, h⟩ | ⟨hc, h⟩
                  · refine zUT dd169_121 rfl (kEqT hc) ?_
                    refine zGo_s (pc' := 130) (st' := [.int (-1 : Int32)]) dd169_129 rfl ?_
                    obtain ⟨rfl, rfl⟩ := oret h
                    exact zGo_ret dd169_130 rfl rfl
                  · refine zUF dd169_121 (kEqF hc) ?_
                    refine zGo_s (pc' := 126) (st' := [.int (8 : Int32)]) dd169_124 rfl ?_
                    refine zGo_s (pc' := 130) (st' := [.int (8 : Int32)]) dd169_126 rfl ?_
                    obtain ⟨rfl, rfl⟩ := oret h
                    exact zGo_ret dd169_130 rfl rfl
                · refine zUF dd169_106 (kEqF hc) ?_
                  refine zGo_s (pc' := 111) (st' := [.int (7 : Int32)]) dd169_109 rfl ?_
                  refine zGo_s (pc' := 130) (st' := [.int (7 : Int32)]) dd169_111 rfl ?_
                  obtain ⟨rfl, rfl⟩ := oret h
                  exact zGo_ret dd169_130 rfl rfl
              · refine zUF dd169_91 (kEqF hc) ?_
                refine zGo_s (pc' := 96) (st' := [.int (6 : Int32)]) dd169_94 rfl ?_
                refine zGo_s (pc' := 130) (st' := [.int (6 : Int32)]) dd169_96 rfl ?_
                obtain ⟨rfl, rfl⟩ := oret h
                exact zGo_ret dd169_130 rfl rfl
            · refine zUF dd169_77 (kEqF hc) ?_
              refine zGo_s (pc' := 81) (st' := [.int (5 : Int32)]) dd169_80 rfl ?_
              refine zGo_s (pc' := 130) (st' := [.int (5 : Int32)]) dd169_81 rfl ?_
              obtain ⟨rfl, rfl⟩ := oret h
              exact zGo_ret dd169_130 rfl rfl
          · refine zUF dd169_63 (kEqF hc) ?_
            refine zGo_s (pc' := 67) (st' := [.int (4 : Int32)]) dd169_66 rfl ?_
            refine zGo_s (pc' := 130) (st' := [.int (4 : Int32)]) dd169_67 rfl ?_
            obtain ⟨rfl, rfl⟩ := oret h
            exact zGo_ret dd169_130 rfl rfl
        · refine zUF dd169_49 (kEqF hc) ?_
          refine zGo_s (pc' := 53) (st' := [.int (3 : Int32)]) dd169_52 rfl ?_
          refine zGo_s (pc' := 130) (st' := [.int (3 : Int32)]) dd169_53 rfl ?_
          obtain ⟨rfl, rfl⟩ := oret h
          exact zGo_ret dd169_130 rfl rfl
      · refine zUF dd169_35 (kEqF hc) ?_
        refine zGo_s (pc' := 39) (st' := [.int (2 : Int32)]) dd169_38 rfl ?_
        refine zGo_s (pc' := 130) (st' := [.int (2 : Int32)]) dd169_39 rfl ?_
        obtain ⟨rfl, rfl⟩ := oret h
        exact zGo_ret dd169_130 rfl rfl
    · refine zUF dd169_21 (kEqF hc) ?_
      refine zGo_s (pc' := 25) (st' := [.int (1 : Int32)]) dd169_24 rfl ?_
      refine zGo_s (pc' := 130) (st' := [.int (1 : Int32)]) dd169_25 rfl ?_
      obtain ⟨rfl, rfl⟩ := oret h
      exact zGo_ret dd169_130 rfl rfl
  · refine zUF dd169_7 (kEqF hc) ?_
    refine zGo_s (pc' := 11) (st' := [.int (0 : Int32)]) dd169_10 rfl ?_
    refine zGo_s (pc' := 130) (st' := [.int (0 : Int32)]) dd169_11 rfl ?_
    obtain ⟨rfl, rfl⟩ := oret h
    exact zGo_ret dd169_130 rfl rfl
/-! PHModel.wrong(II)V -/
theorem dd173_0 : decode cX13_wrong 0 = .ok (.aload_n 0, 1) := by decide +kernel
theorem dd173_1 : decode cX13_wrong 1 = .ok (.getfield 167, 3) := by decide +kernel
theorem dd173_4 : decode cX13_wrong 4 = .ok (.ifCond .ne 13, 3) := by decide +kernel
theorem dd173_7 : decode cX13_wrong 7 = .ok (.aload_n 0, 1) := by decide +kernel
theorem dd173_8 : decode cX13_wrong 8 = .ok (.iload_n 1, 1) := by decide +kernel
theorem dd173_9 : decode cX13_wrong 9 = .ok (.putfield 167, 3) := by decide +kernel
theorem dd173_12 : decode cX13_wrong 12 = .ok (.aload_n 0, 1) := by decide +kernel
theorem dd173_13 : decode cX13_wrong 13 = .ok (.iload_n 2, 1) := by decide +kernel
theorem dd173_14 : decode cX13_wrong 14 = .ok (.putfield 170, 3) := by decide +kernel
theorem dd173_17 : decode cX13_wrong 17 = .ok (.return_, 1) := by decide +kernel
def f173 (n : Nat) (x1 : Int32) (x2 : Int32) (s : zσ) : Option zσ :=
    if (s.1 1132 9) = (0 : Int32) then
    zlet (sI s 1132 9 x1) fun u1 =>
    zlet (sI u1 1132 10 x2) fun u2 =>
    some u2
    else some s
set_option maxRecDepth 20000 in
theorem f173_ok {n d : Nat} {x1 : Int32} {x2 : Int32} {s : zσ} {s2 : zσ} (hd : 0 ≤ d) (h : f173 n x1 x2 s = some s2) {w : zσ} {fz : Bool} {L : Nat} {xs : Nat → Int32} : zGo (zX fz L xs) d q_173 (0, [(0, .ref 1132), (1, .int x1), (2, .int x2)], [], zmk w s, 0, 0) (none, zmk w s2, 0, 0) := by
  unfold f173 at h
  refine zGo_s (pc' := 1) (st' := [.ref 1132]) dd173_0 rfl ?_
  refine mGI dd173_1 rfl rfl rfl rfl ?_
  rcases oite h with ⟨hc, h⟩ | ⟨hc, h⟩
  · refine zUF dd173_4 (kNeF hc) ?_
    refine zGo_s (pc' := 8) (st' := [.ref 1132]) dd173_7 rfl ?_
    refine zGo_s (pc' := 9) (st' := [.int x1, .ref 1132]) dd173_8 rfl ?_
    obtain ⟨u1, e_u1, h⟩ := olet h
    refine mPI dd173_9 rfl rfl rfl rfl rfl rfl e_u1 ?_
    refine zGo_s (pc' := 13) (st' := [.ref 1132]) dd173_12 rfl ?_
    refine zGo_s (pc' := 14) (st' := [.int x2, .ref 1132]) dd173_13 rfl ?_
    obtain ⟨u2, e_u2, h⟩ := olet h
    refine mPI dd173_14 rfl rfl rfl rfl rfl rfl e_u2 ?_
    obtain rfl := ore0 h
    exact zGo_ret dd173_17 rfl rfl
  · refine zUT dd173_4 rfl (kNeT hc) ?_
    obtain rfl := ore0 h
    exact zGo_ret dd173_17 rfl rfl
/-! PHModel.cant()V -/
theorem dd172_0 : decode cX13_cant 0 = .ok (.aload_n 0, 1) := by decide +kernel
theorem dd172_1 : decode cX13_cant 1 = .ok (.aload_n 0, 1) := by decide +kernel
theorem dd172_2 : decode cX13_cant 2 = .ok (.getfield 179, 3) := by decide +kernel
theorem dd172_5 : decode cX13_cant 5 = .ok (.iconst 4, 1) := by decide +kernel
theorem dd172_6 : decode cX13_cant 6 = .ok (.if_icmp .ne 7, 3) := by decide +kernel
theorem dd172_9 : decode cX13_cant 9 = .ok (.iconst 1, 1) := by decide +kernel
theorem dd172_10 : decode cX13_cant 10 = .ok (.goto 4, 3) := by decide +kernel
theorem dd172_13 : decode cX13_cant 13 = .ok (.iconst 2, 1) := by decide +kernel
theorem dd172_14 : decode cX13_cant 14 = .ok (.aload_n 0, 1) := by decide +kernel
theorem dd172_15 : decode cX13_cant 15 = .ok (.getfield 176, 3) := by decide +kernel
theorem dd172_18 : decode cX13_cant 18 = .ok (.invokevirtual 215, 3) := by decide +kernel
theorem dd172_21 : decode cX13_cant 21 = .ok (.return_, 1) := by decide +kernel
def f172_14 (n : Nat) (y0 : Int32) (s : zσ) : Option zσ :=
    yb0 (f173 n y0 (s.1 1132 4) s) fun u1 =>
    some u1
set_option maxRecDepth 20000 in
theorem f172_14_ok {n d : Nat} {y0 : Int32} {s : zσ} {s2 : zσ} (hd : 1 ≤ d) (h : f172_14 n y0 s = some s2) {w : zσ} {fz : Bool} {L : Nat} {xs : Nat → Int32} : zGo (zX fz L xs) d q_172 (14, [(0, .ref 1132)], [.int y0, .ref 1132], zmk w s, 0, 0) (none, zmk w s2, 0, 0) := by
  obtain ⟨d, rfl⟩ : ∃ d0, d = d0 + 1 := ⟨d - 1, by omega⟩
  unfold f172_14 at h
  refine zGo_s (pc' := 15) (st' := [.ref 1132, .int y0, .ref 1132]) dd172_14 rfl ?_
  refine mGI dd172_15 rfl rfl rfl rfl ?_
  obtain ⟨u1, hq, h⟩ := obn0 h
  refine zCV0 (As := [.int y0, .int (s.1 1132 4)]) (rest := []) (b := 1132) (q' := q_173) dd172_18 rfl rfl (rcv_m rfl rfl (by decide)) rfl rfl rfl (f173_ok (d := d) (by omega)  hq) ?_
  obtain rfl := ore0 h
  exact zGo_ret dd172_21 rfl rfl
def f172 (n : Nat) (s : zσ) : Option zσ :=
    if (s.1 1132 3) = (4 : Int32) then
    f172_14 n (1 : Int32) s
    else f172_14 n (2 : Int32) s
set_option maxRecDepth 20000 in
theorem f172_ok {n d : Nat} {s : zσ} {s2 : zσ} (hd : 1 ≤ d) (h : f172 n s = some s2) {w : zσ} {fz : Bool} {L : Nat} {xs : Nat → Int32} : zGo (zX fz L xs) d q_172 (0, [(0, .ref 1132)], [], zmk w s, 0, 0) (none, zmk w s2, 0, 0) := by
  obtain ⟨d, rfl⟩ : ∃ d0, d = d0 + 1 := ⟨d - 1, by omega⟩
  unfold f172 at h
  refine zGo_s (pc' := 1) (st' := [.ref 1132]) dd172_0 rfl ?_
  refine zGo_s (pc' := 2) (st' := [.ref 1132, .ref 1132]) dd172_1 rfl ?_
  refine mGI dd172_2 rfl rfl rfl rfl ?_
  refine zGo_s (pc' := 6) (st' := [.int (4 : Int32), .int (s.1 1132 3), .ref 1132]) dd172_5 rfl ?_
  rcases oite h with ⟨hc, h⟩ | ⟨hc, h⟩
  · refine zIF dd172_6 (kNeF hc) ?_
    refine zGo_s (pc' := 10) (st' := [.int (1 : Int32), .ref 1132]) dd172_9 rfl ?_
    refine zGo_s (pc' := 14) (st' := [.int (1 : Int32), .ref 1132]) dd172_10 rfl ?_
    exact f172_14_ok hd h
  · refine zIT dd172_6 rfl (kNeT hc) ?_
    refine zGo_s (pc' := 14) (st' := [.int (2 : Int32), .ref 1132]) dd172_13 rfl ?_
    exact f172_14_ok hd h
/-! PHModel.isReserved(J)Z -/
theorem dd176_0 : decode cX13_isReserved 0 = .ok (.iconst 0, 1) := by decide +kernel
theorem dd176_1 : decode cX13_isReserved 1 = .ok (.istore_n 2, 1) := by decide +kernel
theorem dd176_2 : decode cX13_isReserved 2 = .ok (.iload_n 2, 1) := by decide +kernel
theorem dd176_3 : decode cX13_isReserved 3 = .ok (.iconst 1, 1) := by decide +kernel
theorem dd176_4 : decode cX13_isReserved 4 = .ok (.iadd, 1) := by decide +kernel
theorem dd176_5 : decode cX13_isReserved 5 = .ok (.ldc 241, 2) := by decide +kernel
theorem dd176_7 : decode cX13_isReserved 7 = .ok (.invokevirtual 207, 3) := by decide +kernel
theorem dd176_10 : decode cX13_isReserved 10 = .ok (.if_icmp .ge 56, 3) := by decide +kernel
theorem dd176_13 : decode cX13_isReserved 13 = .ok (.iload_n 2, 1) := by decide +kernel
theorem dd176_14 : decode cX13_isReserved 14 = .ok (.iconst 1, 1) := by decide +kernel
theorem dd176_15 : decode cX13_isReserved 15 = .ok (.iadd, 1) := by decide +kernel
theorem dd176_16 : decode cX13_isReserved 16 = .ok (.istore_n 3, 1) := by decide +kernel
theorem dd176_17 : decode cX13_isReserved 17 = .ok (.lconst 0, 1) := by decide +kernel
theorem dd176_18 : decode cX13_isReserved 18 = .ok (.lstore 4, 2) := by decide +kernel
theorem dd176_20 : decode cX13_isReserved 20 = .ok (.ldc 241, 2) := by decide +kernel
theorem dd176_22 : decode cX13_isReserved 22 = .ok (.iload_n 3, 1) := by decide +kernel
theorem dd176_23 : decode cX13_isReserved 23 = .ok (.invokevirtual 211, 3) := by decide +kernel
theorem dd176_26 : decode cX13_isReserved 26 = .ok (.bipush 32, 2) := by decide +kernel
theorem dd176_28 : decode cX13_isReserved 28 = .ok (.if_icmp .eq 24, 3) := by decide +kernel
theorem dd176_31 : decode cX13_isReserved 31 = .ok (.lload 4, 2) := by decide +kernel
theorem dd176_33 : decode cX13_isReserved 33 = .ok (.bipush 8, 2) := by decide +kernel
theorem dd176_35 : decode cX13_isReserved 35 = .ok (.lshl, 1) := by decide +kernel
theorem dd176_36 : decode cX13_isReserved 36 = .ok (.ldc 241, 2) := by decide +kernel
theorem dd176_38 : decode cX13_isReserved 38 = .ok (.iload_n 3, 1) := by decide +kernel
theorem dd176_39 : decode cX13_isReserved 39 = .ok (.invokevirtual 211, 3) := by decide +kernel
theorem dd176_42 : decode cX13_isReserved 42 = .ok (.i2l, 1) := by decide +kernel
theorem dd176_43 : decode cX13_isReserved 43 = .ok (.lor, 1) := by decide +kernel
theorem dd176_44 : decode cX13_isReserved 44 = .ok (.lstore 4, 2) := by decide +kernel
theorem dd176_46 : decode cX13_isReserved 46 = .ok (.iinc 3 1, 3) := by decide +kernel
theorem dd176_49 : decode cX13_isReserved 49 = .ok (.goto (-29), 3) := by decide +kernel
theorem dd176_52 : decode cX13_isReserved 52 = .ok (.lload 4, 2) := by decide +kernel
theorem dd176_54 : decode cX13_isReserved 54 = .ok (.lload_n 0, 1) := by decide +kernel
theorem dd176_55 : decode cX13_isReserved 55 = .ok (.lcmp, 1) := by decide +kernel
theorem dd176_56 : decode cX13_isReserved 56 = .ok (.ifCond .ne 5, 3) := by decide +kernel
theorem dd176_59 : decode cX13_isReserved 59 = .ok (.iconst 1, 1) := by decide +kernel
theorem dd176_60 : decode cX13_isReserved 60 = .ok (.ireturn, 1) := by decide +kernel
theorem dd176_61 : decode cX13_isReserved 61 = .ok (.iload_n 3, 1) := by decide +kernel
theorem dd176_62 : decode cX13_isReserved 62 = .ok (.istore_n 2, 1) := by decide +kernel
theorem dd176_63 : decode cX13_isReserved 63 = .ok (.goto (-61), 3) := by decide +kernel
theorem dd176_66 : decode cX13_isReserved 66 = .ok (.iconst 0, 1) := by decide +kernel
theorem dd176_67 : decode cX13_isReserved 67 = .ok (.ireturn, 1) := by decide +kernel
def f176_20 (n : Nat) (r2 : Int64 → Int32 → zσ → Option (Int32 × zσ)) : Nat → Int64 → Int32 → Int64 → zσ → Option (Int32 × zσ)
  | 0, _, _, _, _ => none
  | j + 1, x0, x3, x4, s =>
    if zin? x3 (zlen.getD 12 0) = true then
    if (zchr 12 (nx x3)) = (32 : Int32) then
    if x4 = x0 then
    some ((1 : Int32), s)
    else r2 x0 x3 s
    else if zin? x3 (zlen.getD 12 0) = true then
    zlet (((x4 <<< ((8 : Int32).toInt64 &&& 63)) ||| ((zchr 12 (nx x3)).toInt64))) fun v1 =>
    f176_20 n r2 j x0 (x3 + (1 : Int32)) v1 s
    else none
    else none
set_option maxRecDepth 20000 in
theorem f176_20_ok {n d : Nat} {r2 : Int64 → Int32 → zσ → Option (Int32 × zσ)} (hd : 4 ≤ d) (hr2 : ∀ (x0 : Int64) (x2 : Int32) (s : zσ) (v : Int32) (s2 : zσ), r2 x0 x2 s = some (v, s2) → ∀ {w : zσ} {fz : Bool} {L : Nat} {xs : Nat → Int32}, zGo (zX fz L xs) d q_176 (2, [(0, .long x0), (2, .int x2)], [], zmk w s, 0, 0) (some (.int v), zmk w s2, 0, 0)) : ∀ (j : Nat) (x0 : Int64) (x3 : Int32) (x4 : Int64) (s : zσ) (v : Int32) (s2 : zσ), f176_20 n r2 j x0 x3 x4 s = some (v, s2) → ∀ {w : zσ} {fz : Bool} {L : Nat} {xs : Nat → Int32}, zGo (zX fz L xs) d q_176 (20, [(0, .long x0), (3, .int x3), (4, .long x4)], [], zmk w s, 0, 0) (some (.int v), zmk w s2, 0, 0) := by
  obtain ⟨d, rfl⟩ : ∃ d0, d = d0 + 1 := ⟨d - 1, by omega⟩
  intro j
  induction j with
  | zero => intro x0 x3 x4 s v s2 h; cases h
  | succ j ih =>
    intro x0 x3 x4 s v s2 h w fz L xs
    rw [f176_20] at h
    refine zGo_s (pc' := 22) (st' := [.ref 12]) dd176_20 rfl ?_
    refine zGo_s (pc' := 23) (st' := [.int x3, .ref 12]) dd176_22 rfl ?_
    obtain ⟨hi, h⟩ := ochk h
    refine zCV1 (As := [.int x3]) (rest := []) (b := 12) (q' := q_4) dd176_23 rfl rfl (zrcv_s (by decide)) rfl rfl rfl (zGo_dm (g_charAt (d := 0) (by decide) hi) (by omega)) ?_
    refine zGo_s (pc' := 28) (st' := [.int (32 : Int32), .int (zchr 12 (nx x3))]) dd176_26 rfl ?_
    rcases oite h with ⟨hc, h⟩ | ⟨hc, h⟩
    · refine zIT dd176_28 rfl (kEqT hc) ?_
      refine zGo_s (pc' := 54) (st' := [.long x4]) dd176_52 rfl ?_
      refine zGo_s (pc' := 55) (st' := [.long x0, .long x4]) dd176_54 rfl ?_
      refine zGo_s (pc' := 56) (st' := [.int (lg_cmp x4 x0)]) dd176_55 rfl ?_
      rcases oite h with ⟨hc, h⟩ | ⟨hc, h⟩
      · refine zUF dd176_56 (kcNeF hc) ?_
        refine zGo_s (pc' := 60) (st' := [.int (1 : Int32)]) dd176_59 rfl ?_
        obtain ⟨rfl, rfl⟩ := oret h
        exact zGo_ret dd176_60 rfl rfl
      · refine zUT dd176_56 rfl (kcNeT hc) ?_
        refine zGo_s (pc' := 62) (st' := [.int x3]) dd176_61 rfl ?_
        refine zGo_s (pc' := 63) (st' := []) (lv' := [(2, .int x3), (0, .long x0), (3, .int x3), (4, .long x4)]) dd176_62 rfl ?_
        refine zGo_s (pc' := 2) (st' := []) dd176_63 rfl ?_
        exact zGo_lv (lv := [(0, .long x0), (2, .int x3)]) ⟨by simp, by simp, by simp⟩ (hr2 _ _ _ _ _ h)
    · refine zIF dd176_28 (kEqF hc) ?_
      refine zGo_s (pc' := 33) (st' := [.long x4]) dd176_31 rfl ?_
      refine zGo_s (pc' := 35) (st' := [.int (8 : Int32), .long x4]) dd176_33 rfl ?_
      refine zGo_s (pc' := 36) (st' := [.long (x4 <<< ((8 : Int32).toInt64 &&& 63))]) dd176_35 rfl ?_
      refine zGo_s (pc' := 38) (st' := [.ref 12, .long (x4 <<< ((8 : Int32).toInt64 &&& 63))]) dd176_36 rfl ?_
      refine zGo_s (pc' := 39) (st' := [.int x3, .ref 12, .long (x4 <<< ((8 : Int32).toInt64 &&& 63))]) dd176_38 rfl ?_
      obtain ⟨hi, h⟩ := ochk h
      refine zCV1 (As := [.int x3]) (rest := [.long (x4 <<< ((8 : Int32).toInt64 &&& 63))]) (b := 12) (q' := q_4) dd176_39 rfl rfl (zrcv_s (by decide)) rfl rfl rfl (zGo_dm (g_charAt (d := 0) (by decide) hi) (by omega)) ?_
      refine zGo_s (pc' := 43) (st' := [.long ((zchr 12 (nx x3)).toInt64), .long (x4 <<< ((8 : Int32).toInt64 &&& 63))]) dd176_42 rfl ?_
      refine zGo_s (pc' := 44) (st' := [.long ((x4 <<< ((8 : Int32).toInt64 &&& 63)) ||| ((zchr 12 (nx x3)).toInt64))]) dd176_43 rfl ?_
      obtain ⟨v1, e_v1, h⟩ := olet h
      refine zGo_is2 e_v1 dd176_44 (x' := (46, [(4, .long v1), (0, .long x0), (3, .int x3)], [], _, _, _)) rfl ?_
      refine zGo_s (pc' := 49) (st' := []) (lv' := [(3, .int (x3 + (1 : Int32))), (4, .long v1), (0, .long x0)]) dd176_46 rfl ?_
      refine zGo_s (pc' := 20) (st' := []) dd176_49 rfl ?_
      exact zGo_lv (lv := [(0, .long x0), (3, .int (x3 + (1 : Int32))), (4, .long v1)]) ⟨by simp, by simp, by simp⟩ (ih _ _ _ _ _ _ h)
def f176_2 (n : Nat) : Nat → Int64 → Int32 → zσ → Option (Int32 × zσ)
  | 0, _, _, _ => none
  | j + 1, x0, x2, s =>
    if (x2 + (1 : Int32)) < (Int32.ofNat (zlen.getD 12 0)) then
    zlet ((x2 + (1 : Int32))) fun v1 =>
    f176_20 n (f176_2 n j) n x0 v1 (0 : Int64) s
    else some ((0 : Int32), s)
set_option maxRecDepth 20000 in
theorem f176_2_ok {n d : Nat} (hd : 4 ≤ d) : ∀ (j : Nat) (x0 : Int64) (x2 : Int32) (s : zσ) (v : Int32) (s2 : zσ), f176_2 n j x0 x2 s = some (v, s2) → ∀ {w : zσ} {fz : Bool} {L : Nat} {xs : Nat → Int32}, zGo (zX fz L xs) d q_176 (2, [(0, .long x0), (2, .int x2)], [], zmk w s, 0, 0) (some (.int v), zmk w s2, 0, 0) := by
  obtain ⟨d, rfl⟩ : ∃ d0, d = d0 + 1 := ⟨d - 1, by omega⟩
  intro j
  induction j with
  | zero => intro x0 x2 s v s2 h; cases h
  | succ j ih =>
    intro x0 x2 s v s2 h w fz L xs
    rw [f176_2] at h
    refine zGo_s (pc' := 3) (st' := [.int x2]) dd176_2 rfl ?_
    refine zGo_s (pc' := 4) (st' := [.int (1 : Int32), .int x2]) dd176_3 rfl ?_
    refine zGo_s (pc' := 5) (st' := [.int (x2 + (1 : Int32))]) dd176_4 rfl ?_
    refine zGo_s (pc' := 7) (st' := [.ref 12, .int (x2 + (1 : Int32))]) dd176_5 rfl ?_
    refine zCV1 (As := []) (rest := [.int (x2 + (1 : Int32))]) (b := 12) (q' := q_2) dd176_7 rfl rfl (zrcv_s (by decide)) rfl rfl rfl (zGo_dm (g_length (d := 0) (by decide)) (by omega)) ?_
    rcases oite h with ⟨hc, h⟩ | ⟨hc, h⟩
    · refine zIF dd176_10 (kGeF hc) ?_
      refine zGo_s (pc' := 14) (st' := [.int x2]) dd176_13 rfl ?_
      refine zGo_s (pc' := 15) (st' := [.int (1 : Int32), .int x2]) dd176_14 rfl ?_
      refine zGo_s (pc' := 16) (st' := [.int (x2 + (1 : Int32))]) dd176_15 rfl ?_
      obtain ⟨v1, e_v1, h⟩ := olet h
      refine zGo_is1 e_v1 dd176_16 (x' := (17, [(3, .int v1), (0, .long x0), (2, .int x2)], [], _, _, _)) rfl ?_
      refine zGo_s (pc' := 18) (st' := [.long (0 : Int64)]) dd176_17 rfl ?_
      refine zGo_s (pc' := 20) (st' := []) (lv' := [(4, .long (0 : Int64)), (3, .int v1), (0, .long x0), (2, .int x2)]) dd176_18 rfl ?_
      exact zGo_lv (lv := [(0, .long x0), (3, .int v1), (4, .long (0 : Int64))]) ⟨by simp, by simp, by simp⟩ (f176_20_ok hd ih _ _ _ _ _ _ _ h)
    · refine zIT dd176_10 rfl (kGeT hc) ?_
      refine zGo_s (pc' := 67) (st' := [.int (0 : Int32)]) dd176_66 rfl ?_
      obtain ⟨rfl, rfl⟩ := oret h
      exact zGo_ret dd176_67 rfl rfl
def f176 (n : Nat) (x0 : Int64) (s : zσ) : Option (Int32 × zσ) :=
    f176_2 n n x0 (0 : Int32) s
set_option maxRecDepth 20000 in
theorem f176_ok {n d : Nat} {x0 : Int64} {s : zσ} {v : Int32} {s2 : zσ} (hd : 4 ≤ d) (h : f176 n x0 s = some (v, s2)) {w : zσ} {fz : Bool} {L : Nat} {xs : Nat → Int32} : zGo (zX fz L xs) d q_176 (0, [(0, .long x0)], [], zmk w s, 0, 0) (some (.int v), zmk w s2, 0, 0) := by
  obtain ⟨d, rfl⟩ : ∃ d0, d = d0 + 1 := ⟨d - 1, by omega⟩
  unfold f176 at h
  refine zGo_s (pc' := 1) (st' := [.int (0 : Int32)]) dd176_0 rfl ?_
  refine zGo_s (pc' := 2) (st' := []) (lv' := [(2, .int (0 : Int32)), (0, .long x0)]) dd176_1 rfl ?_
  exact zGo_lv (lv := [(0, .long x0), (2, .int (0 : Int32))]) ⟨by simp, by simp, by simp⟩ (f176_2_ok hd _ _ _ _ _ _ h)
/-! PHModel.isName()Z -/
theorem dd175_0 : decode cX13_isName 0 = .ok (.aload_n 0, 1) := by decide +kernel
theorem dd175_1 : decode cX13_isName 1 = .ok (.getfield 179, 3) := by decide +kernel
theorem dd175_4 : decode cX13_isName 4 = .ok (.iconst 1, 1) := by decide +kernel
theorem dd175_5 : decode cX13_isName 5 = .ok (.if_icmp .ne 17, 3) := by decide +kernel
theorem dd175_8 : decode cX13_isName 8 = .ok (.aload_n 0, 1) := by decide +kernel
theorem dd175_9 : decode cX13_isName 9 = .ok (.getfield 186, 3) := by decide +kernel
theorem dd175_12 : decode cX13_isName 12 = .ok (.invokestatic 237, 3) := by decide +kernel
theorem dd175_15 : decode cX13_isName 15 = .ok (.ifCond .ne 7, 3) := by decide +kernel
theorem dd175_18 : decode cX13_isName 18 = .ok (.iconst 1, 1) := by decide +kernel
theorem dd175_19 : decode cX13_isName 19 = .ok (.goto 4, 3) := by decide +kernel
theorem dd175_22 : decode cX13_isName 22 = .ok (.iconst 0, 1) := by decide +kernel
theorem dd175_23 : decode cX13_isName 23 = .ok (.ireturn, 1) := by decide +kernel
def f175 (n : Nat) (s : zσ) : Option (Int32 × zσ) :=
    if (s.1 1132 3) = (1 : Int32) then
    yb1 (f176 n (s.2.1 1132 6) s) fun v2 u1 =>
    if v2 = (0 : Int32) then
    some ((1 : Int32), u1)
    else some ((0 : Int32), u1)
    else some ((0 : Int32), s)
set_option maxRecDepth 20000 in
theorem f175_ok {n d : Nat} {s : zσ} {v : Int32} {s2 : zσ} (hd : 5 ≤ d) (h : f175 n s = some (v, s2)) {w : zσ} {fz : Bool} {L : Nat} {xs : Nat → Int32} : zGo (zX fz L xs) d q_175 (0, [(0, .ref 1132)], [], zmk w s, 0, 0) (some (.int v), zmk w s2, 0, 0) := by
  obtain ⟨d, rfl⟩ : ∃ d0, d = d0 + 1 := ⟨d - 1, by omega⟩
  unfold f175 at h
  refine zGo_s (pc' := 1) (st' := [.ref 1132]) dd175_0 rfl ?_
  refine mGI dd175_1 rfl rfl rfl rfl ?_
  refine zGo_s (pc' := 5) (st' := [.int (1 : Int32), .int (s.1 1132 3)]) dd175_4 rfl ?_
  rcases oite h with ⟨hc, h⟩ | ⟨hc, h⟩
  · refine zIF dd175_5 (kNeF hc) ?_
    refine zGo_s (pc' := 9) (st' := [.ref 1132]) dd175_8 rfl ?_
    refine mGJ dd175_9 rfl rfl rfl rfl ?_
    obtain ⟨v2, u1, hq, h⟩ := obnd h
    refine zCS1 (As := [.long (s.2.1 1132 6)]) (rest := []) (q' := q_176) dd175_12 rfl rfl rfl rfl rfl (f176_ok (d := d) (by omega)  hq) ?_
    rcases oite h with ⟨hc, h⟩ | ⟨hc, h⟩
    · refine zUF dd175_15 (kNeF hc) ?_
      refine zGo_s (pc' := 19) (st' := [.int (1 : Int32)]) dd175_18 rfl ?_
      refine zGo_s (pc' := 23) (st' := [.int (1 : Int32)]) dd175_19 rfl ?_
      obtain ⟨rfl, rfl⟩ := oret h
      exact zGo_ret dd175_23 rfl rfl
    · refine zUT dd175_15 rfl (kNeT hc) ?_
      refine zGo_s (pc' := 23) (st' := [.int (0 : Int32)]) dd175_22 rfl ?_
      obtain ⟨rfl, rfl⟩ := oret h
      exact zGo_ret dd175_23 rfl rfl
  · refine zIT dd175_5 rfl (kNeT hc) ?_
    refine zGo_s (pc' := 23) (st' := [.int (0 : Int32)]) dd175_22 rfl ?_
    obtain ⟨rfl, rfl⟩ := oret h
    exact zGo_ret dd175_23 rfl rfl
/-! PHModel.tell(I)I -/
theorem dd174_0 : decode cX13_tell 0 = .ok (.aload_n 0, 1) := by decide +kernel
theorem dd174_1 : decode cX13_tell 1 = .ok (.getfield 24, 3) := by decide +kernel
theorem dd174_4 : decode cX13_tell 4 = .ok (.astore_n 2, 1) := by decide +kernel
theorem dd174_5 : decode cX13_tell 5 = .ok (.aload_n 0, 1) := by decide +kernel
theorem dd174_6 : decode cX13_tell 6 = .ok (.invokevirtual 223, 3) := by decide +kernel
theorem dd174_9 : decode cX13_tell 9 = .ok (.ifCond .ne 5, 3) := by decide +kernel
theorem dd174_12 : decode cX13_tell 12 = .ok (.iconst 0, 1) := by decide +kernel
theorem dd174_13 : decode cX13_tell 13 = .ok (.ireturn, 1) := by decide +kernel
theorem dd174_14 : decode cX13_tell 14 = .ok (.aload_n 0, 1) := by decide +kernel
theorem dd174_15 : decode cX13_tell 15 = .ok (.invokevirtual 246, 3) := by decide +kernel
theorem dd174_18 : decode cX13_tell 18 = .ok (.ifCond .ne 9, 3) := by decide +kernel
theorem dd174_21 : decode cX13_tell 21 = .ok (.aload_n 0, 1) := by decide +kernel
theorem dd174_22 : decode cX13_tell 22 = .ok (.invokevirtual 234, 3) := by decide +kernel
theorem dd174_25 : decode cX13_tell 25 = .ok (.iconst 0, 1) := by decide +kernel
theorem dd174_26 : decode cX13_tell 26 = .ok (.ireturn, 1) := by decide +kernel
theorem dd174_27 : decode cX13_tell 27 = .ok (.iload_n 1, 1) := by decide +kernel
theorem dd174_28 : decode cX13_tell 28 = .ok (.iconst 5, 1) := by decide +kernel
theorem dd174_29 : decode cX13_tell 29 = .ok (.if_icmp .eq 9, 3) := by decide +kernel
theorem dd174_32 : decode cX13_tell 32 = .ok (.iload_n 1, 1) := by decide +kernel
theorem dd174_33 : decode cX13_tell 33 = .ok (.bipush 6, 2) := by decide +kernel
theorem dd174_35 : decode cX13_tell 35 = .ok (.if_icmp .ne 20, 3) := by decide +kernel
theorem dd174_38 : decode cX13_tell 38 = .ok (.aload_n 2, 1) := by decide +kernel
theorem dd174_39 : decode cX13_tell 39 = .ok (.getfield 270, 3) := by decide +kernel
theorem dd174_42 : decode cX13_tell 42 = .ok (.iconst 5, 1) := by decide +kernel
theorem dd174_43 : decode cX13_tell 43 = .ok (.iaload, 1) := by decide +kernel
theorem dd174_44 : decode cX13_tell 44 = .ok (.aload_n 2, 1) := by decide +kernel
theorem dd174_45 : decode cX13_tell 45 = .ok (.getfield 270, 3) := by decide +kernel
theorem dd174_48 : decode cX13_tell 48 = .ok (.bipush 6, 2) := by decide +kernel
theorem dd174_50 : decode cX13_tell 50 = .ok (.iaload, 1) := by decide +kernel
theorem dd174_51 : decode cX13_tell 51 = .ok (.iadd, 1) := by decide +kernel
theorem dd174_52 : decode cX13_tell 52 = .ok (.goto 9, 3) := by decide +kernel
theorem dd174_55 : decode cX13_tell 55 = .ok (.aload_n 2, 1) := by decide +kernel
theorem dd174_56 : decode cX13_tell 56 = .ok (.getfield 270, 3) := by decide +kernel
theorem dd174_59 : decode cX13_tell 59 = .ok (.iload_n 1, 1) := by decide +kernel
theorem dd174_60 : decode cX13_tell 60 = .ok (.iaload, 1) := by decide +kernel
theorem dd174_61 : decode cX13_tell 61 = .ok (.istore_n 3, 1) := by decide +kernel
theorem dd174_62 : decode cX13_tell 62 = .ok (.iload_n 3, 1) := by decide +kernel
theorem dd174_63 : decode cX13_tell 63 = .ok (.aload_n 0, 1) := by decide +kernel
theorem dd174_64 : decode cX13_tell 64 = .ok (.getfield 27, 3) := by decide +kernel
theorem dd174_67 : decode cX13_tell 67 = .ok (.iload_n 1, 1) := by decide +kernel
theorem dd174_68 : decode cX13_tell 68 = .ok (.iaload, 1) := by decide +kernel
theorem dd174_69 : decode cX13_tell 69 = .ok (.if_icmp .ne 14, 3) := by decide +kernel
theorem dd174_72 : decode cX13_tell 72 = .ok (.aload_n 0, 1) := by decide +kernel
theorem dd174_73 : decode cX13_tell 73 = .ok (.iconst 3, 1) := by decide +kernel
theorem dd174_74 : decode cX13_tell 74 = .ok (.aload_n 0, 1) := by decide +kernel
theorem dd174_75 : decode cX13_tell 75 = .ok (.getfield 176, 3) := by decide +kernel
theorem dd174_78 : decode cX13_tell 78 = .ok (.invokevirtual 215, 3) := by decide +kernel
theorem dd174_81 : decode cX13_tell 81 = .ok (.iconst 0, 1) := by decide +kernel
theorem dd174_82 : decode cX13_tell 82 = .ok (.ireturn, 1) := by decide +kernel
theorem dd174_83 : decode cX13_tell 83 = .ok (.iconst 0, 1) := by decide +kernel
theorem dd174_84 : decode cX13_tell 84 = .ok (.istore 4, 2) := by decide +kernel
theorem dd174_86 : decode cX13_tell 86 = .ok (.iload 4, 2) := by decide +kernel
theorem dd174_88 : decode cX13_tell 88 = .ok (.aload_n 2, 1) := by decide +kernel
theorem dd174_89 : decode cX13_tell 89 = .ok (.getfield 273, 3) := by decide +kernel
theorem dd174_92 : decode cX13_tell 92 = .ok (.if_icmp .ge 35, 3) := by decide +kernel
theorem dd174_95 : decode cX13_tell 95 = .ok (.aload_n 2, 1) := by decide +kernel
theorem dd174_96 : decode cX13_tell 96 = .ok (.getfield 276, 3) := by decide +kernel
theorem dd174_99 : decode cX13_tell 99 = .ok (.iload 4, 2) := by decide +kernel
theorem dd174_101 : decode cX13_tell 101 = .ok (.laload, 1) := by decide +kernel
theorem dd174_102 : decode cX13_tell 102 = .ok (.aload_n 0, 1) := by decide +kernel
theorem dd174_103 : decode cX13_tell 103 = .ok (.getfield 186, 3) := by decide +kernel
theorem dd174_106 : decode cX13_tell 106 = .ok (.lcmp, 1) := by decide +kernel
theorem dd174_107 : decode cX13_tell 107 = .ok (.ifCond .ne 14, 3) := by decide +kernel
theorem dd174_110 : decode cX13_tell 110 = .ok (.aload_n 0, 1) := by decide +kernel
theorem dd174_111 : decode cX13_tell 111 = .ok (.iconst 4, 1) := by decide +kernel
theorem dd174_112 : decode cX13_tell 112 = .ok (.aload_n 0, 1) := by decide +kernel
theorem dd174_113 : decode cX13_tell 113 = .ok (.getfield 176, 3) := by decide +kernel
theorem dd174_116 : decode cX13_tell 116 = .ok (.invokevirtual 215, 3) := by decide +kernel
theorem dd174_119 : decode cX13_tell 119 = .ok (.iconst 0, 1) := by decide +kernel
theorem dd174_120 : decode cX13_tell 120 = .ok (.ireturn, 1) := by decide +kernel
theorem dd174_121 : decode cX13_tell 121 = .ok (.iinc 4 1, 3) := by decide +kernel
theorem dd174_124 : decode cX13_tell 124 = .ok (.goto (-38), 3) := by decide +kernel
theorem dd174_127 : decode cX13_tell 127 = .ok (.aload_n 2, 1) := by decide +kernel
theorem dd174_128 : decode cX13_tell 128 = .ok (.getfield 276, 3) := by decide +kernel
theorem dd174_131 : decode cX13_tell 131 = .ok (.aload_n 2, 1) := by decide +kernel
theorem dd174_132 : decode cX13_tell 132 = .ok (.getfield 273, 3) := by decide +kernel
theorem dd174_135 : decode cX13_tell 135 = .ok (.aload_n 0, 1) := by decide +kernel
theorem dd174_136 : decode cX13_tell 136 = .ok (.getfield 186, 3) := by decide +kernel
theorem dd174_139 : decode cX13_tell 139 = .ok (.lastore, 1) := by decide +kernel
theorem dd174_140 : decode cX13_tell 140 = .ok (.aload_n 2, 1) := by decide +kernel
theorem dd174_141 : decode cX13_tell 141 = .ok (.getfield 279, 3) := by decide +kernel
theorem dd174_144 : decode cX13_tell 144 = .ok (.aload_n 2, 1) := by decide +kernel
theorem dd174_145 : decode cX13_tell 145 = .ok (.getfield 273, 3) := by decide +kernel
theorem dd174_148 : decode cX13_tell 148 = .ok (.iload_n 1, 1) := by decide +kernel
theorem dd174_149 : decode cX13_tell 149 = .ok (.iastore, 1) := by decide +kernel
theorem dd174_150 : decode cX13_tell 150 = .ok (.aload_n 2, 1) := by decide +kernel
theorem dd174_151 : decode cX13_tell 151 = .ok (.getfield 282, 3) := by decide +kernel
theorem dd174_154 : decode cX13_tell 154 = .ok (.aload_n 2, 1) := by decide +kernel
theorem dd174_155 : decode cX13_tell 155 = .ok (.getfield 273, 3) := by decide +kernel
theorem dd174_158 : decode cX13_tell 158 = .ok (.aload_n 2, 1) := by decide +kernel
theorem dd174_159 : decode cX13_tell 159 = .ok (.getfield 270, 3) := by decide +kernel
theorem dd174_162 : decode cX13_tell 162 = .ok (.iload_n 1, 1) := by decide +kernel
theorem dd174_163 : decode cX13_tell 163 = .ok (.iaload, 1) := by decide +kernel
theorem dd174_164 : decode cX13_tell 164 = .ok (.iastore, 1) := by decide +kernel
theorem dd174_165 : decode cX13_tell 165 = .ok (.aload_n 2, 1) := by decide +kernel
theorem dd174_166 : decode cX13_tell 166 = .ok (.dup, 1) := by decide +kernel
theorem dd174_167 : decode cX13_tell 167 = .ok (.getfield 273, 3) := by decide +kernel
theorem dd174_170 : decode cX13_tell 170 = .ok (.iconst 1, 1) := by decide +kernel
theorem dd174_171 : decode cX13_tell 171 = .ok (.iadd, 1) := by decide +kernel
theorem dd174_172 : decode cX13_tell 172 = .ok (.putfield 273, 3) := by decide +kernel
theorem dd174_175 : decode cX13_tell 175 = .ok (.aload_n 2, 1) := by decide +kernel
theorem dd174_176 : decode cX13_tell 176 = .ok (.getfield 270, 3) := by decide +kernel
theorem dd174_179 : decode cX13_tell 179 = .ok (.iload_n 1, 1) := by decide +kernel
theorem dd174_180 : decode cX13_tell 180 = .ok (.dup2, 1) := by decide +kernel
theorem dd174_181 : decode cX13_tell 181 = .ok (.iaload, 1) := by decide +kernel
theorem dd174_182 : decode cX13_tell 182 = .ok (.iconst 1, 1) := by decide +kernel
theorem dd174_183 : decode cX13_tell 183 = .ok (.iadd, 1) := by decide +kernel
theorem dd174_184 : decode cX13_tell 184 = .ok (.iastore, 1) := by decide +kernel
theorem dd174_185 : decode cX13_tell 185 = .ok (.aload_n 0, 1) := by decide +kernel
theorem dd174_186 : decode cX13_tell 186 = .ok (.invokevirtual 231, 3) := by decide +kernel
theorem dd174_189 : decode cX13_tell 189 = .ok (.aload_n 2, 1) := by decide +kernel
theorem dd174_190 : decode cX13_tell 190 = .ok (.getfield 270, 3) := by decide +kernel
theorem dd174_193 : decode cX13_tell 193 = .ok (.iload_n 1, 1) := by decide +kernel
theorem dd174_194 : decode cX13_tell 194 = .ok (.iaload, 1) := by decide +kernel
theorem dd174_195 : decode cX13_tell 195 = .ok (.iconst 1, 1) := by decide +kernel
theorem dd174_196 : decode cX13_tell 196 = .ok (.isub, 1) := by decide +kernel
theorem dd174_197 : decode cX13_tell 197 = .ok (.ireturn, 1) := by decide +kernel
def f174_86 (n : Nat) : Nat → Int32 → Nat → Int32 → zσ → Option (Int32 × zσ)
  | 0, _, _, _, _ => none
  | j + 1, x1, x2, x4, s =>
    if x4 < (s.1 x2 0) then
    if zin? x4 60 = true then
    if (s.2.1 (x2 + 1) (nx x4)) = (s.2.1 1132 6) then
    yb0 (f173 n (4 : Int32) (s.1 1132 4) s) fun u7 =>
    some ((0 : Int32), u7)
    else f174_86 n j x1 x2 (x4 + (1 : Int32)) s
    else none
    else if zin? (s.1 x2 0) 60 = true then
    zlet (sJ s (x2 + 1) (nx (s.1 x2 0)) (s.2.1 1132 6)) fun u1 =>
    if zin? (u1.1 x2 0) 60 = true then
    zlet (sI u1 (x2 + 2) (nx (u1.1 x2 0)) x1) fun u2 =>
    if zin? x1 9 = true then
    if zin? (u2.1 x2 0) 60 = true then
    zlet (sI u2 (x2 + 3) (nx (u2.1 x2 0)) (u2.1 (x2 + 4) (nx x1))) fun u3 =>
    zlet (sI u3 x2 0 ((u3.1 x2 0) + (1 : Int32))) fun u4 =>
    if zin? x1 9 = true then
    if zin? x1 9 = true then
    zlet (sI u4 (x2 + 4) (nx x1) ((u4.1 (x2 + 4) (nx x1)) + (1 : Int32))) fun u5 =>
    yb0 (f164 n u5) fun u6 =>
    if zin? x1 9 = true then
    some (((u6.1 (x2 + 4) (nx x1)) - (1 : Int32)), u6)
    else none
    else none
    else none
    else none
    else none
    else none
    else none
set_option maxRecDepth 20000 in
theorem f174_86_ok {n d : Nat} (hd : 8 ≤ d) : ∀ (j : Nat) (x1 : Int32) (x2 : Nat) (x4 : Int32) (s : zσ) (v : Int32) (s2 : zσ), zck 12 x2 = true → f174_86 n j x1 x2 x4 s = some (v, s2) → ∀ {w : zσ} {fz : Bool} {L : Nat} {xs : Nat → Int32}, zGo (zX fz L xs) d q_174 (86, [(0, .ref 1132), (1, .int x1), (2, .ref x2), (4, .int x4)], [], zmk w s, 0, 0) (some (.int v), zmk w s2, 0, 0) := by
  obtain ⟨d, rfl⟩ : ∃ d0, d = d0 + 1 := ⟨d - 1, by omega⟩
  intro j
  induction j with
  | zero => intro x1 x2 x4 s v s2 hx2 h; cases h
  | succ j ih =>
    intro x1 x2 x4 s v s2 hx2 h w fz L xs
    rw [f174_86] at h
    refine zGo_s (pc' := 88) (st' := [.int x4]) dd174_86 rfl ?_
    refine zGo_s (pc' := 89) (st' := [.ref x2, .int x4]) dd174_88 rfl ?_
    refine mGI dd174_89 rfl (ck12_s hx2).1 (ck12_s hx2).2 rfl ?_
    rcases oite h with ⟨hc, h⟩ | ⟨hc, h⟩
    · refine zIF dd174_92 (kGeF hc) ?_
      refine zGo_s (pc' := 96) (st' := [.ref x2]) dd174_95 rfl ?_
      refine mGF (e := (x2 + 1)) dd174_96 rfl (ck12_s hx2).1 (ck12_s hx2).2 rfl (cf12_1 hx2).1 ?_
      refine zGo_s (pc' := 101) (st' := [.int x4, .ref (x2 + 1)]) dd174_99 rfl ?_
      obtain ⟨hi, h⟩ := ochk h
      refine mLA dd174_101 (cf12_1 hx2).2.1 (cf12_1 hx2).2.2 hi ?_
      refine zGo_s (pc' := 103) (st' := [.ref 1132, .long (s.2.1 (x2 + 1) (nx x4))]) dd174_102 rfl ?_
      refine mGJ dd174_103 rfl rfl rfl rfl ?_
      refine zGo_s (pc' := 107) (st' := [.int (lg_cmp (s.2.1 (x2 + 1) (nx x4)) (s.2.1 1132 6))]) dd174_106 rfl ?_
      rcases oite h with ⟨hc, h⟩ | ⟨hc, h⟩
      · refine zUF dd174_107 (kcNeF hc) ?_
        refine zGo_s (pc' := 111) (st' := [.ref 1132]) dd174_110 rfl ?_
        refine zGo_s (pc' := 112) (st' := [.int (4 : Int32), .ref 1132]) dd174_111 rfl ?_
        refine zGo_s (pc' := 113) (st' := [.ref 1132, .int (4 : Int32), .ref 1132]) dd174_112 rfl ?_
        refine mGI dd174_113 rfl rfl rfl rfl ?_
        obtain ⟨u7, hq, h⟩ := obn0 h
        refine zCV0 (As := [.int (4 : Int32), .int (s.1 1132 4)]) (rest := []) (b := 1132) (q' := q_173) dd174_116 rfl rfl (rcv_m rfl rfl (by decide)) rfl rfl rfl (f173_ok (d := d) (by omega)  hq) ?_
        refine zGo_s (pc' := 120) (st' := [.int (0 : Int32)]) dd174_119 rfl ?_
        obtain ⟨rfl, rfl⟩ := oret h
        exact zGo_ret dd174_120 rfl rfl
      · refine zUT dd174_107 rfl (kcNeT hc) ?_
        refine zGo_s (pc' := 124) (st' := []) (lv' := [(4, .int (x4 + (1 : Int32))), (0, .ref 1132), (1, .int x1), (2, .ref x2)]) dd174_121 rfl ?_
        refine zGo_s (pc' := 86) (st' := []) dd174_124 rfl ?_
        exact zGo_lv (lv := [(0, .ref 1132), (1, .int x1), (2, .ref x2), (4, .int (x4 + (1 : Int32)))]) ⟨by simp, by simp, by simp⟩ (ih _ _ _ _ _ _ hx2 h)
    · refine zIT dd174_92 rfl (kGeT hc) ?_
      refine zGo_s (pc' := 128) (st' := [.ref x2]) dd174_127 rfl ?_
      refine mGF (e := (x2 + 1)) dd174_128 rfl (ck12_s hx2).1 (ck12_s hx2).2 rfl (cf12_1 hx2).1 ?_
      refine zGo_s (pc' := 132) (st' := [.ref x2, .ref (x2 + 1)]) dd174_131 rfl ?_
      refine mGI dd174_132 rfl (ck12_s hx2).1 (ck12_s hx2).2 rfl ?_
      refine zGo_s (pc' := 136) (st' := [.ref 1132, .int (s.1 x2 0), .ref (x2 + 1)]) dd174_135 rfl ?_
      refine mGJ dd174_136 rfl rfl rfl rfl ?_
      obtain ⟨hi, h⟩ := ochk h
      obtain ⟨u1, e_u1, h⟩ := olet h
      refine mLS dd174_139 (cf12_1 hx2).2.1 (cf12_1 hx2).2.2 hi e_u1 ?_
      refine zGo_s (pc' := 141) (st' := [.ref x2]) dd174_140 rfl ?_
      refine mGF (e := (x2 + 2)) dd174_141 rfl (ck12_s hx2).1 (ck12_s hx2).2 rfl (cf12_2 hx2).1 ?_
      refine zGo_s (pc' := 145) (st' := [.ref x2, .ref (x2 + 2)]) dd174_144 rfl ?_
      refine mGI dd174_145 rfl (ck12_s hx2).1 (ck12_s hx2).2 rfl ?_
      refine zGo_s (pc' := 149) (st' := [.int x1, .int (u1.1 x2 0), .ref (x2 + 2)]) dd174_148 rfl ?_
      obtain ⟨hi, h⟩ := ochk h
      obtain ⟨u2, e_u2, h⟩ := olet h
      refine mIS dd174_149 (cf12_2 hx2).2.1 (cf12_2 hx2).2.2 hi e_u2 ?_
      refine zGo_s (pc' := 151) (st' := [.ref x2]) dd174_150 rfl ?_
      refine mGF (e := (x2 + 3)) dd174_151 rfl (ck12_s hx2).1 (ck12_s hx2).2 rfl (cf12_3 hx2).1 ?_
      refine zGo_s (pc' := 155) (st' := [.ref x2, .ref (x2 + 3)]) dd174_154 rfl ?_
      refine mGI dd174_155 rfl (ck12_s hx2).1 (ck12_s hx2).2 rfl ?_
      refine zGo_s (pc' := 159) (st' := [.ref x2, .int (u2.1 x2 0), .ref (x2 + 3)]) dd174_158 rfl ?_
      refine mGF (e := (x2 + 4)) dd174_159 rfl (ck12_s hx2).1 (ck12_s hx2).2 rfl (cf12_4 hx2).1 ?_
      refine zGo_s (pc' := 163) (st' := [.int x1, .ref (x2 + 4), .int (u2.1 x2 0), .ref (x2 + 3)]) dd174_162 rfl ?_
      obtain ⟨hi, h⟩ := ochk h
      refine mIA dd174_163 (cf12_4 hx2).2.1 (cf12_4 hx2).2.2 hi ?_
      obtain ⟨hi, h⟩ := ochk h
      obtain ⟨u3, e_u3, h⟩ := olet h
      refine mIS dd174_164 (cf12_3 hx2).2.1 (cf12_3 hx2).2.2 hi e_u3 ?_
      refine zGo_s (pc' := 166) (st' := [.ref x2]) dd174_165 rfl ?_
      refine zGo_s (pc' := 167) (st' := [.ref x2, .ref x2]) dd174_166 rfl ?_
      refine mGI dd174_167 rfl (ck12_s hx2).1 (ck12_s hx2).2 rfl ?_
      refine zGo_s (pc' := 171) (st' := [.int (1 : Int32), .int (u3.1 x2 0), .ref x2]) dd174_170 rfl ?_
      refine zGo_s (pc' := 172) (st' := [.int ((u3.1 x2 0) + (1 : Int32)), .ref x2]) dd174_171 rfl ?_
      obtain ⟨u4, e_u4, h⟩ := olet h
      refine mPI dd174_172 rfl (ck12_s hx2).1 (ck12_s hx2).2 rfl rfl rfl e_u4 ?_
      refine zGo_s (pc' := 176) (st' := [.ref x2]) dd174_175 rfl ?_
      refine mGF (e := (x2 + 4)) dd174_176 rfl (ck12_s hx2).1 (ck12_s hx2).2 rfl (cf12_4 hx2).1 ?_
      refine zGo_s (pc' := 180) (st' := [.int x1, .ref (x2 + 4)]) dd174_179 rfl ?_
      refine zGo_s (pc' := 181) (st' := [.int x1, .ref (x2 + 4), .int x1, .ref (x2 + 4)]) dd174_180 rfl ?_
      obtain ⟨hi, h⟩ := ochk h
      refine mIA dd174_181 (cf12_4 hx2).2.1 (cf12_4 hx2).2.2 hi ?_
      refine zGo_s (pc' := 183) (st' := [.int (1 : Int32), .int (u4.1 (x2 + 4) (nx x1)), .int x1, .ref (x2 + 4)]) dd174_182 rfl ?_
      refine zGo_s (pc' := 184) (st' := [.int ((u4.1 (x2 + 4) (nx x1)) + (1 : Int32)), .int x1, .ref (x2 + 4)]) dd174_183 rfl ?_
      obtain ⟨hi, h⟩ := ochk h
      obtain ⟨u5, e_u5, h⟩ := olet h
      refine mIS dd174_184 (cf12_4 hx2).2.1 (cf12_4 hx2).2.2 hi e_u5 ?_
      refine zGo_s (pc' := 186) (st' := [.ref 1132]) dd174_185 rfl ?_
      obtain ⟨u6, hq, h⟩ := obn0 h
      refine zCV0 (As := []) (rest := []) (b := 1132) (q' := q_164) dd174_186 rfl rfl (rcv_m rfl rfl (by decide)) rfl rfl rfl (f164_ok (d := d) (by omega)  hq) ?_
      refine zGo_s (pc' := 190) (st' := [.ref x2]) dd174_189 rfl ?_
      refine mGF (e := (x2 + 4)) dd174_190 rfl (ck12_s hx2).1 (ck12_s hx2).2 rfl (cf12_4 hx2).1 ?_
      refine zGo_s (pc' := 194) (st' := [.int x1, .ref (x2 + 4)]) dd174_193 rfl ?_
      obtain ⟨hi, h⟩ := ochk h
      refine mIA dd174_194 (cf12_4 hx2).2.1 (cf12_4 hx2).2.2 hi ?_
      refine zGo_s (pc' := 196) (st' := [.int (1 : Int32), .int (u6.1 (x2 + 4) (nx x1))]) dd174_195 rfl ?_
      refine zGo_s (pc' := 197) (st' := [.int ((u6.1 (x2 + 4) (nx x1)) - (1 : Int32))]) dd174_196 rfl ?_
      obtain ⟨rfl, rfl⟩ := oret h
      exact zGo_ret dd174_197 rfl rfl
def f174_61 (n : Nat) (x1 : Int32) (x2 : Nat) (y0 : Int32) (s : zσ) : Option (Int32 × zσ) :=
    if zin? x1 9 = true then
    if y0 = (s.1 1206 (nx x1)) then
    yb0 (f173 n (3 : Int32) (s.1 1132 4) s) fun u1 =>
    some ((0 : Int32), u1)
    else f174_86 n n x1 x2 (0 : Int32) s
    else none
set_option maxRecDepth 20000 in
theorem f174_61_ok {n d : Nat} {x1 : Int32} {x2 : Nat} {y0 : Int32} {s : zσ} {v : Int32} {s2 : zσ} (hd : 8 ≤ d) (hx2 : zck 12 x2 = true) (h : f174_61 n x1 x2 y0 s = some (v, s2)) {w : zσ} {fz : Bool} {L : Nat} {xs : Nat → Int32} : zGo (zX fz L xs) d q_174 (61, [(0, .ref 1132), (1, .int x1), (2, .ref x2)], [.int y0], zmk w s, 0, 0) (some (.int v), zmk w s2, 0, 0) := by
  obtain ⟨d, rfl⟩ : ∃ d0, d = d0 + 1 := ⟨d - 1, by omega⟩
  unfold f174_61 at h
  refine zGo_s (pc' := 62) (st' := []) (lv' := [(3, .int y0), (0, .ref 1132), (1, .int x1), (2, .ref x2)]) dd174_61 rfl ?_
  refine zGo_s (pc' := 63) (st' := [.int y0]) dd174_62 rfl ?_
  refine zGo_s (pc' := 64) (st' := [.ref 1132, .int y0]) dd174_63 rfl ?_
  refine mGF (e := 1206) dd174_64 rfl rfl rfl rfl rfl ?_
  refine zGo_s (pc' := 68) (st' := [.int x1, .ref 1206, .int y0]) dd174_67 rfl ?_
  obtain ⟨hi, h⟩ := ochk h
  refine mIA dd174_68 rfl rfl hi ?_
  rcases oite h with ⟨hc, h⟩ | ⟨hc, h⟩
  · refine zIF dd174_69 (kNeF hc) ?_
    refine zGo_s (pc' := 73) (st' := [.ref 1132]) dd174_72 rfl ?_
    refine zGo_s (pc' := 74) (st' := [.int (3 : Int32), .ref 1132]) dd174_73 rfl ?_
    refine zGo_s (pc' := 75) (st' := [.ref 1132, .int (3 : Int32), .ref 1132]) dd174_74 rfl ?_
    refine mGI dd174_75 rfl rfl rfl rfl ?_
    obtain ⟨u1, hq, h⟩ := obn0 h
    refine zCV0 (As := [.int (3 : Int32), .int (s.1 1132 4)]) (rest := []) (b := 1132) (q' := q_173) dd174_78 rfl rfl (rcv_m rfl rfl (by decide)) rfl rfl rfl (f173_ok (d := d) (by omega)  hq) ?_
    refine zGo_s (pc' := 82) (st' := [.int (0 : Int32)]) dd174_81 rfl ?_
    obtain ⟨rfl, rfl⟩ := oret h
    exact zGo_ret dd174_82 rfl rfl
  · refine zIT dd174_69 rfl (kNeT hc) ?_
    refine zGo_s (pc' := 84) (st' := [.int (0 : Int32)]) dd174_83 rfl ?_
    refine zGo_s (pc' := 86) (st' := []) (lv' := [(4, .int (0 : Int32)), (3, .int y0), (0, .ref 1132), (1, .int x1), (2, .ref x2)]) dd174_84 rfl ?_
    exact zGo_lv (lv := [(0, .ref 1132), (1, .int x1), (2, .ref x2), (4, .int (0 : Int32))]) ⟨by simp, by simp, by simp⟩ (f174_86_ok hd _ _ _ _ _ _ _ hx2 h)
def f174_38 (n : Nat) (x1 : Int32) (x2 : Nat) (s : zσ) : Option (Int32 × zσ) :=
    if zin? (5 : Int32) 9 = true then
    if zin? (6 : Int32) 9 = true then
    f174_61 n x1 x2 ((s.1 (x2 + 4) (nx (5 : Int32))) + (s.1 (x2 + 4) (nx (6 : Int32)))) s
    else none
    else none
set_option maxRecDepth 20000 in
theorem f174_38_ok {n d : Nat} {x1 : Int32} {x2 : Nat} {s : zσ} {v : Int32} {s2 : zσ} (hd : 8 ≤ d) (hx2 : zck 12 x2 = true) (h : f174_38 n x1 x2 s = some (v, s2)) {w : zσ} {fz : Bool} {L : Nat} {xs : Nat → Int32} : zGo (zX fz L xs) d q_174 (38, [(0, .ref 1132), (1, .int x1), (2, .ref x2)], [], zmk w s, 0, 0) (some (.int v), zmk w s2, 0, 0) := by
  obtain ⟨d, rfl⟩ : ∃ d0, d = d0 + 1 := ⟨d - 1, by omega⟩
  unfold f174_38 at h
  refine zGo_s (pc' := 39) (st' := [.ref x2]) dd174_38 rfl ?_
  refine mGF (e := (x2 + 4)) dd174_39 rfl (ck12_s hx2).1 (ck12_s hx2).2 rfl (cf12_4 hx2).1 ?_
  refine zGo_s (pc' := 43) (st' := [.int (5 : Int32), .ref (x2 + 4)]) dd174_42 rfl ?_
  obtain ⟨hi, h⟩ := ochk h
  refine mIA dd174_43 (cf12_4 hx2).2.1 (cf12_4 hx2).2.2 hi ?_
  refine zGo_s (pc' := 45) (st' := [.ref x2, .int (s.1 (x2 + 4) (nx (5 : Int32)))]) dd174_44 rfl ?_
  refine mGF (e := (x2 + 4)) dd174_45 rfl (ck12_s hx2).1 (ck12_s hx2).2 rfl (cf12_4 hx2).1 ?_
  refine zGo_s (pc' := 50) (st' := [.int (6 : Int32), .ref (x2 + 4), .int (s.1 (x2 + 4) (nx (5 : Int32)))]) dd174_48 rfl ?_
  obtain ⟨hi, h⟩ := ochk h
  refine mIA dd174_50 (cf12_4 hx2).2.1 (cf12_4 hx2).2.2 hi ?_
  refine zGo_s (pc' := 52) (st' := [.int ((s.1 (x2 + 4) (nx (5 : Int32))) + (s.1 (x2 + 4) (nx (6 : Int32))))]) dd174_51 rfl ?_
  refine zGo_s (pc' := 61) (st' := [.int ((s.1 (x2 + 4) (nx (5 : Int32))) + (s.1 (x2 + 4) (nx (6 : Int32))))]) dd174_52 rfl ?_
  exact f174_61_ok hd hx2 h
def f174 (n : Nat) (x1 : Int32) (s : zσ) : Option (Int32 × zσ) :=
    zrd 12 (s.2.2 1132 12) fun a1 =>
    yb1 (f167 n s) fun v3 u2 =>
    if v3 = (0 : Int32) then
    some ((0 : Int32), u2)
    else yb1 (f175 n u2) fun v5 u4 =>
    if v5 = (0 : Int32) then
    yb0 (f172 n u4) fun u6 =>
    some ((0 : Int32), u6)
    else if x1 = (5 : Int32) then
    f174_38 n x1 a1 u4
    else if x1 = (6 : Int32) then
    f174_38 n x1 a1 u4
    else if zin? x1 9 = true then
    f174_61 n x1 a1 (u4.1 (a1 + 4) (nx x1)) u4
    else none
set_option maxRecDepth 20000 in
theorem f174_ok {n d : Nat} {x1 : Int32} {s : zσ} {v : Int32} {s2 : zσ} (hd : 8 ≤ d) (h : f174 n x1 s = some (v, s2)) {w : zσ} {fz : Bool} {L : Nat} {xs : Nat → Int32} : zGo (zX fz L xs) d q_174 (0, [(0, .ref 1132), (1, .int x1)], [], zmk w s, 0, 0) (some (.int v), zmk w s2, 0, 0) := by
  obtain ⟨d, rfl⟩ : ∃ d0, d = d0 + 1 := ⟨d - 1, by omega⟩
  unfold f174 at h
  refine zGo_s (pc' := 1) (st' := [.ref 1132]) dd174_0 rfl ?_
  obtain ⟨a1, e_a1, c_a1, h⟩ := ordd h
  refine mGR dd174_1 rfl rfl rfl rfl e_a1 ?_
  refine zGo_s (pc' := 5) (st' := []) (lv' := [(2, .ref a1), (0, .ref 1132), (1, .int x1)]) dd174_4 rfl ?_
  refine zGo_s (pc' := 6) (st' := [.ref 1132]) dd174_5 rfl ?_
  obtain ⟨v3, u2, hq, h⟩ := obnd h
  refine zCV1 (As := []) (rest := []) (b := 1132) (q' := q_167) dd174_6 rfl rfl (rcv_m rfl rfl (by decide)) rfl rfl rfl (f167_ok (d := d) (by omega)  hq) ?_
  rcases oite h with ⟨hc, h⟩ | ⟨hc, h⟩
  · refine zUF dd174_9 (kNeF hc) ?_
    refine zGo_s (pc' := 13) (st' := [.int (0 : Int32)]) dd174_12 rfl ?_
    obtain ⟨rfl, rfl⟩ := oret h
    exact zGo_ret dd174_13 rfl rfl
  · refine zUT dd174_9 rfl (kNeT hc) ?_
    refine zGo_s (pc' := 15) (st' := [.ref 1132]) dd174_14 rfl ?_
    obtain ⟨v5, u4, hq, h⟩ := obnd h
    refine zCV1 (As := []) (rest := []) (b := 1132) (q' := q_175) dd174_15 rfl rfl (rcv_m rfl rfl (by decide)) rfl rfl rfl (f175_ok (d := d) (by omega)  hq) ?_
    rcases oite h with ⟨hc, h⟩ | ⟨hc, h⟩
    · refine zUF dd174_18 (kNeF hc) ?_
      refine zGo_s (pc' := 22) (st' := [.ref 1132]) dd174_21 rfl ?_
      obtain ⟨u6, hq, h⟩ := obn0 h
      refine zCV0 (As := []) (rest := []) (b := 1132) (q' := q_172) dd174_22 rfl rfl (rcv_m rfl rfl (by decide)) rfl rfl rfl (f172_ok (d := d) (by omega)  hq) ?_
      refine zGo_s (pc' := 26) (st' := [.int (0 : Int32)]) dd174_25 rfl ?_
      obtain ⟨rfl, rfl⟩ := oret h
      exact zGo_ret dd174_26 rfl rfl
    · refine zUT dd174_18 rfl (kNeT hc) ?_
      refine zGo_s (pc' := 28) (st' := [.int x1]) dd174_27 rfl ?_
      refine zGo_s (pc' := 29) (st' := [.int (5 : Int32), .int x1]) dd174_28 rfl ?_
      rcases oite h with ⟨hc, h⟩ | ⟨hc, h⟩
      · refine zIT dd174_29 rfl (kEqT hc) ?_
        exact zGo_lv (lv := [(0, .ref 1132), (1, .int x1), (2, .ref a1)]) ⟨by simp, by simp, by simp⟩ (f174_38_ok hd c_a1 h)
      · refine zIF dd174_29 (kEqF hc) ?_
        refine zGo_s (pc' := 33) (st' := [.int x1]) dd174_32 rfl ?_
        refine zGo_s (pc' := 35) (st' := [.int (6 : Int32), .int x1]) dd174_33 rfl ?_
        rcases oite h with ⟨hc, h⟩ | ⟨hc, h⟩
        · refine zIF dd174_35 (kNeF hc) ?_
          exact zGo_lv (lv := [(0, .ref 1132), (1, .int x1), (2, .ref a1)]) ⟨by simp, by simp, by simp⟩ (f174_38_ok hd c_a1 h)
        · refine zIT dd174_35 rfl (kNeT hc) ?_
          refine zGo_s (pc' := 56) (st' := [.ref a1]) dd174_55 rfl ?_
          refine mGF (e := (a1 + 4)) dd174_56 rfl (ck12_s c_a1).1 (ck12_s c_a1).2 rfl (cf12_4 c_a1).1 ?_
          refine zGo_s (pc' := 60) (st' := [.int x1, .ref (a1 + 4)]) dd174_59 rfl ?_
          obtain ⟨hi, h⟩ := ochk h
          refine mIA dd174_60 (cf12_4 c_a1).2.1 (cf12_4 c_a1).2.2 hi ?_
          exact zGo_lv (lv := [(0, .ref 1132), (1, .int x1), (2, .ref a1)]) ⟨by simp, by simp, by simp⟩ (f174_61_ok hd c_a1 h)
/-! PHModel.isSign(C)Z -/
theorem dd177_0 : decode cX13_isSign 0 = .ok (.aload_n 0, 1) := by decide +kernel
theorem dd177_1 : decode cX13_isSign 1 = .ok (.getfield 179, 3) := by decide +kernel
theorem dd177_4 : decode cX13_isSign 4 = .ok (.iconst 3, 1) := by decide +kernel
theorem dd177_5 : decode cX13_isSign 5 = .ok (.if_icmp .ne 15, 3) := by decide +kernel
theorem dd177_8 : decode cX13_isSign 8 = .ok (.aload_n 0, 1) := by decide +kernel
theorem dd177_9 : decode cX13_isSign 9 = .ok (.getfield 204, 3) := by decide +kernel
theorem dd177_12 : decode cX13_isSign 12 = .ok (.iload_n 1, 1) := by decide +kernel
theorem dd177_13 : decode cX13_isSign 13 = .ok (.if_icmp .ne 7, 3) := by decide +kernel
theorem dd177_16 : decode cX13_isSign 16 = .ok (.iconst 1, 1) := by decide +kernel
theorem dd177_17 : decode cX13_isSign 17 = .ok (.goto 4, 3) := by decide +kernel
theorem dd177_20 : decode cX13_isSign 20 = .ok (.iconst 0, 1) := by decide +kernel
theorem dd177_21 : decode cX13_isSign 21 = .ok (.ireturn, 1) := by decide +kernel
def f177 (n : Nat) (x1 : Int32) (s : zσ) : Option (Int32 × zσ) :=
    if (s.1 1132 3) = (3 : Int32) then
    if (s.1 1132 8) = x1 then
    some ((1 : Int32), s)
    else some ((0 : Int32), s)
    else some ((0 : Int32), s)
set_option maxRecDepth 20000 in
theorem f177_ok {n d : Nat} {x1 : Int32} {s : zσ} {v : Int32} {s2 : zσ} (hd : 0 ≤ d) (h : f177 n x1 s = some (v, s2)) {w : zσ} {fz : Bool} {L : Nat} {xs : Nat → Int32} : zGo (zX fz L xs) d q_177 (0, [(0, .ref 1132), (1, .int x1)], [], zmk w s, 0, 0) (some (.int v), zmk w s2, 0, 0) := by
  unfold f177 at h
  refine zGo_s (pc' := 1) (st' := [.ref 1132]) dd177_0 rfl ?_
  refine mGI dd177_1 rfl rfl rfl rfl ?_
  refine zGo_s (pc' := 5) (st' := [.int (3 : Int32), .int (s.1 1132 3)]) dd177_4 rfl ?_
  rcases oite h with ⟨hc, h⟩ | ⟨hc, h⟩
  · refine zIF dd177_5 (kNeF hc) ?_
    refine zGo_s (pc' := 9) (st' := [.ref 1132]) dd177_8 rfl ?_
    refine mGI dd177_9 rfl rfl rfl rfl ?_
    refine zGo_s (pc' := 13) (st' := [.int x1, .int (s.1 1132 8)]) dd177_12 rfl ?_
    rcases oite h with ⟨hc, h⟩ | ⟨hc, h⟩
    · refine zIF dd177_13 (kNeF hc) ?_
      refine zGo_s (pc' := 17) (st' := [.int (1 : Int32)]) dd177_16 rfl ?_
      refine zGo_s (pc' := 21) (st' := [.int (1 : Int32)]) dd177_17 rfl ?_
      obtain ⟨rfl, rfl⟩ := oret h
      exact zGo_ret dd177_21 rfl rfl
    · refine zIT dd177_13 rfl (kNeT hc) ?_
      refine zGo_s (pc' := 21) (st' := [.int (0 : Int32)]) dd177_20 rfl ?_
      obtain ⟨rfl, rfl⟩ := oret h
      exact zGo_ret dd177_21 rfl rfl
  · refine zIT dd177_5 rfl (kNeT hc) ?_
    refine zGo_s (pc' := 21) (st' := [.int (0 : Int32)]) dd177_20 rfl ?_
    obtain ⟨rfl, rfl⟩ := oret h
    exact zGo_ret dd177_21 rfl rfl
/-! PHModel.numberOf(II)I -/
theorem dd178_0 : decode cX13_numberOf 0 = .ok (.aload_n 0, 1) := by decide +kernel
theorem dd178_1 : decode cX13_numberOf 1 = .ok (.invokevirtual 223, 3) := by decide +kernel
theorem dd178_4 : decode cX13_numberOf 4 = .ok (.ifCond .ne 5, 3) := by decide +kernel
theorem dd178_7 : decode cX13_numberOf 7 = .ok (.iconst 0, 1) := by decide +kernel
theorem dd178_8 : decode cX13_numberOf 8 = .ok (.ireturn, 1) := by decide +kernel
theorem dd178_9 : decode cX13_numberOf 9 = .ok (.aload_n 0, 1) := by decide +kernel
theorem dd178_10 : decode cX13_numberOf 10 = .ok (.getfield 179, 3) := by decide +kernel
theorem dd178_13 : decode cX13_numberOf 13 = .ok (.iconst 2, 1) := by decide +kernel
theorem dd178_14 : decode cX13_numberOf 14 = .ok (.if_icmp .eq 9, 3) := by decide +kernel
theorem dd178_17 : decode cX13_numberOf 17 = .ok (.aload_n 0, 1) := by decide +kernel
theorem dd178_18 : decode cX13_numberOf 18 = .ok (.invokevirtual 234, 3) := by decide +kernel
theorem dd178_21 : decode cX13_numberOf 21 = .ok (.iconst 0, 1) := by decide +kernel
theorem dd178_22 : decode cX13_numberOf 22 = .ok (.ireturn, 1) := by decide +kernel
theorem dd178_23 : decode cX13_numberOf 23 = .ok (.aload_n 0, 1) := by decide +kernel
theorem dd178_24 : decode cX13_numberOf 24 = .ok (.getfield 193, 3) := by decide +kernel
theorem dd178_27 : decode cX13_numberOf 27 = .ok (.iload_n 1, 1) := by decide +kernel
theorem dd178_28 : decode cX13_numberOf 28 = .ok (.if_icmp .lt 11, 3) := by decide +kernel
theorem dd178_31 : decode cX13_numberOf 31 = .ok (.aload_n 0, 1) := by decide +kernel
theorem dd178_32 : decode cX13_numberOf 32 = .ok (.getfield 193, 3) := by decide +kernel
theorem dd178_35 : decode cX13_numberOf 35 = .ok (.iload_n 2, 1) := by decide +kernel
theorem dd178_36 : decode cX13_numberOf 36 = .ok (.if_icmp .le 12, 3) := by decide +kernel
theorem dd178_39 : decode cX13_numberOf 39 = .ok (.aload_n 0, 1) := by decide +kernel
theorem dd178_40 : decode cX13_numberOf 40 = .ok (.iconst 5, 1) := by decide +kernel
theorem dd178_41 : decode cX13_numberOf 41 = .ok (.aload_n 0, 1) := by decide +kernel
theorem dd178_42 : decode cX13_numberOf 42 = .ok (.getfield 176, 3) := by decide +kernel
theorem dd178_45 : decode cX13_numberOf 45 = .ok (.invokevirtual 215, 3) := by decide +kernel
theorem dd178_48 : decode cX13_numberOf 48 = .ok (.aload_n 0, 1) := by decide +kernel
theorem dd178_49 : decode cX13_numberOf 49 = .ok (.getfield 193, 3) := by decide +kernel
theorem dd178_52 : decode cX13_numberOf 52 = .ok (.istore_n 3, 1) := by decide +kernel
theorem dd178_53 : decode cX13_numberOf 53 = .ok (.aload_n 0, 1) := by decide +kernel
theorem dd178_54 : decode cX13_numberOf 54 = .ok (.invokevirtual 231, 3) := by decide +kernel
theorem dd178_57 : decode cX13_numberOf 57 = .ok (.iload_n 3, 1) := by decide +kernel
theorem dd178_58 : decode cX13_numberOf 58 = .ok (.ireturn, 1) := by decide +kernel
def f178_48 (n : Nat) (s : zσ) : Option (Int32 × zσ) :=
    zlet ((s.1 1132 7)) fun v1 =>
    yb0 (f164 n s) fun u2 =>
    some (v1, u2)
set_option maxRecDepth 20000 in
theorem f178_48_ok {n d : Nat} {s : zσ} {v : Int32} {s2 : zσ} (hd : 8 ≤ d) (h : f178_48 n s = some (v, s2)) {w : zσ} {fz : Bool} {L : Nat} {xs : Nat → Int32} : zGo (zX fz L xs) d q_178 (48, [(0, .ref 1132)], [], zmk w s, 0, 0) (some (.int v), zmk w s2, 0, 0) := by
  obtain ⟨d, rfl⟩ : ∃ d0, d = d0 + 1 := ⟨d - 1, by omega⟩
  unfold f178_48 at h
  refine zGo_s (pc' := 49) (st' := [.ref 1132]) dd178_48 rfl ?_
  refine mGI dd178_49 rfl rfl rfl rfl ?_
  obtain ⟨v1, e_v1, h⟩ := olet h
  refine zGo_is1 e_v1 dd178_52 (x' := (53, [(3, .int v1), (0, .ref 1132)], [], _, _, _)) rfl ?_
  refine zGo_s (pc' := 54) (st' := [.ref 1132]) dd178_53 rfl ?_
  obtain ⟨u2, hq, h⟩ := obn0 h
  refine zCV0 (As := []) (rest := []) (b := 1132) (q' := q_164) dd178_54 rfl rfl (rcv_m rfl rfl (by decide)) rfl rfl rfl (f164_ok (d := d) (by omega)  hq) ?_
  refine zGo_s (pc' := 58) (st' := [.int v1]) dd178_57 rfl ?_
  obtain ⟨rfl, rfl⟩ := oret h
  exact zGo_ret dd178_58 rfl rfl
def f178_39 (n : Nat) (s : zσ) : Option (Int32 × zσ) :=
    yb0 (f173 n (5 : Int32) (s.1 1132 4) s) fun u1 =>
    f178_48 n u1
set_option maxRecDepth 20000 in
theorem f178_39_ok {n d : Nat} {s : zσ} {v : Int32} {s2 : zσ} (hd : 8 ≤ d) (h : f178_39 n s = some (v, s2)) {w : zσ} {fz : Bool} {L : Nat} {xs : Nat → Int32} : zGo (zX fz L xs) d q_178 (39, [(0, .ref 1132)], [], zmk w s, 0, 0) (some (.int v), zmk w s2, 0, 0) := by
  obtain ⟨d, rfl⟩ : ∃ d0, d = d0 + 1 := ⟨d - 1, by omega⟩
  unfold f178_39 at h
  refine zGo_s (pc' := 40) (st' := [.ref 1132]) dd178_39 rfl ?_
  refine zGo_s (pc' := 41) (st' := [.int (5 : Int32), .ref 1132]) dd178_40 rfl ?_
  refine zGo_s (pc' := 42) (st' := [.ref 1132, .int (5 : Int32), .ref 1132]) dd178_41 rfl ?_
  refine mGI dd178_42 rfl rfl rfl rfl ?_
  obtain ⟨u1, hq, h⟩ := obn0 h
  refine zCV0 (As := [.int (5 : Int32), .int (s.1 1132 4)]) (rest := []) (b := 1132) (q' := q_173) dd178_45 rfl rfl (rcv_m rfl rfl (by decide)) rfl rfl rfl (f173_ok (d := d) (by omega)  hq) ?_
  exact f178_48_ok hd h
def f178 (n : Nat) (x1 : Int32) (x2 : Int32) (s : zσ) : Option (Int32 × zσ) :=
    yb1 (f167 n s) fun v2 u1 =>
    if v2 = (0 : Int32) then
    some ((0 : Int32), u1)
    else if (u1.1 1132 3) = (2 : Int32) then
    if (u1.1 1132 7) < x1 then
    f178_39 n u1
    else if x2 < (u1.1 1132 7) then
    f178_39 n u1
    else f178_48 n u1
    else yb0 (f172 n u1) fun u3 =>
    some ((0 : Int32), u3)
set_option maxRecDepth 20000 in
theorem f178_ok {n d : Nat} {x1 : Int32} {x2 : Int32} {s : zσ} {v : Int32} {s2 : zσ} (hd : 8 ≤ d) (h : f178 n x1 x2 s = some (v, s2)) {w : zσ} {fz : Bool} {L : Nat} {xs : Nat → Int32} : zGo (zX fz L xs) d q_178 (0, [(0, .ref 1132), (1, .int x1), (2, .int x2)], [], zmk w s, 0, 0) (some (.int v), zmk w s2, 0, 0) := by
  obtain ⟨d, rfl⟩ : ∃ d0, d = d0 + 1 := ⟨d - 1, by omega⟩
  unfold f178 at h
  refine zGo_s (pc' := 1) (st' := [.ref 1132]) dd178_0 rfl ?_
  obtain ⟨v2, u1, hq, h⟩ := obnd h
  refine zCV1 (As := []) (rest := []) (b := 1132) (q' := q_167) dd178_1 rfl rfl (rcv_m rfl rfl (by decide)) rfl rfl rfl (f167_ok (d := d) (by omega)  hq) ?_
  rcases oite h with ⟨hc, h⟩ | ⟨hc, h⟩
  · refine zUF dd178_4 (kNeF hc) ?_
    refine zGo_s (pc' := 8) (st' := [.int (0 : Int32)]) dd178_7 rfl ?_
    obtain ⟨rfl, rfl⟩ := oret h
    exact zGo_ret dd178_8 rfl rfl
  · refine zUT dd178_4 rfl (kNeT hc) ?_
    refine zGo_s (pc' := 10) (st' := [.ref 1132]) dd178_9 rfl ?_
    refine mGI dd178_10 rfl rfl rfl rfl ?_
    refine zGo_s (pc' := 14) (st' := [.int (2 : Int32), .int (u1.1 1132 3)]) dd178_13 rfl ?_
    rcases oite h with ⟨hc, h⟩ | ⟨hc, h⟩
    · refine zIT dd178_14 rfl (kEqT hc) ?_
      refine zGo_s (pc' := 24) (st' := [.ref 1132]) dd178_23 rfl ?_
      refine mGI dd178_24 rfl rfl rfl rfl ?_
      refine zGo_s (pc' := 28) (st' := [.int x1, .int (u1.1 1132 7)]) dd178_27 rfl ?_
      rcases oite h with ⟨hc, h⟩ | ⟨hc, h⟩
      · refine zIT dd178_28 rfl (kLtT hc) ?_
        exact zGo_lv (lv := [(0, .ref 1132)]) ⟨by simp, by simp, by simp⟩ (f178_39_ok hd h)
      · refine zIF dd178_28 (kLtF hc) ?_
        refine zGo_s (pc' := 32) (st' := [.ref 1132]) dd178_31 rfl ?_
        refine mGI dd178_32 rfl rfl rfl rfl ?_
        refine zGo_s (pc' := 36) (st' := [.int x2, .int (u1.1 1132 7)]) dd178_35 rfl ?_
        rcases oite h with ⟨hc, h⟩ | ⟨hc, h⟩
        · refine zIF dd178_36 (kLeF hc) ?_
          exact zGo_lv (lv := [(0, .ref 1132)]) ⟨by simp, by simp, by simp⟩ (f178_39_ok hd h)
        · refine zIT dd178_36 rfl (kLeT hc) ?_
          exact zGo_lv (lv := [(0, .ref 1132)]) ⟨by simp, by simp, by simp⟩ (f178_48_ok hd h)
    · refine zIF dd178_14 (kEqF hc) ?_
      refine zGo_s (pc' := 18) (st' := [.ref 1132]) dd178_17 rfl ?_
      obtain ⟨u3, hq, h⟩ := obn0 h
      refine zCV0 (As := []) (rest := []) (b := 1132) (q' := q_172) dd178_18 rfl rfl (rcv_m rfl rfl (by decide)) rfl rfl rfl (f172_ok (d := d) (by omega)  hq) ?_
      refine zGo_s (pc' := 22) (st' := [.int (0 : Int32)]) dd178_21 rfl ?_
      obtain ⟨rfl, rfl⟩ := oret h
      exact zGo_ret dd178_22 rfl rfl
/-! PHModel.want(C)V -/
theorem dd179_0 : decode cX13_want 0 = .ok (.aload_n 0, 1) := by decide +kernel
theorem dd179_1 : decode cX13_want 1 = .ok (.invokevirtual 223, 3) := by decide +kernel
theorem dd179_4 : decode cX13_want 4 = .ok (.ifCond .eq 22, 3) := by decide +kernel
theorem dd179_7 : decode cX13_want 7 = .ok (.aload_n 0, 1) := by decide +kernel
theorem dd179_8 : decode cX13_want 8 = .ok (.iload_n 1, 1) := by decide +kernel
theorem dd179_9 : decode cX13_want 9 = .ok (.invokevirtual 227, 3) := by decide +kernel
theorem dd179_12 : decode cX13_want 12 = .ok (.ifCond .eq 10, 3) := by decide +kernel
theorem dd179_15 : decode cX13_want 15 = .ok (.aload_n 0, 1) := by decide +kernel
theorem dd179_16 : decode cX13_want 16 = .ok (.invokevirtual 231, 3) := by decide +kernel
theorem dd179_19 : decode cX13_want 19 = .ok (.goto 7, 3) := by decide +kernel
theorem dd179_22 : decode cX13_want 22 = .ok (.aload_n 0, 1) := by decide +kernel
theorem dd179_23 : decode cX13_want 23 = .ok (.invokevirtual 234, 3) := by decide +kernel
theorem dd179_26 : decode cX13_want 26 = .ok (.return_, 1) := by decide +kernel
def f179 (n : Nat) (x1 : Int32) (s : zσ) : Option zσ :=
    yb1 (f167 n s) fun v2 u1 =>
    if v2 = (0 : Int32) then
    some u1
    else yb1 (f177 n x1 u1) fun v4 u3 =>
    if v4 = (0 : Int32) then
    yb0 (f172 n u3) fun u5 =>
    some u5
    else yb0 (f164 n u3) fun u6 =>
    some u6
set_option maxRecDepth 20000 in
theorem f179_ok {n d : Nat} {x1 : Int32} {s : zσ} {s2 : zσ} (hd : 8 ≤ d) (h : f179 n x1 s = some s2) {w : zσ} {fz : Bool} {L : Nat} {xs : Nat → Int32} : zGo (zX fz L xs) d q_179 (0, [(0, .ref 1132), (1, .int x1)], [], zmk w s, 0, 0) (none, zmk w s2, 0, 0) := by
  obtain ⟨d, rfl⟩ : ∃ d0, d = d0 + 1 := ⟨d - 1, by omega⟩
  unfold f179 at h
  refine zGo_s (pc' := 1) (st' := [.ref 1132]) dd179_0 rfl ?_
  obtain ⟨v2, u1, hq, h⟩ := obnd h
  refine zCV1 (As := []) (rest := []) (b := 1132) (q' := q_167) dd179_1 rfl rfl (rcv_m rfl rfl (by decide)) rfl rfl rfl (f167_ok (d := d) (by omega)  hq) ?_
  rcases oite h with ⟨hc, h⟩ | ⟨hc, h⟩
  · refine zUT dd179_4 rfl (kEqT hc) ?_
    obtain rfl := ore0 h
    exact zGo_ret dd179_26 rfl rfl
  · refine zUF dd179_4 (kEqF hc) ?_
    refine zGo_s (pc' := 8) (st' := [.ref 1132]) dd179_7 rfl ?_
    refine zGo_s (pc' := 9) (st' := [.int x1, .ref 1132]) dd179_8 rfl ?_
    obtain ⟨v4, u3, hq, h⟩ := obnd h
    refine zCV1 (As := [.int x1]) (rest := []) (b := 1132) (q' := q_177) dd179_9 rfl rfl (rcv_m rfl rfl (by decide)) rfl rfl rfl (f177_ok (d := d) (by omega)  hq) ?_
    rcases oite h with ⟨hc, h⟩ | ⟨hc, h⟩
    · refine zUT dd179_12 rfl (kEqT hc) ?_
      refine zGo_s (pc' := 23) (st' := [.ref 1132]) dd179_22 rfl ?_
      obtain ⟨u5, hq, h⟩ := obn0 h
      refine zCV0 (As := []) (rest := []) (b := 1132) (q' := q_172) dd179_23 rfl rfl (rcv_m rfl rfl (by decide)) rfl rfl rfl (f172_ok (d := d) (by omega)  hq) ?_
      obtain rfl := ore0 h
      exact zGo_ret dd179_26 rfl rfl
    · refine zUF dd179_12 (kEqF hc) ?_
      refine zGo_s (pc' := 16) (st' := [.ref 1132]) dd179_15 rfl ?_
      obtain ⟨u6, hq, h⟩ := obn0 h
      refine zCV0 (As := []) (rest := []) (b := 1132) (q' := q_164) dd179_16 rfl rfl (rcv_m rfl rfl (by decide)) rfl rfl rfl (f164_ok (d := d) (by omega)  hq) ?_
      refine zGo_s (pc' := 26) (st' := []) dd179_19 rfl ?_
      obtain rfl := ore0 h
      exact zGo_ret dd179_26 rfl rfl
/-! PHModel.parameters(I)V -/
theorem dd180_0 : decode cX13_parameters 0 = .ok (.aload_n 0, 1) := by decide +kernel
theorem dd180_1 : decode cX13_parameters 1 = .ok (.getfield 24, 3) := by decide +kernel
theorem dd180_4 : decode cX13_parameters 4 = .ok (.astore_n 2, 1) := by decide +kernel
theorem dd180_5 : decode cX13_parameters 5 = .ok (.iconst 0, 1) := by decide +kernel
theorem dd180_6 : decode cX13_parameters 6 = .ok (.istore_n 3, 1) := by decide +kernel
theorem dd180_7 : decode cX13_parameters 7 = .ok (.aload_n 0, 1) := by decide +kernel
theorem dd180_8 : decode cX13_parameters 8 = .ok (.invokevirtual 223, 3) := by decide +kernel
theorem dd180_11 : decode cX13_parameters 11 = .ok (.ifCond .eq 16, 3) := by decide +kernel
theorem dd180_14 : decode cX13_parameters 14 = .ok (.aload_n 0, 1) := by decide +kernel
theorem dd180_15 : decode cX13_parameters 15 = .ok (.bipush 41, 2) := by decide +kernel
theorem dd180_17 : decode cX13_parameters 17 = .ok (.invokevirtual 227, 3) := by decide +kernel
theorem dd180_20 : decode cX13_parameters 20 = .ok (.ifCond .ne 7, 3) := by decide +kernel
theorem dd180_23 : decode cX13_parameters 23 = .ok (.iconst 1, 1) := by decide +kernel
theorem dd180_24 : decode cX13_parameters 24 = .ok (.goto 4, 3) := by decide +kernel
theorem dd180_27 : decode cX13_parameters 27 = .ok (.iconst 0, 1) := by decide +kernel
theorem dd180_28 : decode cX13_parameters 28 = .ok (.istore 4, 2) := by decide +kernel
theorem dd180_30 : decode cX13_parameters 30 = .ok (.iload 4, 2) := by decide +kernel
theorem dd180_32 : decode cX13_parameters 32 = .ok (.ifCond .eq 115, 3) := by decide +kernel
theorem dd180_35 : decode cX13_parameters 35 = .ok (.aload_n 0, 1) := by decide +kernel
theorem dd180_36 : decode cX13_parameters 36 = .ok (.invokevirtual 246, 3) := by decide +kernel
theorem dd180_39 : decode cX13_parameters 39 = .ok (.ifCond .ne 8, 3) := by decide +kernel
theorem dd180_42 : decode cX13_parameters 42 = .ok (.aload_n 0, 1) := by decide +kernel
theorem dd180_43 : decode cX13_parameters 43 = .ok (.invokevirtual 234, 3) := by decide +kernel
theorem dd180_46 : decode cX13_parameters 46 = .ok (.return_, 1) := by decide +kernel
theorem dd180_47 : decode cX13_parameters 47 = .ok (.iload_n 3, 1) := by decide +kernel
theorem dd180_48 : decode cX13_parameters 48 = .ok (.iconst 3, 1) := by decide +kernel
theorem dd180_49 : decode cX13_parameters 49 = .ok (.if_icmp .ne 13, 3) := by decide +kernel
theorem dd180_52 : decode cX13_parameters 52 = .ok (.aload_n 0, 1) := by decide +kernel
theorem dd180_53 : decode cX13_parameters 53 = .ok (.iconst 3, 1) := by decide +kernel
theorem dd180_54 : decode cX13_parameters 54 = .ok (.aload_n 0, 1) := by decide +kernel
theorem dd180_55 : decode cX13_parameters 55 = .ok (.getfield 176, 3) := by decide +kernel
theorem dd180_58 : decode cX13_parameters 58 = .ok (.invokevirtual 215, 3) := by decide +kernel
theorem dd180_61 : decode cX13_parameters 61 = .ok (.return_, 1) := by decide +kernel
theorem dd180_62 : decode cX13_parameters 62 = .ok (.iconst 0, 1) := by decide +kernel
theorem dd180_63 : decode cX13_parameters 63 = .ok (.istore 5, 2) := by decide +kernel
theorem dd180_65 : decode cX13_parameters 65 = .ok (.iload 5, 2) := by decide +kernel
theorem dd180_67 : decode cX13_parameters 67 = .ok (.iload_n 3, 1) := by decide +kernel
theorem dd180_68 : decode cX13_parameters 68 = .ok (.if_icmp .ge 38, 3) := by decide +kernel
theorem dd180_71 : decode cX13_parameters 71 = .ok (.aload_n 2, 1) := by decide +kernel
theorem dd180_72 : decode cX13_parameters 72 = .ok (.getfield 490, 3) := by decide +kernel
theorem dd180_75 : decode cX13_parameters 75 = .ok (.iconst 3, 1) := by decide +kernel
theorem dd180_76 : decode cX13_parameters 76 = .ok (.iload_n 1, 1) := by decide +kernel
theorem dd180_77 : decode cX13_parameters 77 = .ok (.imul, 1) := by decide +kernel
theorem dd180_78 : decode cX13_parameters 78 = .ok (.iload 5, 2) := by decide +kernel
theorem dd180_80 : decode cX13_parameters 80 = .ok (.iadd, 1) := by decide +kernel
theorem dd180_81 : decode cX13_parameters 81 = .ok (.laload, 1) := by decide +kernel
theorem dd180_82 : decode cX13_parameters 82 = .ok (.aload_n 0, 1) := by decide +kernel
theorem dd180_83 : decode cX13_parameters 83 = .ok (.getfield 186, 3) := by decide +kernel
theorem dd180_86 : decode cX13_parameters 86 = .ok (.lcmp, 1) := by decide +kernel
theorem dd180_87 : decode cX13_parameters 87 = .ok (.ifCond .ne 13, 3) := by decide +kernel
theorem dd180_90 : decode cX13_parameters 90 = .ok (.aload_n 0, 1) := by decide +kernel
theorem dd180_91 : decode cX13_parameters 91 = .ok (.iconst 4, 1) := by decide +kernel
theorem dd180_92 : decode cX13_parameters 92 = .ok (.aload_n 0, 1) := by decide +kernel
theorem dd180_93 : decode cX13_parameters 93 = .ok (.getfield 176, 3) := by decide +kernel
theorem dd180_96 : decode cX13_parameters 96 = .ok (.invokevirtual 215, 3) := by decide +kernel
theorem dd180_99 : decode cX13_parameters 99 = .ok (.return_, 1) := by decide +kernel
theorem dd180_100 : decode cX13_parameters 100 = .ok (.iinc 5 1, 3) := by decide +kernel
theorem dd180_103 : decode cX13_parameters 103 = .ok (.goto (-38), 3) := by decide +kernel
theorem dd180_106 : decode cX13_parameters 106 = .ok (.aload_n 2, 1) := by decide +kernel
theorem dd180_107 : decode cX13_parameters 107 = .ok (.getfield 490, 3) := by decide +kernel
theorem dd180_110 : decode cX13_parameters 110 = .ok (.iconst 3, 1) := by decide +kernel
theorem dd180_111 : decode cX13_parameters 111 = .ok (.iload_n 1, 1) := by decide +kernel
theorem dd180_112 : decode cX13_parameters 112 = .ok (.imul, 1) := by decide +kernel
theorem dd180_113 : decode cX13_parameters 113 = .ok (.iload_n 3, 1) := by decide +kernel
theorem dd180_114 : decode cX13_parameters 114 = .ok (.iadd, 1) := by decide +kernel
theorem dd180_115 : decode cX13_parameters 115 = .ok (.aload_n 0, 1) := by decide +kernel
theorem dd180_116 : decode cX13_parameters 116 = .ok (.getfield 186, 3) := by decide +kernel
theorem dd180_119 : decode cX13_parameters 119 = .ok (.lastore, 1) := by decide +kernel
theorem dd180_120 : decode cX13_parameters 120 = .ok (.iinc 3 1, 3) := by decide +kernel
theorem dd180_123 : decode cX13_parameters 123 = .ok (.aload_n 0, 1) := by decide +kernel
theorem dd180_124 : decode cX13_parameters 124 = .ok (.invokevirtual 231, 3) := by decide +kernel
theorem dd180_127 : decode cX13_parameters 127 = .ok (.aload_n 0, 1) := by decide +kernel
theorem dd180_128 : decode cX13_parameters 128 = .ok (.bipush 44, 2) := by decide +kernel
theorem dd180_130 : decode cX13_parameters 130 = .ok (.invokevirtual 227, 3) := by decide +kernel
theorem dd180_133 : decode cX13_parameters 133 = .ok (.istore 4, 2) := by decide +kernel
theorem dd180_135 : decode cX13_parameters 135 = .ok (.iload 4, 2) := by decide +kernel
theorem dd180_137 : decode cX13_parameters 137 = .ok (.ifCond .eq (-107), 3) := by decide +kernel
theorem dd180_140 : decode cX13_parameters 140 = .ok (.aload_n 0, 1) := by decide +kernel
theorem dd180_141 : decode cX13_parameters 141 = .ok (.invokevirtual 231, 3) := by decide +kernel
theorem dd180_144 : decode cX13_parameters 144 = .ok (.goto (-114), 3) := by decide +kernel
theorem dd180_147 : decode cX13_parameters 147 = .ok (.aload_n 2, 1) := by decide +kernel
theorem dd180_148 : decode cX13_parameters 148 = .ok (.getfield 493, 3) := by decide +kernel
theorem dd180_151 : decode cX13_parameters 151 = .ok (.iload_n 1, 1) := by decide +kernel
theorem dd180_152 : decode cX13_parameters 152 = .ok (.iload_n 3, 1) := by decide +kernel
theorem dd180_153 : decode cX13_parameters 153 = .ok (.iastore, 1) := by decide +kernel
theorem dd180_154 : decode cX13_parameters 154 = .ok (.return_, 1) := by decide +kernel
def f180_65 (n : Nat) (r30 : Int32 → Nat → Int32 → Int32 → zσ → Option zσ) : Nat → Int32 → Nat → Int32 → Int32 → zσ → Option zσ
  | 0, _, _, _, _, _ => none
  | j + 1, x1, x2, x3, x5, s =>
    if x5 < x3 then
    if zin? (((3 : Int32) * x1) + x5) 18 = true then
    if (s.2.1 (x2 + 12) (nx (((3 : Int32) * x1) + x5))) = (s.2.1 1132 6) then
    yb0 (f173 n (4 : Int32) (s.1 1132 4) s) fun u6 =>
    some u6
    else f180_65 n r30 j x1 x2 x3 (x5 + (1 : Int32)) s
    else none
    else if zin? (((3 : Int32) * x1) + x3) 18 = true then
    zlet (sJ s (x2 + 12) (nx (((3 : Int32) * x1) + x3)) (s.2.1 1132 6)) fun u1 =>
    yb0 (f164 n u1) fun u2 =>
    yb1 (f177 n (44 : Int32) u2) fun v4 u3 =>
    if v4 = (0 : Int32) then
    r30 x1 x2 (x3 + (1 : Int32)) v4 u3
    else yb0 (f164 n u3) fun u5 =>
    r30 x1 x2 (x3 + (1 : Int32)) v4 u5
    else none
set_option maxRecDepth 20000 in
theorem f180_65_ok {n d : Nat} {r30 : Int32 → Nat → Int32 → Int32 → zσ → Option zσ} (hd : 8 ≤ d) (hr30 : ∀ (x1 : Int32) (x2 : Nat) (x3 : Int32) (x4 : Int32) (s : zσ) (s2 : zσ), zck 12 x2 = true → r30 x1 x2 x3 x4 s = some s2 → ∀ {w : zσ} {fz : Bool} {L : Nat} {xs : Nat → Int32}, zGo (zX fz L xs) d q_180 (30, [(0, .ref 1132), (1, .int x1), (2, .ref x2), (3, .int x3), (4, .int x4)], [], zmk w s, 0, 0) (none, zmk w s2, 0, 0)) : ∀ (j : Nat) (x1 : Int32) (x2 : Nat) (x3 : Int32) (x5 : Int32) (s : zσ) (s2 : zσ), zck 12 x2 = true → f180_65 n r30 j x1 x2 x3 x5 s = some s2 → ∀ {w : zσ} {fz : Bool} {L : Nat} {xs : Nat → Int32}, zGo (zX fz L xs) d q_180 (65, [(0, .ref 1132), (1, .int x1), (2, .ref x2), (3, .int x3), (5, .int x5)], [], zmk w s, 0, 0) (none, zmk w s2, 0, 0) := by
  obtain ⟨d, rfl⟩ : ∃ d0, d = d0 + 1 := ⟨d - 1, by omega⟩
  intro j
  induction j with
  | zero => intro x1 x2 x3 x5 s s2 hx2 h; cases h
  | succ j ih =>
    intro x1 x2 x3 x5 s s2 hx2 h w fz L xs
    rw [f180_65] at h
    refine zGo_s (pc' := 67) (st' := [.int x5]) dd180_65 rfl ?_
    refine zGo_s (pc' := 68) (st' := [.int x3, .int x5]) dd180_67 rfl ?_
    rcases oite h with ⟨hc, h⟩ | ⟨hc, h⟩
    · refine zIF dd180_68 (kGeF hc) ?_
      refine zGo_s (pc' := 72) (st' := [.ref x2]) dd180_71 rfl ?_
      refine mGF (e := (x2 + 12)) dd180_72 rfl (ck12_s hx2).1 (ck12_s hx2).2 rfl (cf12_12 hx2).1 ?_
      refine zGo_s (pc' := 76) (st' := [.int (3 : Int32), .ref (x2 + 12)]) dd180_75 rfl ?_
      refine zGo_s (pc' := 77) (st' := [.int x1, .int (3 : Int32), .ref (x2 + 12)]) dd180_76 rfl ?_
      refine zGo_s (pc' := 78) (st' := [.int ((3 : Int32) * x1), .ref (x2 + 12)]) dd180_77 rfl ?_
      refine zGo_s (pc' := 80) (st' := [.int x5, .int ((3 : Int32) * x1), .ref (x2 + 12)]) dd180_78 rfl ?_
      refine zGo_s (pc' := 81) (st' := [.int (((3 : Int32) * x1) + x5), .ref (x2 + 12)]) dd180_80 rfl ?_
      obtain ⟨hi, h⟩ := ochk h
      refine mLA dd180_81 (cf12_12 hx2).2.1 (cf12_12 hx2).2.2 hi ?_
      refine zGo_s (pc' := 83) (st' := [.ref 1132, .long (s.2.1 (x2 + 12) (nx (((3 : Int32) * x1) + x5)))]) dd180_82 rfl ?_
      refine mGJ dd180_83 rfl rfl rfl rfl ?_
      refine zGo_s (pc' := 87) (st' := [.int (lg_cmp (s.2.1 (x2 + 12) (nx (((3 : Int32) * x1) + x5))) (s.2.1 1132 6))]) dd180_86 rfl ?_
      rcases oite h with ⟨hc, h⟩ | ⟨hc, h⟩
      · refine zUF dd180_87 (kcNeF hc) ?_
        refine zGo_s (pc' := 91) (st' := [.ref 1132]) dd180_90 rfl ?_
        refine zGo_s (pc' := 92) (st' := [.int (4 : Int32), .ref 1132]) dd180_91 rfl ?_
        refine zGo_s (pc' := 93) (st' := [.ref 1132, .int (4 : Int32), .ref 1132]) dd180_92 rfl ?_
        refine mGI dd180_93 rfl rfl rfl rfl ?_
        obtain ⟨u6, hq, h⟩ := obn0 h
        refine zCV0 (As := [.int (4 : Int32), .int (s.1 1132 4)]) (rest := []) (b := 1132) (q' := q_173) dd180_96 rfl rfl (rcv_m rfl rfl (by decide)) rfl rfl rfl (f173_ok (d := d) (by omega)  hq) ?_
        obtain rfl := ore0 h
        exact zGo_ret dd180_99 rfl rfl
      · refine zUT dd180_87 rfl (kcNeT hc) ?_
        refine zGo_s (pc' := 103) (st' := []) (lv' := [(5, .int (x5 + (1 : Int32))), (0, .ref 1132), (1, .int x1), (2, .ref x2), (3, .int x3)]) dd180_100 rfl ?_
        refine zGo_s (pc' := 65) (st' := []) dd180_103 rfl ?_
        exact zGo_lv (lv := [(0, .ref 1132), (1, .int x1), (2, .ref x2), (3, .int x3), (5, .int (x5 + (1 : Int32)))]) ⟨by simp, by simp, by simp⟩ (ih _ _ _ _ _ _ hx2 h)
    · refine zIT dd180_68 rfl (kGeT hc) ?_
      refine zGo_s (pc' := 107) (st' := [.ref x2]) dd180_106 rfl ?_
      refine mGF (e := (x2 + 12)) dd180_107 rfl (ck12_s hx2).1 (ck12_s hx2).2 rfl (cf12_12 hx2).1 ?_
      refine zGo_s (pc' := 111) (st' := [.int (3 : Int32), .ref (x2 + 12)]) dd180_110 rfl ?_
      refine zGo_s (pc' := 112) (st' := [.int x1, .int (3 : Int32), .ref (x2 + 12)]) dd180_111 rfl ?_
      refine zGo_s (pc' := 113) (st' := [.int ((3 : Int32) * x1), .ref (x2 + 12)]) dd180_112 rfl ?_
      refine zGo_s (pc' := 114) (st' := [.int x3, .int ((3 : Int32) * x1), .ref (x2 + 12)]) dd180_113 rfl ?_
      refine zGo_s (pc' := 115) (st' := [.int (((3 : Int32) * x1) + x3), .ref (x2 + 12)]) dd180_114 rfl ?_
      refine zGo_s (pc' := 116) (st' := [.ref 1132, .int (((3 : Int32) * x1) + x3), .ref (x2 + 12)]) dd180_115 rfl ?_
      refine mGJ dd180_116 rfl rfl rfl rfl ?_
      obtain ⟨hi, h⟩ := ochk h
      obtain ⟨u1, e_u1, h⟩ := olet h
      refine mLS dd180_119 (cf12_12 hx2).2.1 (cf12_12 hx2).2.2 hi e_u1 ?_
      refine zGo_s (pc' := 123) (st' := []) (lv' := [(3, .int (x3 + (1 : Int32))), (0, .ref 1132), (1, .int x1), (2, .ref x2), (5, .int x5)]) dd180_120 rfl ?_
      refine zGo_s (pc' := 124) (st' := [.ref 1132]) dd180_123 rfl ?_
      obtain ⟨u2, hq, h⟩ := obn0 h
      refine zCV0 (As := []) (rest := []) (b := 1132) (q' := q_164) dd180_124 rfl rfl (rcv_m rfl rfl (by decide)) rfl rfl rfl (f164_ok (d := d) (by omega)  hq) ?_
      refine zGo_s (pc' := 128) (st' := [.ref 1132]) dd180_127 rfl ?_
      refine zGo_s (pc' := 130) (st' := [.int (44 : Int32), .ref 1132]) dd180_128 rfl ?_
      obtain ⟨v4, u3, hq, h⟩ := obnd h
      refine zCV1 (As := [.int (44 : Int32)]) (rest := []) (b := 1132) (q' := q_177) dd180_130 rfl rfl (rcv_m rfl rfl (by decide)) rfl rfl rfl (f177_ok (d := d) (by omega)  hq) ?_
      refine zGo_s (pc' := 135) (st' := []) (lv' := [(4, .int v4), (3, .int (x3 + (1 : Int32))), (0, .ref 1132), (1, .int x1), (2, .ref x2), (5, .int x5)]) dd180_133 rfl ?_
      refine zGo_s (pc' := 137) (st' := [.int v4]) dd180_135 rfl ?_
      rcases oite h with ⟨hc, h⟩ | ⟨hc, h⟩
      · refine zUT dd180_137 rfl (kEqT hc) ?_
        exact zGo_lv (lv := [(0, .ref 1132), (1, .int x1), (2, .ref x2), (3, .int (x3 + (1 : Int32))), (4, .int v4)]) ⟨by simp, by simp, by simp⟩ (hr30 _ _ _ _ _ _ hx2 h)
      · refine zUF dd180_137 (kEqF hc) ?_
        refine zGo_s (pc' := 141) (st' := [.ref 1132]) dd180_140 rfl ?_
        obtain ⟨u5, hq, h⟩ := obn0 h
        refine zCV0 (As := []) (rest := []) (b := 1132) (q' := q_164) dd180_141 rfl rfl (rcv_m rfl rfl (by decide)) rfl rfl rfl (f164_ok (d := d) (by omega)  hq) ?_
        refine zGo_s (pc' := 30) (st' := []) dd180_144 rfl ?_
        exact zGo_lv (lv := [(0, .ref 1132), (1, .int x1), (2, .ref x2), (3, .int (x3 + (1 : Int32))), (4, .int v4)]) ⟨by simp, by simp, by simp⟩ (hr30 _ _ _ _ _ _ hx2 h)
def f180_30 (n : Nat) : Nat → Int32 → Nat → Int32 → Int32 → zσ → Option zσ
  | 0, _, _, _, _, _ => none
  | j + 1, x1, x2, x3, x4, s =>
    if x4 = (0 : Int32) then
    if zin? x1 6 = true then
    zlet (sI s (x2 + 11) (nx x1) x3) fun u1 =>
    some u1
    else none
    else yb1 (f175 n s) fun v3 u2 =>
    if v3 = (0 : Int32) then
    yb0 (f172 n u2) fun u5 =>
    some u5
    else if x3 = (3 : Int32) then
    yb0 (f173 n (3 : Int32) (u2.1 1132 4) u2) fun u4 =>
    some u4
    else f180_65 n (f180_30 n j) n x1 x2 x3 (0 : Int32) u2
set_option maxRecDepth 20000 in
theorem f180_30_ok {n d : Nat} (hd : 8 ≤ d) : ∀ (j : Nat) (x1 : Int32) (x2 : Nat) (x3 : Int32) (x4 : Int32) (s : zσ) (s2 : zσ), zck 12 x2 = true → f180_30 n j x1 x2 x3 x4 s = some s2 → ∀ {w : zσ} {fz : Bool} {L : Nat} {xs : Nat → Int32}, zGo (zX fz L xs) d q_180 (30, [(0, .ref 1132), (1, .int x1), (2, .ref x2), (3, .int x3), (4, .int x4)], [], zmk w s, 0, 0) (none, zmk w s2, 0, 0) := by
  obtain ⟨d, rfl⟩ : ∃ d0, d = d0 + 1 := ⟨d - 1, by omega⟩
  intro j
  induction j with
  | zero => intro x1 x2 x3 x4 s s2 hx2 h; cases h
  | succ j ih =>
    intro x1 x2 x3 x4 s s2 hx2 h w fz L xs
    rw [f180_30] at h
    refine zGo_s (pc' := 32) (st' := [.int x4]) dd180_30 rfl ?_
    rcases oite h with ⟨hc, h⟩ | ⟨hc, h⟩
    · refine zUT dd180_32 rfl (kEqT hc) ?_
      refine zGo_s (pc' := 148) (st' := [.ref x2]) dd180_147 rfl ?_
      refine mGF (e := (x2 + 11)) dd180_148 rfl (ck12_s hx2).1 (ck12_s hx2).2 rfl (cf12_11 hx2).1 ?_
      refine zGo_s (pc' := 152) (st' := [.int x1, .ref (x2 + 11)]) dd180_151 rfl ?_
      refine zGo_s (pc' := 153) (st' := [.int x3, .int x1, .ref (x2 + 11)]) dd180_152 rfl ?_
      obtain ⟨hi, h⟩ := ochk h
      obtain ⟨u1, e_u1, h⟩ := olet h
      refine mIS dd180_153 (cf12_11 hx2).2.1 (cf12_11 hx2).2.2 hi e_u1 ?_
      obtain rfl := ore0 h
      exact zGo_ret dd180_154 rfl rfl
    · refine zUF dd180_32 (kEqF hc) ?_
      refine zGo_s (pc' := 36) (st' := [.ref 1132]) dd180_35 rfl ?_
      obtain ⟨v3, u2, hq, h⟩ := obnd h
      refine zCV1 (As := []) (rest := []) (b := 1132) (q' := q_175) dd180_36 rfl rfl (rcv_m rfl rfl (by decide)) rfl rfl rfl (f175_ok (d := d) (by omega)  hq) ?_
      rcases oite h with ⟨hc, h⟩ | ⟨hc, h⟩
      · refine zUF dd180_39 (kNeF hc) ?_
        refine zGo_s (pc' := 43) (st' := [.ref 1132]) dd180_42 rfl ?_
        obtain ⟨u5, hq, h⟩ := obn0 h
        refine zCV0 (As := []) (rest := []) (b := 1132) (q' := q_172) dd180_43 rfl rfl (rcv_m rfl rfl (by decide)) rfl rfl rfl (f172_ok (d := d) (by omega)  hq) ?_
        obtain rfl := ore0 h
        exact zGo_ret dd180_46 rfl rfl
      · refine zUT dd180_39 rfl (kNeT hc) ?_
        refine zGo_s (pc' := 48) (st' := [.int x3]) dd180_47 rfl ?_
        refine zGo_s (pc' := 49) (st' := [.int (3 : Int32), .int x3]) dd180_48 rfl ?_
        rcases oite h with ⟨hc, h⟩ | ⟨hc, h⟩
        · refine zIF dd180_49 (kNeF hc) ?_
          refine zGo_s (pc' := 53) (st' := [.ref 1132]) dd180_52 rfl ?_
          refine zGo_s (pc' := 54) (st' := [.int (3 : Int32), .ref 1132]) dd180_53 rfl ?_
          refine zGo_s (pc' := 55) (st' := [.ref 1132, .int (3 : Int32), .ref 1132]) dd180_54 rfl ?_
          refine mGI dd180_55 rfl rfl rfl rfl ?_
          obtain ⟨u4, hq, h⟩ := obn0 h
          refine zCV0 (As := [.int (3 : Int32), .int (u2.1 1132 4)]) (rest := []) (b := 1132) (q' := q_173) dd180_58 rfl rfl (rcv_m rfl rfl (by decide)) rfl rfl rfl (f173_ok (d := d) (by omega)  hq) ?_
          obtain rfl := ore0 h
          exact zGo_ret dd180_61 rfl rfl
        · refine zIT dd180_49 rfl (kNeT hc) ?_
          refine zGo_s (pc' := 63) (st' := [.int (0 : Int32)]) dd180_62 rfl ?_
          refine zGo_s (pc' := 65) (st' := []) (lv' := [(5, .int (0 : Int32)), (0, .ref 1132), (1, .int x1), (2, .ref x2), (3, .int x3), (4, .int x4)]) dd180_63 rfl ?_
          exact zGo_lv (lv := [(0, .ref 1132), (1, .int x1), (2, .ref x2), (3, .int x3), (5, .int (0 : Int32))]) ⟨by simp, by simp, by simp⟩ (f180_65_ok hd ih _ _ _ _ _ _ _ hx2 h)
def f180_28 (n : Nat) (x1 : Int32) (x2 : Nat) (x3 : Int32) (y0 : Int32) (s : zσ) : Option zσ :=
    f180_30 n n x1 x2 x3 y0 s
set_option maxRecDepth 20000 in
theorem f180_28_ok {n d : Nat} {x1 : Int32} {x2 : Nat} {x3 : Int32} {y0 : Int32} {s : zσ} {s2 : zσ} (hd : 8 ≤ d) (hx2 : zck 12 x2 = true) (h : f180_28 n x1 x2 x3 y0 s = some s2) {w : zσ} {fz : Bool} {L : Nat} {xs : Nat → Int32} : zGo (zX fz L xs) d q_180 (28, [(0, .ref 1132), (1, .int x1), (2, .ref x2), (3, .int x3)], [.int y0], zmk w s, 0, 0) (none, zmk w s2, 0, 0) := by
  obtain ⟨d, rfl⟩ : ∃ d0, d = d0 + 1 := ⟨d - 1, by omega⟩
  unfold f180_28 at h
  refine zGo_s (pc' := 30) (st' := []) (lv' := [(4, .int y0), (0, .ref 1132), (1, .int x1), (2, .ref x2), (3, .int x3)]) dd180_28 rfl ?_
  exact zGo_lv (lv := [(0, .ref 1132), (1, .int x1), (2, .ref x2), (3, .int x3), (4, .int y0)]) ⟨by simp, by simp, by simp⟩ (f180_30_ok hd _ _ _ _ _ _ _ hx2 h)
def f180_27 (n : Nat) (x1 : Int32) (x2 : Nat) (x3 : Int32) (s : zσ) : Option zσ :=
    f180_28 n x1 x2 x3 (0 : Int32) s
set_option maxRecDepth 20000 in
theorem f180_27_ok {n d : Nat} {x1 : Int32} {x2 : Nat} {x3 : Int32} {s : zσ} {s2 : zσ} (hd : 8 ≤ d) (hx2 : zck 12 x2 = true) (h : f180_27 n x1 x2 x3 s = some s2) {w : zσ} {fz : Bool} {L : Nat} {xs : Nat → Int32} : zGo (zX fz L xs) d q_180 (27, [(0, .ref 1132), (1, .int x1), (2, .ref x2), (3, .int x3)], [], zmk w s, 0, 0) (none, zmk w s2, 0, 0) := by
  obtain ⟨d, rfl⟩ : ∃ d0, d = d0 + 1 := ⟨d - 1, by omega⟩
  unfold f180_27 at h
  refine zGo_s (pc' := 28) (st' := [.int (0 : Int32)]) dd180_27 rfl ?_
  exact f180_28_ok hd hx2 h
def f180 (n : Nat) (x1 : Int32) (s : zσ) : Option zσ :=
    zrd 12 (s.2.2 1132 12) fun a1 =>
    yb1 (f167 n s) fun v3 u2 =>
    if v3 = (0 : Int32) then
    f180_27 n x1 a1 (0 : Int32) u2
    else yb1 (f177 n (41 : Int32) u2) fun v5 u4 =>
    if v5 = (0 : Int32) then
    f180_28 n x1 a1 (0 : Int32) (1 : Int32) u4
    else f180_27 n x1 a1 (0 : Int32) u4
set_option maxRecDepth 20000 in
theorem f180_ok {n d : Nat} {x1 : Int32} {s : zσ} {s2 : zσ} (hd : 8 ≤ d) (h : f180 n x1 s = some s2) {w : zσ} {fz : Bool} {L : Nat} {xs : Nat → Int32} : zGo (zX fz L xs) d q_180 (0, [(0, .ref 1132), (1, .int x1)], [], zmk w s, 0, 0) (none, zmk w s2, 0, 0) := by
  obtain ⟨d, rfl⟩ : ∃ d0, d = d0 + 1 := ⟨d - 1, by omega⟩
  unfold f180 at h
  refine zGo_s (pc' := 1) (st' := [.ref 1132]) dd180_0 rfl ?_
  obtain ⟨a1, e_a1, c_a1, h⟩ := ordd h
  refine mGR dd180_1 rfl rfl rfl rfl e_a1 ?_
  refine zGo_s (pc' := 5) (st' := []) (lv' := [(2, .ref a1), (0, .ref 1132), (1, .int x1)]) dd180_4 rfl ?_
  refine zGo_s (pc' := 6) (st' := [.int (0 : Int32)]) dd180_5 rfl ?_
  refine zGo_s (pc' := 7) (st' := []) (lv' := [(3, .int (0 : Int32)), (2, .ref a1), (0, .ref 1132), (1, .int x1)]) dd180_6 rfl ?_
  refine zGo_s (pc' := 8) (st' := [.ref 1132]) dd180_7 rfl ?_
  obtain ⟨v3, u2, hq, h⟩ := obnd h
  refine zCV1 (As := []) (rest := []) (b := 1132) (q' := q_167) dd180_8 rfl rfl (rcv_m rfl rfl (by decide)) rfl rfl rfl (f167_ok (d := d) (by omega)  hq) ?_
  rcases oite h with ⟨hc, h⟩ | ⟨hc, h⟩
  · refine zUT dd180_11 rfl (kEqT hc) ?_
    exact zGo_lv (lv := [(0, .ref 1132), (1, .int x1), (2, .ref a1), (3, .int (0 : Int32))]) ⟨by simp, by simp, by simp⟩ (f180_27_ok hd c_a1 h)
  · refine zUF dd180_11 (kEqF hc) ?_
    refine zGo_s (pc' := 15) (st' := [.ref 1132]) dd180_14 rfl ?_
    refine zGo_s (pc' := 17) (st' := [.int (41 : Int32), .ref 1132]) dd180_15 rfl ?_
    obtain ⟨v5, u4, hq, h⟩ := obnd h
    refine zCV1 (As := [.int (41 : Int32)]) (rest := []) (b := 1132) (q' := q_177) dd180_17 rfl rfl (rcv_m rfl rfl (by decide)) rfl rfl rfl (f177_ok (d := d) (by omega)  hq) ?_
    rcases oite h with ⟨hc, h⟩ | ⟨hc, h⟩
    · refine zUF dd180_20 (kNeF hc) ?_
      refine zGo_s (pc' := 24) (st' := [.int (1 : Int32)]) dd180_23 rfl ?_
      refine zGo_s (pc' := 28) (st' := [.int (1 : Int32)]) dd180_24 rfl ?_
      exact zGo_lv (lv := [(0, .ref 1132), (1, .int x1), (2, .ref a1), (3, .int (0 : Int32))]) ⟨by simp, by simp, by simp⟩ (f180_28_ok hd c_a1 h)
    · refine zUT dd180_20 rfl (kNeT hc) ?_
      exact zGo_lv (lv := [(0, .ref 1132), (1, .int x1), (2, .ref a1), (3, .int (0 : Int32))]) ⟨by simp, by simp, by simp⟩ (f180_27_ok hd c_a1 h)
