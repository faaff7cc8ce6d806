/-! PHModel.waits(III)I -/
theorem dd278_0 : decode cX13_waits 0 = .ok (.aload_n 0, 1) := by decide +kernel
theorem dd278_1 : decode cX13_waits 1 = .ok (.getfield 557, 3) := by decide +kernel
theorem dd278_4 : decode cX13_waits 4 = .ok (.ifCond .ne 6, 3) := by decide +kernel
theorem dd278_7 : decode cX13_waits 7 = .ok (.bipush (-3), 2) := by decide +kernel
theorem dd278_9 : decode cX13_waits 9 = .ok (.ireturn, 1) := by decide +kernel
theorem dd278_10 : decode cX13_waits 10 = .ok (.iload_n 1, 1) := by decide +kernel
theorem dd278_11 : decode cX13_waits 11 = .ok (.iconst 2, 1) := by decide +kernel
theorem dd278_12 : decode cX13_waits 12 = .ok (.if_icmp .eq 16, 3) := by decide +kernel
theorem dd278_15 : decode cX13_waits 15 = .ok (.iload_n 1, 1) := by decide +kernel
theorem dd278_16 : decode cX13_waits 16 = .ok (.iconst 3, 1) := by decide +kernel
theorem dd278_17 : decode cX13_waits 17 = .ok (.if_icmp .eq 11, 3) := by decide +kernel
theorem dd278_20 : decode cX13_waits 20 = .ok (.iload_n 1, 1) := by decide +kernel
theorem dd278_21 : decode cX13_waits 21 = .ok (.iconst 5, 1) := by decide +kernel
theorem dd278_22 : decode cX13_waits 22 = .ok (.if_icmp .eq 6, 3) := by decide +kernel
theorem dd278_25 : decode cX13_waits 25 = .ok (.bipush (-2), 2) := by decide +kernel
theorem dd278_27 : decode cX13_waits 27 = .ok (.ireturn, 1) := by decide +kernel
theorem dd278_28 : decode cX13_waits 28 = .ok (.iload_n 2, 1) := by decide +kernel
theorem dd278_29 : decode cX13_waits 29 = .ok (.ifCond .lt 16, 3) := by decide +kernel
theorem dd278_32 : decode cX13_waits 32 = .ok (.iload_n 2, 1) := by decide +kernel
theorem dd278_33 : decode cX13_waits 33 = .ok (.aload_n 0, 1) := by decide +kernel
theorem dd278_34 : decode cX13_waits 34 = .ok (.getfield 20, 3) := by decide +kernel
theorem dd278_37 : decode cX13_waits 37 = .ok (.getfield 270, 3) := by decide +kernel
theorem dd278_40 : decode cX13_waits 40 = .ok (.iload_n 1, 1) := by decide +kernel
theorem dd278_41 : decode cX13_waits 41 = .ok (.iaload, 1) := by decide +kernel
theorem dd278_42 : decode cX13_waits 42 = .ok (.if_icmp .lt 5, 3) := by decide +kernel
theorem dd278_45 : decode cX13_waits 45 = .ok (.iconst (-1), 1) := by decide +kernel
theorem dd278_46 : decode cX13_waits 46 = .ok (.ireturn, 1) := by decide +kernel
theorem dd278_47 : decode cX13_waits 47 = .ok (.iload_n 3, 1) := by decide +kernel
theorem dd278_48 : decode cX13_waits 48 = .ok (.istore 4, 2) := by decide +kernel
theorem dd278_50 : decode cX13_waits 50 = .ok (.aload_n 0, 1) := by decide +kernel
theorem dd278_51 : decode cX13_waits 51 = .ok (.iconst (-1), 1) := by decide +kernel
theorem dd278_52 : decode cX13_waits 52 = .ok (.invokevirtual 749, 3) := by decide +kernel
theorem dd278_55 : decode cX13_waits 55 = .ok (.istore 5, 2) := by decide +kernel
theorem dd278_57 : decode cX13_waits 57 = .ok (.iload 5, 2) := by decide +kernel
theorem dd278_59 : decode cX13_waits 59 = .ok (.iconst (-1), 1) := by decide +kernel
theorem dd278_60 : decode cX13_waits 60 = .ok (.if_icmp .eq 36, 3) := by decide +kernel
theorem dd278_63 : decode cX13_waits 63 = .ok (.aload_n 0, 1) := by decide +kernel
theorem dd278_64 : decode cX13_waits 64 = .ok (.iload 5, 2) := by decide +kernel
theorem dd278_66 : decode cX13_waits 66 = .ok (.iload_n 1, 1) := by decide +kernel
theorem dd278_67 : decode cX13_waits 67 = .ok (.iload_n 2, 1) := by decide +kernel
theorem dd278_68 : decode cX13_waits 68 = .ok (.invokevirtual 777, 3) := by decide +kernel
theorem dd278_71 : decode cX13_waits 71 = .ok (.ifCond .eq 14, 3) := by decide +kernel
theorem dd278_74 : decode cX13_waits 74 = .ok (.iload 4, 2) := by decide +kernel
theorem dd278_76 : decode cX13_waits 76 = .ok (.ifCond .ne 6, 3) := by decide +kernel
theorem dd278_79 : decode cX13_waits 79 = .ok (.iload 5, 2) := by decide +kernel
theorem dd278_81 : decode cX13_waits 81 = .ok (.ireturn, 1) := by decide +kernel
theorem dd278_82 : decode cX13_waits 82 = .ok (.iinc 4 (-1), 3) := by decide +kernel
theorem dd278_85 : decode cX13_waits 85 = .ok (.aload_n 0, 1) := by decide +kernel
theorem dd278_86 : decode cX13_waits 86 = .ok (.iload 5, 2) := by decide +kernel
theorem dd278_88 : decode cX13_waits 88 = .ok (.invokevirtual 749, 3) := by decide +kernel
theorem dd278_91 : decode cX13_waits 91 = .ok (.istore 5, 2) := by decide +kernel
theorem dd278_93 : decode cX13_waits 93 = .ok (.goto (-36), 3) := by decide +kernel
theorem dd278_96 : decode cX13_waits 96 = .ok (.iconst (-1), 1) := by decide +kernel
theorem dd278_97 : decode cX13_waits 97 = .ok (.ireturn, 1) := by decide +kernel
def f278_85 (n : Nat) (r57 : Int32 → Int32 → Int32 → Int32 → zσ → Option (Int32 × zσ)) (x1 : Int32) (x2 : Int32) (x4 : Int32) (x5 : Int32) (s : zσ) : Option (Int32 × zσ) :=
    yb1 (f227 n x5 s) fun v2 u1 =>
    r57 x1 x2 x4 v2 u1
set_option maxRecDepth 20000 in
theorem f278_85_ok {n d : Nat} {r57 : Int32 → Int32 → Int32 → Int32 → zσ → Option (Int32 × zσ)} {x1 : Int32} {x2 : Int32} {x4 : Int32} {x5 : Int32} {s : zσ} {v : Int32} {s2 : zσ} (hd : 2 ≤ d) (hr57 : ∀ (x1 : Int32) (x2 : Int32) (x4 : Int32) (x5 : Int32) (s : zσ) (v : Int32) (s2 : zσ), r57 x1 x2 x4 x5 s = some (v, s2) → ∀ {w : zσ} {fz : Bool} {L : Nat} {xs : Nat → Int32}, zGo (zX fz L xs) d q_278 (57, [(0, .ref 1132), (1, .int x1), (2, .int x2), (4, .int x4), (5, .int x5)], [], zmk w s, 0, 0) (some (.int v), zmk w s2, 0, 0)) (h : f278_85 n r57 x1 x2 x4 x5 s = some (v, s2)) {w : zσ} {fz : Bool} {L : Nat} {xs : Nat → Int32} : zGo (zX fz L xs) d q_278 (85, [(0, .ref 1132), (1, .int x1), (2, .int x2), (4, .int x4), (5, .int x5)], [], zmk w s, 0, 0) (some (.int v), zmk w s2, 0, 0) := by
  obtain ⟨d, rfl⟩ : ∃ d0, d = d0 + 1 := ⟨d - 1, by omega⟩
  unfold f278_85 at h
  refine zGo_s (pc' := 86) (st' := [.ref 1132]) dd278_85 rfl ?_
  refine zGo_s (pc' := 88) (st' := [.int x5, .ref 1132]) dd278_86 rfl ?_
  obtain ⟨v2, u1, hq, h⟩ := obnd h
  refine zCV1 (As := [.int x5]) (rest := []) (b := 1132) (q' := q_227) dd278_88 rfl rfl (rcv_m rfl rfl (by decide)) rfl rfl rfl (f227_ok (d := d) (by omega)  hq) ?_
  refine zGo_s (pc' := 93) (st' := []) (lv' := [(5, .int v2), (0, .ref 1132), (1, .int x1), (2, .int x2), (4, .int x4)]) dd278_91 rfl ?_
  refine zGo_s (pc' := 57) (st' := []) dd278_93 rfl ?_
  exact zGo_lv (lv := [(0, .ref 1132), (1, .int x1), (2, .int x2), (4, .int x4), (5, .int v2)]) ⟨by simp, by simp, by simp⟩ (hr57 _ _ _ _ _ _ _ h)
def f278_57 (n : Nat) : Nat → Int32 → Int32 → Int32 → Int32 → zσ → Option (Int32 × zσ)
  | 0, _, _, _, _, _ => none
  | j + 1, x1, x2, x4, x5, s =>
    if x5 = (-1 : Int32) then
    some ((-1 : Int32), s)
    else yb1 (f279 n x5 x1 x2 s) fun v2 u1 =>
    if v2 = (0 : Int32) then
    f278_85 n (f278_57 n j) x1 x2 x4 x5 u1
    else if x4 = (0 : Int32) then
    some (x5, u1)
    else f278_85 n (f278_57 n j) x1 x2 (x4 + (-1 : Int32)) x5 u1
set_option maxRecDepth 20000 in
theorem f278_57_ok {n d : Nat} (hd : 2 ≤ d) : ∀ (j : Nat) (x1 : Int32) (x2 : Int32) (x4 : Int32) (x5 : Int32) (s : zσ) (v : Int32) (s2 : zσ), f278_57 n j x1 x2 x4 x5 s = some (v, s2) → ∀ {w : zσ} {fz : Bool} {L : Nat} {xs : Nat → Int32}, zGo (zX fz L xs) d q_278 (57, [(0, .ref 1132), (1, .int x1), (2, .int x2), (4, .int x4), (5, .int x5)], [], zmk w s, 0, 0) (some (.int v), zmk w s2, 0, 0) := by
  obtain ⟨d, rfl⟩ : ∃ d0, d = d0 + 1 := ⟨d - 1, by omega⟩
  intro j
  induction j with
  | zero => intro x1 x2 x4 x5 s v s2 h; cases h
  | succ j ih =>
    intro x1 x2 x4 x5 s v s2 h w fz L xs
    rw [f278_57] at h
    refine zGo_s (pc' := 59) (st' := [.int x5]) dd278_57 rfl ?_
    refine zGo_s (pc' := 60) (st' := [.int (-1 : Int32), .int x5]) dd278_59 rfl ?_
    rcases oite h with ⟨hc, h⟩ | ⟨hc, h⟩
    · refine zIT dd278_60 rfl (kEqT hc) ?_
      refine zGo_s (pc' := 97) (st' := [.int (-1 : Int32)]) dd278_96 rfl ?_
      obtain ⟨rfl, rfl⟩ := oret h
      exact zGo_ret dd278_97 rfl rfl
    · refine zIF dd278_60 (kEqF hc) ?_
      refine zGo_s (pc' := 64) (st' := [.ref 1132]) dd278_63 rfl ?_
      refine zGo_s (pc' := 66) (st' := [.int x5, .ref 1132]) dd278_64 rfl ?_
      refine zGo_s (pc' := 67) (st' := [.int x1, .int x5, .ref 1132]) dd278_66 rfl ?_
      refine zGo_s (pc' := 68) (st' := [.int x2, .int x1, .int x5, .ref 1132]) dd278_67 rfl ?_
      obtain ⟨v2, u1, hq, h⟩ := obnd h
      refine zCV1 (As := [.int x5, .int x1, .int x2]) (rest := []) (b := 1132) (q' := q_279) dd278_68 rfl rfl (rcv_m rfl rfl (by decide)) rfl rfl rfl (f279_ok (d := d) (by omega)  hq) ?_
      rcases oite h with ⟨hc, h⟩ | ⟨hc, h⟩
      · refine zUT dd278_71 rfl (kEqT hc) ?_
        exact f278_85_ok hd ih h
      · refine zUF dd278_71 (kEqF hc) ?_
        refine zGo_s (pc' := 76) (st' := [.int x4]) dd278_74 rfl ?_
        rcases oite h with ⟨hc, h⟩ | ⟨hc, h⟩
        · refine zUF dd278_76 (kNeF hc) ?_
          refine zGo_s (pc' := 81) (st' := [.int x5]) dd278_79 rfl ?_
          obtain ⟨rfl, rfl⟩ := oret h
          exact zGo_ret dd278_81 rfl rfl
        · refine zUT dd278_76 rfl (kNeT hc) ?_
          refine zGo_s (pc' := 85) (st' := []) (lv' := [(4, .int (x4 + (-1 : Int32))), (0, .ref 1132), (1, .int x1), (2, .int x2), (5, .int x5)]) dd278_82 rfl ?_
          exact zGo_lv (lv := [(0, .ref 1132), (1, .int x1), (2, .int x2), (4, .int (x4 + (-1 : Int32))), (5, .int x5)]) ⟨by simp, by simp, by simp⟩ (f278_85_ok hd ih h)
def f278_28 (n : Nat) (x1 : Int32) (x2 : Int32) (x3 : Int32) (s : zσ) : Option (Int32 × zσ) :=
    if x2 < (0 : Int32) then
    some ((-1 : Int32), s)
    else zrd 12 (s.2.2 1132 11) fun a1 =>
    if zin? x1 9 = true then
    if x2 < (s.1 (a1 + 4) (nx x1)) then
    yb1 (f227 n (-1 : Int32) s) fun v3 u2 =>
    f278_57 n n x1 x2 x3 v3 u2
    else some ((-1 : Int32), s)
    else none
set_option maxRecDepth 20000 in
theorem f278_28_ok {n d : Nat} {x1 : Int32} {x2 : Int32} {x3 : Int32} {s : zσ} {v : Int32} {s2 : zσ} (hd : 2 ≤ d) (h : f278_28 n x1 x2 x3 s = some (v, s2)) {w : zσ} {fz : Bool} {L : Nat} {xs : Nat → Int32} : zGo (zX fz L xs) d q_278 (28, [(0, .ref 1132), (1, .int x1), (2, .int x2), (3, .int x3)], [], zmk w s, 0, 0) (some (.int v), zmk w s2, 0, 0) := by
  obtain ⟨d, rfl⟩ : ∃ d0, d = d0 + 1 := ⟨d - 1, by omega⟩
  unfold f278_28 at h
  refine zGo_s (pc' := 29) (st' := [.int x2]) dd278_28 rfl ?_
  rcases oite h with ⟨hc, h⟩ | ⟨hc, h⟩
  · refine zUT dd278_29 rfl (kLtT hc) ?_
    refine zGo_s (pc' := 46) (st' := [.int (-1 : Int32)]) dd278_45 rfl ?_
    obtain ⟨rfl, rfl⟩ := oret h
    exact zGo_ret dd278_46 rfl rfl
  · refine zUF dd278_29 (kLtF hc) ?_
    refine zGo_s (pc' := 33) (st' := [.int x2]) dd278_32 rfl ?_
    refine zGo_s (pc' := 34) (st' := [.ref 1132, .int x2]) dd278_33 rfl ?_
    obtain ⟨a1, e_a1, c_a1, h⟩ := ordd h
    refine mGR dd278_34 rfl rfl rfl rfl e_a1 ?_
    refine mGF (e := (a1 + 4)) dd278_37 rfl (ck12_s c_a1).1 (ck12_s c_a1).2 rfl (cf12_4 c_a1).1 ?_
    refine zGo_s (pc' := 41) (st' := [.int x1, .ref (a1 + 4), .int x2]) dd278_40 rfl ?_
    obtain ⟨hi, h⟩ := ochk h
    refine mIA dd278_41 (cf12_4 c_a1).2.1 (cf12_4 c_a1).2.2 hi ?_
    rcases oite h with ⟨hc, h⟩ | ⟨hc, h⟩
    · refine zIT dd278_42 rfl (kLtT hc) ?_
      refine zGo_s (pc' := 48) (st' := [.int x3]) dd278_47 rfl ?_
      refine zGo_s (pc' := 50) (st' := []) (lv' := [(4, .int x3), (0, .ref 1132), (1, .int x1), (2, .int x2), (3, .int x3)]) dd278_48 rfl ?_
      refine zGo_s (pc' := 51) (st' := [.ref 1132]) dd278_50 rfl ?_
      refine zGo_s (pc' := 52) (st' := [.int (-1 : Int32), .ref 1132]) dd278_51 rfl ?_
      obtain ⟨v3, u2, hq, h⟩ := obnd h
      refine zCV1 (As := [.int (-1 : Int32)]) (rest := []) (b := 1132) (q' := q_227) dd278_52 rfl rfl (rcv_m rfl rfl (by decide)) rfl rfl rfl (f227_ok (d := d) (by omega)  hq) ?_
      refine zGo_s (pc' := 57) (st' := []) (lv' := [(5, .int v3), (4, .int x3), (0, .ref 1132), (1, .int x1), (2, .int x2), (3, .int x3)]) dd278_55 rfl ?_
      exact zGo_lv (lv := [(0, .ref 1132), (1, .int x1), (2, .int x2), (4, .int x3), (5, .int v3)]) ⟨by simp, by simp, by simp⟩ (f278_57_ok hd _ _ _ _ _ _ _ _ h)
    · refine zIF dd278_42 (kLtF hc) ?_
      refine zGo_s (pc' := 46) (st' := [.int (-1 : Int32)]) dd278_45 rfl ?_
      obtain ⟨rfl, rfl⟩ := oret h
      exact zGo_ret dd278_46 rfl rfl
def f278 (n : Nat) (x1 : Int32) (x2 : Int32) (x3 : Int32) (s : zσ) : Option (Int32 × zσ) :=
    if (s.1 1132 17) = (0 : Int32) then
    some ((-3 : Int32), s)
    else if x1 = (2 : Int32) then
    f278_28 n x1 x2 x3 s
    else if x1 = (3 : Int32) then
    f278_28 n x1 x2 x3 s
    else if x1 = (5 : Int32) then
    f278_28 n x1 x2 x3 s
    else some ((-2 : Int32), s)
set_option maxRecDepth 20000 in
theorem f278_ok {n d : Nat} {x1 : Int32} {x2 : Int32} {x3 : Int32} {s : zσ} {v : Int32} {s2 : zσ} (hd : 2 ≤ d) (h : f278 n x1 x2 x3 s = some (v, s2)) {w : zσ} {fz : Bool} {L : Nat} {xs : Nat → Int32} : zGo (zX fz L xs) d q_278 (0, [(0, .ref 1132), (1, .int x1), (2, .int x2), (3, .int x3)], [], zmk w s, 0, 0) (some (.int v), zmk w s2, 0, 0) := by
  obtain ⟨d, rfl⟩ : ∃ d0, d = d0 + 1 := ⟨d - 1, by omega⟩
  unfold f278 at h
  refine zGo_s (pc' := 1) (st' := [.ref 1132]) dd278_0 rfl ?_
  refine mGI dd278_1 rfl rfl rfl rfl ?_
  rcases oite h with ⟨hc, h⟩ | ⟨hc, h⟩
  · refine zUF dd278_4 (kNeF hc) ?_
    refine zGo_s (pc' := 9) (st' := [.int (-3 : Int32)]) dd278_7 rfl ?_
    obtain ⟨rfl, rfl⟩ := oret h
    exact zGo_ret dd278_9 rfl rfl
  · refine zUT dd278_4 rfl (kNeT hc) ?_
    refine zGo_s (pc' := 11) (st' := [.int x1]) dd278_10 rfl ?_
    refine zGo_s (pc' := 12) (st' := [.int (2 : Int32), .int x1]) dd278_11 rfl ?_
    rcases oite h with ⟨hc, h⟩ | ⟨hc, h⟩
    · refine zIT dd278_12 rfl (kEqT hc) ?_
      exact f278_28_ok hd h
    · refine zIF dd278_12 (kEqF hc) ?_
      refine zGo_s (pc' := 16) (st' := [.int x1]) dd278_15 rfl ?_
      refine zGo_s (pc' := 17) (st' := [.int (3 : Int32), .int x1]) dd278_16 rfl ?_
      rcases oite h with ⟨hc, h⟩ | ⟨hc, h⟩
      · refine zIT dd278_17 rfl (kEqT hc) ?_
        exact f278_28_ok hd h
      · refine zIF dd278_17 (kEqF hc) ?_
        refine zGo_s (pc' := 21) (st' := [.int x1]) dd278_20 rfl ?_
        refine zGo_s (pc' := 22) (st' := [.int (5 : Int32), .int x1]) dd278_21 rfl ?_
        rcases oite h with ⟨hc, h⟩ | ⟨hc, h⟩
        · refine zIT dd278_22 rfl (kEqT hc) ?_
          exact f278_28_ok hd h
        · refine zIF dd278_22 (kEqF hc) ?_
          refine zGo_s (pc' := 27) (st' := [.int (-2 : Int32)]) dd278_25 rfl ?_
          obtain ⟨rfl, rfl⟩ := oret h
          exact zGo_ret dd278_27 rfl rfl
/-! PHModel.schedule(III)I -/
theorem dd280_0 : decode cX13_schedule 0 = .ok (.aload_n 0, 1) := by decide +kernel
theorem dd280_1 : decode cX13_schedule 1 = .ok (.getfield 557, 3) := by decide +kernel
theorem dd280_4 : decode cX13_schedule 4 = .ok (.ifCond .ne 6, 3) := by decide +kernel
theorem dd280_7 : decode cX13_schedule 7 = .ok (.bipush (-3), 2) := by decide +kernel
theorem dd280_9 : decode cX13_schedule 9 = .ok (.ireturn, 1) := by decide +kernel
theorem dd280_10 : decode cX13_schedule 10 = .ok (.aload_n 0, 1) := by decide +kernel
theorem dd280_11 : decode cX13_schedule 11 = .ok (.iload_n 1, 1) := by decide +kernel
theorem dd280_12 : decode cX13_schedule 12 = .ok (.invokevirtual 774, 3) := by decide +kernel
theorem dd280_15 : decode cX13_schedule 15 = .ok (.ifCond .ne 5, 3) := by decide +kernel
theorem dd280_18 : decode cX13_schedule 18 = .ok (.iconst (-1), 1) := by decide +kernel
theorem dd280_19 : decode cX13_schedule 19 = .ok (.ireturn, 1) := by decide +kernel
theorem dd280_20 : decode cX13_schedule 20 = .ok (.iload_n 2, 1) := by decide +kernel
theorem dd280_21 : decode cX13_schedule 21 = .ok (.ifCond .lt 17, 3) := by decide +kernel
theorem dd280_24 : decode cX13_schedule 24 = .ok (.iload_n 2, 1) := by decide +kernel
theorem dd280_25 : decode cX13_schedule 25 = .ok (.iconst 1, 1) := by decide +kernel
theorem dd280_26 : decode cX13_schedule 26 = .ok (.if_icmp .gt 12, 3) := by decide +kernel
theorem dd280_29 : decode cX13_schedule 29 = .ok (.iload_n 3, 1) := by decide +kernel
theorem dd280_30 : decode cX13_schedule 30 = .ok (.ifCond .lt 8, 3) := by decide +kernel
theorem dd280_33 : decode cX13_schedule 33 = .ok (.iload_n 3, 1) := by decide +kernel
theorem dd280_34 : decode cX13_schedule 34 = .ok (.iconst 3, 1) := by decide +kernel
theorem dd280_35 : decode cX13_schedule 35 = .ok (.if_icmp .le 6, 3) := by decide +kernel
theorem dd280_38 : decode cX13_schedule 38 = .ok (.bipush (-2), 2) := by decide +kernel
theorem dd280_40 : decode cX13_schedule 40 = .ok (.ireturn, 1) := by decide +kernel
theorem dd280_41 : decode cX13_schedule 41 = .ok (.iconst 2, 1) := by decide +kernel
theorem dd280_42 : decode cX13_schedule 42 = .ok (.iload_n 1, 1) := by decide +kernel
theorem dd280_43 : decode cX13_schedule 43 = .ok (.imul, 1) := by decide +kernel
theorem dd280_44 : decode cX13_schedule 44 = .ok (.iload_n 2, 1) := by decide +kernel
theorem dd280_45 : decode cX13_schedule 45 = .ok (.iadd, 1) := by decide +kernel
theorem dd280_46 : decode cX13_schedule 46 = .ok (.istore 4, 2) := by decide +kernel
theorem dd280_48 : decode cX13_schedule 48 = .ok (.iload_n 3, 1) := by decide +kernel
theorem dd280_49 : decode cX13_schedule 49 = .ok (.tableswitch 95 0 2 #[27, 49, 71], 27) := by decide +kernel
theorem dd280_76 : decode cX13_schedule 76 = .ok (.aload_n 0, 1) := by decide +kernel
theorem dd280_77 : decode cX13_schedule 77 = .ok (.getfield 136, 3) := by decide +kernel
theorem dd280_80 : decode cX13_schedule 80 = .ok (.iload 4, 2) := by decide +kernel
theorem dd280_82 : decode cX13_schedule 82 = .ok (.baload, 1) := by decide +kernel
theorem dd280_83 : decode cX13_schedule 83 = .ok (.ifCond .eq 13, 3) := by decide +kernel
theorem dd280_86 : decode cX13_schedule 86 = .ok (.aload_n 0, 1) := by decide +kernel
theorem dd280_87 : decode cX13_schedule 87 = .ok (.getfield 139, 3) := by decide +kernel
theorem dd280_90 : decode cX13_schedule 90 = .ok (.iload 4, 2) := by decide +kernel
theorem dd280_92 : decode cX13_schedule 92 = .ok (.iaload, 1) := by decide +kernel
theorem dd280_93 : decode cX13_schedule 93 = .ok (.goto 4, 3) := by decide +kernel
theorem dd280_96 : decode cX13_schedule 96 = .ok (.iconst (-1), 1) := by decide +kernel
theorem dd280_97 : decode cX13_schedule 97 = .ok (.ireturn, 1) := by decide +kernel
theorem dd280_98 : decode cX13_schedule 98 = .ok (.aload_n 0, 1) := by decide +kernel
theorem dd280_99 : decode cX13_schedule 99 = .ok (.getfield 136, 3) := by decide +kernel
theorem dd280_102 : decode cX13_schedule 102 = .ok (.iload 4, 2) := by decide +kernel
theorem dd280_104 : decode cX13_schedule 104 = .ok (.baload, 1) := by decide +kernel
theorem dd280_105 : decode cX13_schedule 105 = .ok (.ifCond .eq 13, 3) := by decide +kernel
theorem dd280_108 : decode cX13_schedule 108 = .ok (.aload_n 0, 1) := by decide +kernel
theorem dd280_109 : decode cX13_schedule 109 = .ok (.getfield 142, 3) := by decide +kernel
theorem dd280_112 : decode cX13_schedule 112 = .ok (.iload 4, 2) := by decide +kernel
theorem dd280_114 : decode cX13_schedule 114 = .ok (.iaload, 1) := by decide +kernel
theorem dd280_115 : decode cX13_schedule 115 = .ok (.goto 4, 3) := by decide +kernel
theorem dd280_118 : decode cX13_schedule 118 = .ok (.iconst 0, 1) := by decide +kernel
theorem dd280_119 : decode cX13_schedule 119 = .ok (.ireturn, 1) := by decide +kernel
theorem dd280_120 : decode cX13_schedule 120 = .ok (.aload_n 0, 1) := by decide +kernel
theorem dd280_121 : decode cX13_schedule 121 = .ok (.getfield 136, 3) := by decide +kernel
theorem dd280_124 : decode cX13_schedule 124 = .ok (.iload 4, 2) := by decide +kernel
theorem dd280_126 : decode cX13_schedule 126 = .ok (.baload, 1) := by decide +kernel
theorem dd280_127 : decode cX13_schedule 127 = .ok (.ifCond .eq 13, 3) := by decide +kernel
theorem dd280_130 : decode cX13_schedule 130 = .ok (.aload_n 0, 1) := by decide +kernel
theorem dd280_131 : decode cX13_schedule 131 = .ok (.getfield 145, 3) := by decide +kernel
theorem dd280_134 : decode cX13_schedule 134 = .ok (.iload 4, 2) := by decide +kernel
theorem dd280_136 : decode cX13_schedule 136 = .ok (.iaload, 1) := by decide +kernel
theorem dd280_137 : decode cX13_schedule 137 = .ok (.goto 6, 3) := by decide +kernel
theorem dd280_140 : decode cX13_schedule 140 = .ok (.ldc_w 521, 3) := by decide +kernel
theorem dd280_143 : decode cX13_schedule 143 = .ok (.ireturn, 1) := by decide +kernel
theorem dd280_144 : decode cX13_schedule 144 = .ok (.aload_n 0, 1) := by decide +kernel
theorem dd280_145 : decode cX13_schedule 145 = .ok (.getfield 136, 3) := by decide +kernel
theorem dd280_148 : decode cX13_schedule 148 = .ok (.iload 4, 2) := by decide +kernel
theorem dd280_150 : decode cX13_schedule 150 = .ok (.baload, 1) := by decide +kernel
theorem dd280_151 : decode cX13_schedule 151 = .ok (.ifCond .eq 13, 3) := by decide +kernel
theorem dd280_154 : decode cX13_schedule 154 = .ok (.aload_n 0, 1) := by decide +kernel
theorem dd280_155 : decode cX13_schedule 155 = .ok (.getfield 148, 3) := by decide +kernel
theorem dd280_158 : decode cX13_schedule 158 = .ok (.iload 4, 2) := by decide +kernel
theorem dd280_160 : decode cX13_schedule 160 = .ok (.iaload, 1) := by decide +kernel
theorem dd280_161 : decode cX13_schedule 161 = .ok (.goto 4, 3) := by decide +kernel
theorem dd280_164 : decode cX13_schedule 164 = .ok (.iconst (-1), 1) := by decide +kernel
theorem dd280_165 : decode cX13_schedule 165 = .ok (.ireturn, 1) := by decide +kernel
def f280 (n : Nat) (x1 : Int32) (x2 : Int32) (x3 : Int32) (s : zσ) : Option (Int32 × zσ) :=
    if (s.1 1132 17) = (0 : Int32) then
    some ((-3 : Int32), s)
    else yb1 (f270 n x1 s) fun v2 u1 =>
    if v2 = (0 : Int32) then
    some ((-1 : Int32), u1)
    else if x2 < (0 : Int32) then
    some ((-2 : Int32), u1)
    else if (1 : Int32) < x2 then
    some ((-2 : Int32), u1)
    else if x3 < (0 : Int32) then
    some ((-2 : Int32), u1)
    else if (3 : Int32) < x3 then
    some ((-2 : Int32), u1)
    else zlet ((((2 : Int32) * x1) + x2)) fun v3 =>
    if x3 = (0 : Int32) then
    if zin? v3 16 = true then
    if (u1.1 1240 (nx v3)) = (0 : Int32) then
    some ((-1 : Int32), u1)
    else if zin? v3 16 = true then
    some ((u1.1 1241 (nx v3)), u1)
    else none
    else none
    else if x3 = (1 : Int32) then
    if zin? v3 16 = true then
    if (u1.1 1240 (nx v3)) = (0 : Int32) then
    some ((0 : Int32), u1)
    else if zin? v3 16 = true then
    some ((u1.1 1242 (nx v3)), u1)
    else none
    else none
    else if x3 = (2 : Int32) then
    if zin? v3 16 = true then
    if (u1.1 1240 (nx v3)) = (0 : Int32) then
    some ((2147483647 : Int32), u1)
    else if zin? v3 16 = true then
    some ((u1.1 1243 (nx v3)), u1)
    else none
    else none
    else if zin? v3 16 = true then
    if (u1.1 1240 (nx v3)) = (0 : Int32) then
    some ((-1 : Int32), u1)
    else if zin? v3 16 = true then
    some ((u1.1 1244 (nx v3)), u1)
    else none
    else none
set_option maxRecDepth 20000 in
theorem f280_ok {n d : Nat} {x1 : Int32} {x2 : Int32} {x3 : Int32} {s : zσ} {v : Int32} {s2 : zσ} (hd : 2 ≤ d) (h : f280 n x1 x2 x3 s = some (v, s2)) {w : zσ} {fz : Bool} {L : Nat} {xs : Nat → Int32} : zGo (zX fz L xs) d q_280 (0, [(0, .ref 1132), (1, .int x1), (2, .int x2), (3, .int x3)], [], zmk w s, 0, 0) (some (.int v), zmk w s2, 0, 0) := by
  obtain ⟨d, rfl⟩ : ∃ d0, d = d0 + 1 := ⟨d - 1, by omega⟩
  unfold f280 at h
  refine zGo_s (pc' := 1) (st' := [.ref 1132]) dd280_0 rfl ?_
  refine mGI dd280_1 rfl rfl rfl rfl ?_
  rcases oite h with ⟨hc, h⟩ | ⟨hc, h⟩
  · refine zUF dd280_4 (kNeF hc) ?_
    refine zGo_s (pc' := 9) (st' := [.int (-3 : Int32)]) dd280_7 rfl ?_
    obtain ⟨rfl, rfl⟩ := oret h
    exact zGo_ret dd280_9 rfl rfl
  · refine zUT dd280_4 rfl (kNeT hc) ?_
    refine zGo_s (pc' := 11) (st' := [.ref 1132]) dd280_10 rfl ?_
    refine zGo_s (pc' := 12) (st' := [.int x1, .ref 1132]) dd280_11 rfl ?_
    obtain ⟨v2, u1, hq, h⟩ := obnd h
    refine zCV1 (As := [.int x1]) (rest := []) (b := 1132) (q' := q_270) dd280_12 rfl rfl (rcv_m rfl rfl (by decide)) rfl rfl rfl (f270_ok (d := d) (by omega)  hq) ?_
    rcases oite h with ⟨hc, h⟩ | ⟨hc, h⟩
    · refine zUF dd280_15 (kNeF hc) ?_
      refine zGo_s (pc' := 19) (st' := [.int (-1 : Int32)]) dd280_18 rfl ?_
      obtain ⟨rfl, rfl⟩ := oret h
      exact zGo_ret dd280_19 rfl rfl
    · refine zUT dd280_15 rfl (kNeT hc) ?_
      refine zGo_s (pc' := 21) (st' := [.int x2]) dd280_20 rfl ?_
      rcases oite h with ⟨hc, h⟩ | ⟨hc, h⟩
      · refine zUT dd280_21 rfl (kLtT hc) ?_
        refine zGo_s (pc' := 40) (st' := [.int (-2 : Int32)]) dd280_38 rfl ?_
        obtain ⟨rfl, rfl⟩ := oret h
        exact zGo_ret dd280_40 rfl rfl
      · refine zUF dd280_21 (kLtF hc) ?_
        refine zGo_s (pc' := 25) (st' := [.int x2]) dd280_24 rfl ?_
        refine zGo_s (pc' := 26) (st' := [.int (1 : Int32), .int x2]) dd280_25 rfl ?_
        rcases oite h with ⟨hc, h⟩ | ⟨hc, h⟩
        · refine zIT dd280_26 rfl (kGtT hc) ?_
          refine zGo_s (pc' := 40) (st' := [.int (-2 : Int32)]) dd280_38 rfl ?_
          obtain ⟨rfl, rfl⟩ := oret h
          exact zGo_ret dd280_40 rfl rfl
        · refine zIF dd280_26 (kGtF hc) ?_
          refine zGo_s (pc' := 30) (st' := [.int x3]) dd280_29 rfl ?_
          rcases oite h with ⟨hc, h⟩ | ⟨hc, h⟩
          · refine zUT dd280_30 rfl (kLtT hc) ?_
            refine zGo_s (pc' := 40) (st' := [.int (-2 : Int32)]) dd280_38 rfl ?_
            obtain ⟨rfl, rfl⟩ := oret h
            exact zGo_ret dd280_40 rfl rfl
          · refine zUF dd280_30 (kLtF hc) ?_
            refine zGo_s (pc' := 34) (st' := [.int x3]) dd280_33 rfl ?_
            refine zGo_s (pc' := 35) (st' := [.int (3 : Int32), .int x3]) dd280_34 rfl ?_
            rcases oite h with ⟨hc, h⟩ | ⟨hc, h⟩
            · refine zIF dd280_35 (kLeF hc) ?_
              refine zGo_s (pc' := 40) (st' := [.int (-2 : Int32)]) dd280_38 rfl ?_
              obtain ⟨rfl, rfl⟩ := oret h
              exact zGo_ret dd280_40 rfl rfl
            · refine zIT dd280_35 rfl (kLeT hc) ?_
              refine zGo_s (pc' := 42) (st' := [.int (2 : Int32)]) dd280_41 rfl ?_
              refine zGo_s (pc' := 43) (st' := [.int x1, .int (2 : Int32)]) dd280_42 rfl ?_
              refine zGo_s (pc' := 44) (st' := [.int ((2 : Int32) * x1)]) dd280_43 rfl ?_
              refine zGo_s (pc' := 45) (st' := [.int x2, .int ((2 : Int32) * x1)]) dd280_44 rfl ?_
              refine zGo_s (pc' := 46) (st' := [.int (((2 : Int32) * x1) + x2)]) dd280_45 rfl ?_
              obtain ⟨v3, e_v3, h⟩ := olet h
              refine zGo_is1 e_v3 dd280_46 (x' := (48, [(4, .int v3), (0, .ref 1132), (1, .int x1), (2, .int x2), (3, .int x3)], [], _, _, _)) rfl ?_
              refine zGo_s (pc' := 49) (st' := [.int x3]) dd280_48 rfl ?_
              rcases oite h with ⟨hc, h⟩ | ⟨hn0, h⟩
              · refine zGo_sw dd280_49 (o := 27) (by rw [hc]; decide +kernel) rfl ?_
                refine zGo_s (pc' := 77) (st' := [.ref 1132]) dd280_76 rfl ?_
                refine mGF (e := 1240) dd280_77 rfl rfl rfl rfl rfl ?_
                refine zGo_s (pc' := 82) (st' := [.int v3, .ref 1240]) dd280_80 rfl ?_
                obtain ⟨hi, h⟩ := ochk h
                refine mBA dd280_82 rfl rfl rfl hi ?_
                rcases oite h with ⟨hc, h⟩ | ⟨hc, h⟩
                · refine zUT dd280_83 rfl (kEqT hc) ?_
                  refine zGo_s (pc' := 97) (st' := [.int (-1 : Int32)]) dd280_96 rfl ?_
                  obtain ⟨rfl, rfl⟩ := oret h
                  exact zGo_ret dd280_97 rfl rfl
                · refine zUF dd280_83 (kEqF hc) ?_
                  refine zGo_s (pc' := 87) (st' := [.ref 1132]) dd280_86 rfl ?_
                  refine mGF (e := 1241) dd280_87 rfl rfl rfl rfl rfl ?_
                  refine zGo_s (pc' := 92) (st' := [.int v3, .ref 1241]) dd280_90 rfl ?_
                  obtain ⟨hi, h⟩ := ochk h
                  refine mIA dd280_92 rfl rfl hi ?_
                  refine zGo_s (pc' := 97) (st' := [.int (u1.1 1241 (nx v3))]) dd280_93 rfl ?_
                  obtain ⟨rfl, rfl⟩ := oret h
                  exact zGo_ret dd280_97 rfl rfl
              rcases oite h with ⟨hc, h⟩ | ⟨hn1, h⟩
              · refine zGo_sw dd280_49 (o := 49) (by rw [hc]; decide +kernel) rfl ?_
                refine zGo_s (pc' := 99) (st' := [.ref 1132]) dd280_98 rfl ?_
                refine mGF (e := 1240) dd280_99 rfl rfl rfl rfl rfl ?_
                refine zGo_s (pc' := 104) (st' := [.int v3, .ref 1240]) dd280_102 rfl ?_
                obtain ⟨hi, h⟩ := ochk h
                refine mBA dd280_104 rfl rfl rfl hi ?_
                rcases oite h with ⟨hc, h⟩ | ⟨hc, h⟩
                · refine zUT dd280_105 rfl (kEqT hc) ?_
                  refine zGo_s (pc' := 119) (st' := [.int (0 : Int32)]) dd280_118 rfl ?_
                  obtain ⟨rfl, rfl⟩ := oret h
                  exact zGo_ret dd280_119 rfl rfl
                · refine zUF dd280_105 (kEqF hc) ?_
                  refine zGo_s (pc' := 109) (st' := [.ref 1132]) dd280_108 rfl ?_
                  refine mGF (e := 1242) dd280_109 rfl rfl rfl rfl rfl ?_
                  refine zGo_s (pc' := 114) (st' := [.int v3, .ref 1242]) dd280_112 rfl ?_
                  obtain ⟨hi, h⟩ := ochk h
                  refine mIA dd280_114 rfl rfl hi ?_
                  refine zGo_s (pc' := 119) (st' := [.int (u1.1 1242 (nx v3))]) dd280_115 rfl ?_
                  obtain ⟨rfl, rfl⟩ := oret h
                  exact zGo_ret dd280_119 rfl rfl
              rcases oite h with ⟨hc, h⟩ | ⟨hn2, h⟩
              · refine zGo_sw dd280_49 (o := 71) (by rw [hc]; decide +kernel) rfl ?_
                refine zGo_s (pc' := 121) (st' := [.ref 1132]) dd280_120 rfl ?_
                refine mGF (e := 1240) dd280_121 rfl rfl rfl rfl rfl ?_
                refine zGo_s (pc' := 126) (st' := [.int v3, .ref 1240]) dd280_124 rfl ?_
                obtain ⟨hi, h⟩ := ochk h
                refine mBA dd280_126 rfl rfl rfl hi ?_
                rcases oite h with ⟨hc, h⟩ | ⟨hc, h⟩
                · refine zUT dd280_127 rfl (kEqT hc) ?_
                  refine zGo_s (pc' := 143) (st' := [.int (2147483647 : Int32)]) dd280_140 rfl ?_
                  obtain ⟨rfl, rfl⟩ := oret h
                  exact zGo_ret dd280_143 rfl rfl
                · refine zUF dd280_127 (kEqF hc) ?_
                  refine zGo_s (pc' := 131) (st' := [.ref 1132]) dd280_130 rfl ?_
                  refine mGF (e := 1243) dd280_131 rfl rfl rfl rfl rfl ?_
                  refine zGo_s (pc' := 136) (st' := [.int v3, .ref 1243]) dd280_134 rfl ?_
                  obtain ⟨hi, h⟩ := ochk h
                  refine mIA dd280_136 rfl rfl hi ?_
                  refine zGo_s (pc' := 143) (st' := [.int (u1.1 1243 (nx v3))]) dd280_137 rfl ?_
                  obtain ⟨rfl, rfl⟩ := oret h
                  exact zGo_ret dd280_143 rfl rfl
              refine zGo_sw dd280_49 (o := 95) (zto_d (by decide) (by decide) fun k hk => ?_) rfl ?_
              · have hk2 : k = 0 ∨ k = 1 ∨ k = 2 := by omega
                rcases hk2 with rfl | rfl | rfl
                · exact Or.inr hn0
                · exact Or.inr hn1
                · exact Or.inr hn2
              refine zGo_s (pc' := 145) (st' := [.ref 1132]) dd280_144 rfl ?_
              refine mGF (e := 1240) dd280_145 rfl rfl rfl rfl rfl ?_
              refine zGo_s (pc' := 150) (st' := [.int v3, .ref 1240]) dd280_148 rfl ?_
              obtain ⟨hi, h⟩ := ochk h
              refine mBA dd280_150 rfl rfl rfl hi ?_
              rcases oite h with ⟨hc, h⟩ | ⟨hc, h⟩
              · refine zUT dd280_151 rfl (kEqT hc) ?_
                refine zGo_s (pc' := 165) (st' := [.int (-1 : Int32)]) dd280_164 rfl ?_
                obtain ⟨rfl, rfl⟩ := oret h
                exact zGo_ret dd280_165 rfl rfl
              · refine zUF dd280_151 (kEqF hc) ?_
                refine zGo_s (pc' := 155) (st' := [.ref 1132]) dd280_154 rfl ?_
                refine mGF (e := 1244) dd280_155 rfl rfl rfl rfl rfl ?_
                refine zGo_s (pc' := 160) (st' := [.int v3, .ref 1244]) dd280_158 rfl ?_
                obtain ⟨hi, h⟩ := ochk h
                refine mIA dd280_160 rfl rfl hi ?_
                refine zGo_s (pc' := 165) (st' := [.int (u1.1 1244 (nx v3))]) dd280_161 rfl ?_
                obtain ⟨rfl, rfl⟩ := oret h
                exact zGo_ret dd280_165 rfl rfl
/-! PHModel.waitsForWhom(I)I -/
theorem dd282_0 : decode cX13_waitsForWhom 0 = .ok (.aload_n 0, 1) := by decide +kernel
theorem dd282_1 : decode cX13_waitsForWhom 1 = .ok (.iload_n 1, 1) := by decide +kernel
theorem dd282_2 : decode cX13_waitsForWhom 2 = .ok (.invokevirtual 709, 3) := by decide +kernel
theorem dd282_5 : decode cX13_waitsForWhom 5 = .ok (.ifCond .eq 16, 3) := by decide +kernel
theorem dd282_8 : decode cX13_waitsForWhom 8 = .ok (.aload_n 0, 1) := by decide +kernel
theorem dd282_9 : decode cX13_waitsForWhom 9 = .ok (.getfield 127, 3) := by decide +kernel
theorem dd282_12 : decode cX13_waitsForWhom 12 = .ok (.aload_n 0, 1) := by decide +kernel
theorem dd282_13 : decode cX13_waitsForWhom 13 = .ok (.iload_n 1, 1) := by decide +kernel
theorem dd282_14 : decode cX13_waitsForWhom 14 = .ok (.invokevirtual 591, 3) := by decide +kernel
theorem dd282_17 : decode cX13_waitsForWhom 17 = .ok (.iaload, 1) := by decide +kernel
theorem dd282_18 : decode cX13_waitsForWhom 18 = .ok (.goto 4, 3) := by decide +kernel
theorem dd282_21 : decode cX13_waitsForWhom 21 = .ok (.iconst (-1), 1) := by decide +kernel
theorem dd282_22 : decode cX13_waitsForWhom 22 = .ok (.istore_n 2, 1) := by decide +kernel
theorem dd282_23 : decode cX13_waitsForWhom 23 = .ok (.iload_n 2, 1) := by decide +kernel
theorem dd282_24 : decode cX13_waitsForWhom 24 = .ok (.iconst (-1), 1) := by decide +kernel
theorem dd282_25 : decode cX13_waitsForWhom 25 = .ok (.if_icmp .eq 31, 3) := by decide +kernel
theorem dd282_28 : decode cX13_waitsForWhom 28 = .ok (.aload_n 0, 1) := by decide +kernel
theorem dd282_29 : decode cX13_waitsForWhom 29 = .ok (.getfield 20, 3) := by decide +kernel
theorem dd282_32 : decode cX13_waitsForWhom 32 = .ok (.getfield 459, 3) := by decide +kernel
theorem dd282_35 : decode cX13_waitsForWhom 35 = .ok (.iload_n 2, 1) := by decide +kernel
theorem dd282_36 : decode cX13_waitsForWhom 36 = .ok (.iaload, 1) := by decide +kernel
theorem dd282_37 : decode cX13_waitsForWhom 37 = .ok (.bipush 12, 2) := by decide +kernel
theorem dd282_39 : decode cX13_waitsForWhom 39 = .ok (.if_icmp .eq 19, 3) := by decide +kernel
theorem dd282_42 : decode cX13_waitsForWhom 42 = .ok (.aload_n 0, 1) := by decide +kernel
theorem dd282_43 : decode cX13_waitsForWhom 43 = .ok (.getfield 20, 3) := by decide +kernel
theorem dd282_46 : decode cX13_waitsForWhom 46 = .ok (.getfield 459, 3) := by decide +kernel
theorem dd282_49 : decode cX13_waitsForWhom 49 = .ok (.iload_n 2, 1) := by decide +kernel
theorem dd282_50 : decode cX13_waitsForWhom 50 = .ok (.iaload, 1) := by decide +kernel
theorem dd282_51 : decode cX13_waitsForWhom 51 = .ok (.bipush 14, 2) := by decide +kernel
theorem dd282_53 : decode cX13_waitsForWhom 53 = .ok (.if_icmp .eq 5, 3) := by decide +kernel
theorem dd282_56 : decode cX13_waitsForWhom 56 = .ok (.iconst 0, 1) := by decide +kernel
theorem dd282_57 : decode cX13_waitsForWhom 57 = .ok (.ireturn, 1) := by decide +kernel
theorem dd282_58 : decode cX13_waitsForWhom 58 = .ok (.aload_n 0, 1) := by decide +kernel
theorem dd282_59 : decode cX13_waitsForWhom 59 = .ok (.getfield 20, 3) := by decide +kernel
theorem dd282_62 : decode cX13_waitsForWhom 62 = .ok (.getfield 544, 3) := by decide +kernel
theorem dd282_65 : decode cX13_waitsForWhom 65 = .ok (.aload_n 0, 1) := by decide +kernel
theorem dd282_66 : decode cX13_waitsForWhom 66 = .ok (.getfield 20, 3) := by decide +kernel
theorem dd282_69 : decode cX13_waitsForWhom 69 = .ok (.getfield 441, 3) := by decide +kernel
theorem dd282_72 : decode cX13_waitsForWhom 72 = .ok (.iload_n 2, 1) := by decide +kernel
theorem dd282_73 : decode cX13_waitsForWhom 73 = .ok (.iaload, 1) := by decide +kernel
theorem dd282_74 : decode cX13_waitsForWhom 74 = .ok (.iaload, 1) := by decide +kernel
theorem dd282_75 : decode cX13_waitsForWhom 75 = .ok (.istore_n 3, 1) := by decide +kernel
theorem dd282_76 : decode cX13_waitsForWhom 76 = .ok (.aload_n 0, 1) := by decide +kernel
theorem dd282_77 : decode cX13_waitsForWhom 77 = .ok (.getfield 51, 3) := by decide +kernel
theorem dd282_80 : decode cX13_waitsForWhom 80 = .ok (.iload_n 3, 1) := by decide +kernel
theorem dd282_81 : decode cX13_waitsForWhom 81 = .ok (.iaload, 1) := by decide +kernel
theorem dd282_82 : decode cX13_waitsForWhom 82 = .ok (.iconst (-1), 1) := by decide +kernel
theorem dd282_83 : decode cX13_waitsForWhom 83 = .ok (.if_icmp .ne 7, 3) := by decide +kernel
theorem dd282_86 : decode cX13_waitsForWhom 86 = .ok (.iconst 0, 1) := by decide +kernel
theorem dd282_87 : decode cX13_waitsForWhom 87 = .ok (.goto 11, 3) := by decide +kernel
theorem dd282_90 : decode cX13_waitsForWhom 90 = .ok (.iconst 1, 1) := by decide +kernel
theorem dd282_91 : decode cX13_waitsForWhom 91 = .ok (.aload_n 0, 1) := by decide +kernel
theorem dd282_92 : decode cX13_waitsForWhom 92 = .ok (.getfield 51, 3) := by decide +kernel
theorem dd282_95 : decode cX13_waitsForWhom 95 = .ok (.iload_n 3, 1) := by decide +kernel
theorem dd282_96 : decode cX13_waitsForWhom 96 = .ok (.iaload, 1) := by decide +kernel
theorem dd282_97 : decode cX13_waitsForWhom 97 = .ok (.ishl, 1) := by decide +kernel
theorem dd282_98 : decode cX13_waitsForWhom 98 = .ok (.istore 4, 2) := by decide +kernel
theorem dd282_100 : decode cX13_waitsForWhom 100 = .ok (.iconst 0, 1) := by decide +kernel
theorem dd282_101 : decode cX13_waitsForWhom 101 = .ok (.istore 5, 2) := by decide +kernel
theorem dd282_103 : decode cX13_waitsForWhom 103 = .ok (.iload 5, 2) := by decide +kernel
theorem dd282_105 : decode cX13_waitsForWhom 105 = .ok (.aload_n 0, 1) := by decide +kernel
theorem dd282_106 : decode cX13_waitsForWhom 106 = .ok (.invokevirtual 583, 3) := by decide +kernel
theorem dd282_109 : decode cX13_waitsForWhom 109 = .ok (.if_icmp .ge 51, 3) := by decide +kernel
theorem dd282_112 : decode cX13_waitsForWhom 112 = .ok (.aload_n 0, 1) := by decide +kernel
theorem dd282_113 : decode cX13_waitsForWhom 113 = .ok (.getfield 20, 3) := by decide +kernel
theorem dd282_116 : decode cX13_waitsForWhom 116 = .ok (.getfield 459, 3) := by decide +kernel
theorem dd282_119 : decode cX13_waitsForWhom 119 = .ok (.iload_n 2, 1) := by decide +kernel
theorem dd282_120 : decode cX13_waitsForWhom 120 = .ok (.iaload, 1) := by decide +kernel
theorem dd282_121 : decode cX13_waitsForWhom 121 = .ok (.bipush 12, 2) := by decide +kernel
theorem dd282_123 : decode cX13_waitsForWhom 123 = .ok (.if_icmp .ne 37, 3) := by decide +kernel
theorem dd282_126 : decode cX13_waitsForWhom 126 = .ok (.iload 4, 2) := by decide +kernel
theorem dd282_128 : decode cX13_waitsForWhom 128 = .ok (.aload_n 0, 1) := by decide +kernel
theorem dd282_129 : decode cX13_waitsForWhom 129 = .ok (.getfield 54, 3) := by decide +kernel
theorem dd282_132 : decode cX13_waitsForWhom 132 = .ok (.bipush 8, 2) := by decide +kernel
theorem dd282_134 : decode cX13_waitsForWhom 134 = .ok (.iload_n 3, 1) := by decide +kernel
theorem dd282_135 : decode cX13_waitsForWhom 135 = .ok (.imul, 1) := by decide +kernel
theorem dd282_136 : decode cX13_waitsForWhom 136 = .ok (.iload 5, 2) := by decide +kernel
theorem dd282_138 : decode cX13_waitsForWhom 138 = .ok (.iadd, 1) := by decide +kernel
theorem dd282_139 : decode cX13_waitsForWhom 139 = .ok (.iaload, 1) := by decide +kernel
theorem dd282_140 : decode cX13_waitsForWhom 140 = .ok (.ifCond .le 10, 3) := by decide +kernel
theorem dd282_143 : decode cX13_waitsForWhom 143 = .ok (.iconst 1, 1) := by decide +kernel
theorem dd282_144 : decode cX13_waitsForWhom 144 = .ok (.iload 5, 2) := by decide +kernel
theorem dd282_146 : decode cX13_waitsForWhom 146 = .ok (.ishl, 1) := by decide +kernel
theorem dd282_147 : decode cX13_waitsForWhom 147 = .ok (.goto 4, 3) := by decide +kernel
theorem dd282_150 : decode cX13_waitsForWhom 150 = .ok (.iconst 0, 1) := by decide +kernel
theorem dd282_151 : decode cX13_waitsForWhom 151 = .ok (.ior, 1) := by decide +kernel
theorem dd282_152 : decode cX13_waitsForWhom 152 = .ok (.istore 4, 2) := by decide +kernel
theorem dd282_154 : decode cX13_waitsForWhom 154 = .ok (.iinc 5 1, 3) := by decide +kernel
theorem dd282_157 : decode cX13_waitsForWhom 157 = .ok (.goto (-54), 3) := by decide +kernel
theorem dd282_160 : decode cX13_waitsForWhom 160 = .ok (.iload 4, 2) := by decide +kernel
theorem dd282_162 : decode cX13_waitsForWhom 162 = .ok (.ireturn, 1) := by decide +kernel
def f282_151 (n : Nat) (r103 : Int32 → Int32 → Int32 → Int32 → zσ → Option (Int32 × zσ)) (x2 : Int32) (x3 : Int32) (x5 : Int32) (y0 : Int32) (y1 : Int32) (s : zσ) : Option (Int32 × zσ) :=
    zlet ((y1 ||| y0)) fun v1 =>
    r103 x2 x3 v1 (x5 + (1 : Int32)) s
set_option maxRecDepth 20000 in
theorem f282_151_ok {n d : Nat} {r103 : Int32 → Int32 → Int32 → Int32 → zσ → Option (Int32 × zσ)} {x2 : Int32} {x3 : Int32} {x5 : Int32} {y0 : Int32} {y1 : Int32} {s : zσ} {v : Int32} {s2 : zσ} (hd : 1 ≤ d) (hr103 : ∀ (x2 : Int32) (x3 : Int32) (x4 : Int32) (x5 : Int32) (s : zσ) (v : Int32) (s2 : zσ), r103 x2 x3 x4 x5 s = some (v, s2) → ∀ {w : zσ} {fz : Bool} {L : Nat} {xs : Nat → Int32}, zGo (zX fz L xs) d q_282 (103, [(0, .ref 1132), (2, .int x2), (3, .int x3), (4, .int x4), (5, .int x5)], [], zmk w s, 0, 0) (some (.int v), zmk w s2, 0, 0)) (h : f282_151 n r103 x2 x3 x5 y0 y1 s = some (v, s2)) {w : zσ} {fz : Bool} {L : Nat} {xs : Nat → Int32} : zGo (zX fz L xs) d q_282 (151, [(0, .ref 1132), (2, .int x2), (3, .int x3), (5, .int x5)], [.int y0, .int y1], zmk w s, 0, 0) (some (.int v), zmk w s2, 0, 0) := by
  obtain ⟨d, rfl⟩ : ∃ d0, d = d0 + 1 := ⟨d - 1, by omega⟩
  unfold f282_151 at h
  refine zGo_s (pc' := 152) (st' := [.int (y1 ||| y0)]) dd282_151 rfl ?_
  obtain ⟨v1, e_v1, h⟩ := olet h
  refine zGo_is1 e_v1 dd282_152 (x' := (154, [(4, .int v1), (0, .ref 1132), (2, .int x2), (3, .int x3), (5, .int x5)], [], _, _, _)) rfl ?_
  refine zGo_s (pc' := 157) (st' := []) (lv' := [(5, .int (x5 + (1 : Int32))), (4, .int v1), (0, .ref 1132), (2, .int x2), (3, .int x3)]) dd282_154 rfl ?_
  refine zGo_s (pc' := 103) (st' := []) dd282_157 rfl ?_
  exact zGo_lv (lv := [(0, .ref 1132), (2, .int x2), (3, .int x3), (4, .int v1), (5, .int (x5 + (1 : Int32)))]) ⟨by simp, by simp, by simp⟩ (hr103 _ _ _ _ _ _ _ h)
def f282_103 (n : Nat) : Nat → Int32 → Int32 → Int32 → Int32 → zσ → Option (Int32 × zσ)
  | 0, _, _, _, _, _ => none
  | j + 1, x2, x3, x4, x5, s =>
    yb1 (f209 n s) fun v2 u1 =>
    if x5 < v2 then
    zrd 12 (u1.2.2 1132 11) fun a3 =>
    if zin? x2 200 = true then
    if (u1.1 (a3 + 15) (nx x2)) = (12 : Int32) then
    if zin? (((8 : Int32) * x3) + x5) 32 = true then
    if (0 : Int32) < (u1.1 1213 (nx (((8 : Int32) * x3) + x5))) then
    f282_151 n (f282_103 n j) x2 x3 x5 ((1 : Int32) <<< (x5 &&& 31)) x4 u1
    else f282_151 n (f282_103 n j) x2 x3 x5 (0 : Int32) x4 u1
    else none
    else some (x4, u1)
    else none
    else some (x4, u1)
set_option maxRecDepth 20000 in
theorem f282_103_ok {n d : Nat} (hd : 1 ≤ d) : ∀ (j : Nat) (x2 : Int32) (x3 : Int32) (x4 : Int32) (x5 : Int32) (s : zσ) (v : Int32) (s2 : zσ), f282_103 n j x2 x3 x4 x5 s = some (v, s2) → ∀ {w : zσ} {fz : Bool} {L : Nat} {xs : Nat → Int32}, zGo (zX fz L xs) d q_282 (103, [(0, .ref 1132), (2, .int x2), (3, .int x3), (4, .int x4), (5, .int x5)], [], zmk w s, 0, 0) (some (.int v), zmk w s2, 0, 0) := by
  obtain ⟨d, rfl⟩ : ∃ d0, d = d0 + 1 := ⟨d - 1, by omega⟩
  intro j
  induction j with
  | zero => intro x2 x3 x4 x5 s v s2 h; cases h
  | succ j ih =>
    intro x2 x3 x4 x5 s v s2 h w fz L xs
    rw [f282_103] at h
    refine zGo_s (pc' := 105) (st' := [.int x5]) dd282_103 rfl ?_
    refine zGo_s (pc' := 106) (st' := [.ref 1132, .int x5]) dd282_105 rfl ?_
    obtain ⟨v2, u1, hq, h⟩ := obnd h
    refine zCV1 (As := []) (rest := [.int x5]) (b := 1132) (q' := q_209) dd282_106 rfl rfl (rcv_m rfl rfl (by decide)) rfl rfl rfl (f209_ok (d := d) (by omega)  hq) ?_
    rcases oite h with ⟨hc, h⟩ | ⟨hc, h⟩
    · refine zIF dd282_109 (kGeF hc) ?_
      refine zGo_s (pc' := 113) (st' := [.ref 1132]) dd282_112 rfl ?_
      obtain ⟨a3, e_a3, c_a3, h⟩ := ordd h
      refine mGR dd282_113 rfl rfl rfl rfl e_a3 ?_
      refine mGF (e := (a3 + 15)) dd282_116 rfl (ck12_s c_a3).1 (ck12_s c_a3).2 rfl (cf12_17 c_a3).1 ?_
      refine zGo_s (pc' := 120) (st' := [.int x2, .ref (a3 + 15)]) dd282_119 rfl ?_
      obtain ⟨hi, h⟩ := ochk h
      refine mIA dd282_120 (cf12_17 c_a3).2.1 (cf12_17 c_a3).2.2 hi ?_
      refine zGo_s (pc' := 123) (st' := [.int (12 : Int32), .int (u1.1 (a3 + 15) (nx x2))]) dd282_121 rfl ?_
      rcases oite h with ⟨hc, h⟩ | ⟨hc, h⟩
      · refine zIF dd282_123 (kNeF hc) ?_
        refine zGo_s (pc' := 128) (st' := [.int x4]) dd282_126 rfl ?_
        refine zGo_s (pc' := 129) (st' := [.ref 1132, .int x4]) dd282_128 rfl ?_
        refine mGF (e := 1213) dd282_129 rfl rfl rfl rfl rfl ?_
        refine zGo_s (pc' := 134) (st' := [.int (8 : Int32), .ref 1213, .int x4]) dd282_132 rfl ?_
        refine zGo_s (pc' := 135) (st' := [.int x3, .int (8 : Int32), .ref 1213, .int x4]) dd282_134 rfl ?_
        refine zGo_s (pc' := 136) (st' := [.int ((8 : Int32) * x3), .ref 1213, .int x4]) dd282_135 rfl ?_
        refine zGo_s (pc' := 138) (st' := [.int x5, .int ((8 : Int32) * x3), .ref 1213, .int x4]) dd282_136 rfl ?_
        refine zGo_s (pc' := 139) (st' := [.int (((8 : Int32) * x3) + x5), .ref 1213, .int x4]) dd282_138 rfl ?_
        obtain ⟨hi, h⟩ := ochk h
        refine mIA dd282_139 rfl rfl hi ?_
        rcases oite h with ⟨hc, h⟩ | ⟨hc, h⟩
        · refine zUF dd282_140 (kLeF hc) ?_
          refine zGo_s (pc' := 144) (st' := [.int (1 : Int32), .int x4]) dd282_143 rfl ?_
          refine zGo_s (pc' := 146) (st' := [.int x5, .int (1 : Int32), .int x4]) dd282_144 rfl ?_
          refine zGo_s (pc' := 147) (st' := [.int ((1 : Int32) <<< (x5 &&& 31)), .int x4]) dd282_146 rfl ?_
          refine zGo_s (pc' := 151) (st' := [.int ((1 : Int32) <<< (x5 &&& 31)), .int x4]) dd282_147 rfl ?_
          exact zGo_lv (lv := [(0, .ref 1132), (2, .int x2), (3, .int x3), (5, .int x5)]) ⟨by simp, by simp, by simp⟩ (f282_151_ok hd ih h)
        · refine zUT dd282_140 rfl (kLeT hc) ?_
          refine zGo_s (pc' := 151) (st' := [.int (0 : Int32), .int x4]) dd282_150 rfl ?_
          exact zGo_lv (lv := [(0, .ref 1132), (2, .int x2), (3, .int x3), (5, .int x5)]) ⟨by simp, by simp, by simp⟩ (f282_151_ok hd ih h)
      · refine zIT dd282_123 rfl (kNeT hc) ?_
        refine zGo_s (pc' := 162) (st' := [.int x4]) dd282_160 rfl ?_
        obtain ⟨rfl, rfl⟩ := oret h
        exact zGo_ret dd282_162 rfl rfl
    · refine zIT dd282_109 rfl (kGeT hc) ?_
      refine zGo_s (pc' := 162) (st' := [.int x4]) dd282_160 rfl ?_
      obtain ⟨rfl, rfl⟩ := oret h
      exact zGo_ret dd282_162 rfl rfl
def f282_98 (n : Nat) (x2 : Int32) (x3 : Int32) (y0 : Int32) (s : zσ) : Option (Int32 × zσ) :=
    f282_103 n n x2 x3 y0 (0 : Int32) s
set_option maxRecDepth 20000 in
theorem f282_98_ok {n d : Nat} {x2 : Int32} {x3 : Int32} {y0 : Int32} {s : zσ} {v : Int32} {s2 : zσ} (hd : 1 ≤ d) (h : f282_98 n x2 x3 y0 s = some (v, s2)) {w : zσ} {fz : Bool} {L : Nat} {xs : Nat → Int32} : zGo (zX fz L xs) d q_282 (98, [(0, .ref 1132), (2, .int x2), (3, .int x3)], [.int y0], zmk w s, 0, 0) (some (.int v), zmk w s2, 0, 0) := by
  obtain ⟨d, rfl⟩ : ∃ d0, d = d0 + 1 := ⟨d - 1, by omega⟩
  unfold f282_98 at h
  refine zGo_s (pc' := 100) (st' := []) (lv' := [(4, .int y0), (0, .ref 1132), (2, .int x2), (3, .int x3)]) dd282_98 rfl ?_
  refine zGo_s (pc' := 101) (st' := [.int (0 : Int32)]) dd282_100 rfl ?_
  refine zGo_s (pc' := 103) (st' := []) (lv' := [(5, .int (0 : Int32)), (4, .int y0), (0, .ref 1132), (2, .int x2), (3, .int x3)]) dd282_101 rfl ?_
  exact zGo_lv (lv := [(0, .ref 1132), (2, .int x2), (3, .int x3), (4, .int y0), (5, .int (0 : Int32))]) ⟨by simp, by simp, by simp⟩ (f282_103_ok hd _ _ _ _ _ _ _ _ h)
def f282_58 (n : Nat) (x2 : Int32) (s : zσ) : Option (Int32 × zσ) :=
    zrd 12 (s.2.2 1132 11) fun a1 =>
    zrd 12 (s.2.2 1132 11) fun a2 =>
    if zin? x2 200 = true then
    if zin? (s.1 (a2 + 17) (nx x2)) 1400 = true then
    zlet ((s.1 (a1 + 33) (nx (s.1 (a2 + 17) (nx x2))))) fun v3 =>
    if zin? v3 4 = true then
    if (s.1 1212 (nx v3)) = (-1 : Int32) then
    f282_98 n x2 v3 (0 : Int32) s
    else if zin? v3 4 = true then
    f282_98 n x2 v3 ((1 : Int32) <<< ((s.1 1212 (nx v3)) &&& 31)) s
    else none
    else none
    else none
    else none
set_option maxRecDepth 20000 in
theorem f282_58_ok {n d : Nat} {x2 : Int32} {s : zσ} {v : Int32} {s2 : zσ} (hd : 1 ≤ d) (h : f282_58 n x2 s = some (v, s2)) {w : zσ} {fz : Bool} {L : Nat} {xs : Nat → Int32} : zGo (zX fz L xs) d q_282 (58, [(0, .ref 1132), (2, .int x2)], [], zmk w s, 0, 0) (some (.int v), zmk w s2, 0, 0) := by
  obtain ⟨d, rfl⟩ : ∃ d0, d = d0 + 1 := ⟨d - 1, by omega⟩
  unfold f282_58 at h
  refine zGo_s (pc' := 59) (st' := [.ref 1132]) dd282_58 rfl ?_
  obtain ⟨a1, e_a1, c_a1, h⟩ := ordd h
  refine mGR dd282_59 rfl rfl rfl rfl e_a1 ?_
  refine mGF (e := (a1 + 33)) dd282_62 rfl (ck12_s c_a1).1 (ck12_s c_a1).2 rfl (cf12_39 c_a1).1 ?_
  refine zGo_s (pc' := 66) (st' := [.ref 1132, .ref (a1 + 33)]) dd282_65 rfl ?_
  obtain ⟨a2, e_a2, c_a2, h⟩ := ordd h
  refine mGR dd282_66 rfl rfl rfl rfl e_a2 ?_
  refine mGF (e := (a2 + 17)) dd282_69 rfl (ck12_s c_a2).1 (ck12_s c_a2).2 rfl (cf12_19 c_a2).1 ?_
  refine zGo_s (pc' := 73) (st' := [.int x2, .ref (a2 + 17), .ref (a1 + 33)]) dd282_72 rfl ?_
  obtain ⟨hi, h⟩ := ochk h
  refine mIA dd282_73 (cf12_19 c_a2).2.1 (cf12_19 c_a2).2.2 hi ?_
  obtain ⟨hi, h⟩ := ochk h
  refine mIA dd282_74 (cf12_39 c_a1).2.1 (cf12_39 c_a1).2.2 hi ?_
  obtain ⟨v3, e_v3, h⟩ := olet h
  refine zGo_is1 e_v3 dd282_75 (x' := (76, [(3, .int v3), (0, .ref 1132), (2, .int x2)], [], _, _, _)) rfl ?_
  refine zGo_s (pc' := 77) (st' := [.ref 1132]) dd282_76 rfl ?_
  refine mGF (e := 1212) dd282_77 rfl rfl rfl rfl rfl ?_
  refine zGo_s (pc' := 81) (st' := [.int v3, .ref 1212]) dd282_80 rfl ?_
  obtain ⟨hi, h⟩ := ochk h
  refine mIA dd282_81 rfl rfl hi ?_
  refine zGo_s (pc' := 83) (st' := [.int (-1 : Int32), .int (s.1 1212 (nx v3))]) dd282_82 rfl ?_
  rcases oite h with ⟨hc, h⟩ | ⟨hc, h⟩
  · refine zIF dd282_83 (kNeF hc) ?_
    refine zGo_s (pc' := 87) (st' := [.int (0 : Int32)]) dd282_86 rfl ?_
    refine zGo_s (pc' := 98) (st' := [.int (0 : Int32)]) dd282_87 rfl ?_
    exact zGo_lv (lv := [(0, .ref 1132), (2, .int x2), (3, .int v3)]) ⟨by simp, by simp, by simp⟩ (f282_98_ok hd h)
  · refine zIT dd282_83 rfl (kNeT hc) ?_
    refine zGo_s (pc' := 91) (st' := [.int (1 : Int32)]) dd282_90 rfl ?_
    refine zGo_s (pc' := 92) (st' := [.ref 1132, .int (1 : Int32)]) dd282_91 rfl ?_
    refine mGF (e := 1212) dd282_92 rfl rfl rfl rfl rfl ?_
    refine zGo_s (pc' := 96) (st' := [.int v3, .ref 1212, .int (1 : Int32)]) dd282_95 rfl ?_
    obtain ⟨hi, h⟩ := ochk h
    refine mIA dd282_96 rfl rfl hi ?_
    refine zGo_s (pc' := 98) (st' := [.int ((1 : Int32) <<< ((s.1 1212 (nx v3)) &&& 31))]) dd282_97 rfl ?_
    exact zGo_lv (lv := [(0, .ref 1132), (2, .int x2), (3, .int v3)]) ⟨by simp, by simp, by simp⟩ (f282_98_ok hd h)
def f282_22 (n : Nat) (y0 : Int32) (s : zσ) : Option (Int32 × zσ) :=
    if y0 = (-1 : Int32) then
    some ((0 : Int32), s)
    else zrd 12 (s.2.2 1132 11) fun a1 =>
    if zin? y0 200 = true then
    if (s.1 (a1 + 15) (nx y0)) = (12 : Int32) then
    f282_58 n y0 s
    else zrd 12 (s.2.2 1132 11) fun a2 =>
    if zin? y0 200 = true then
    if (s.1 (a2 + 15) (nx y0)) = (14 : Int32) then
    f282_58 n y0 s
    else some ((0 : Int32), s)
    else none
    else none
set_option maxRecDepth 20000 in
theorem f282_22_ok {n d : Nat} {y0 : Int32} {s : zσ} {v : Int32} {s2 : zσ} (hd : 1 ≤ d) (h : f282_22 n y0 s = some (v, s2)) {w : zσ} {fz : Bool} {L : Nat} {xs : Nat → Int32} : zGo (zX fz L xs) d q_282 (22, [(0, .ref 1132)], [.int y0], zmk w s, 0, 0) (some (.int v), zmk w s2, 0, 0) := by
  obtain ⟨d, rfl⟩ : ∃ d0, d = d0 + 1 := ⟨d - 1, by omega⟩
  unfold f282_22 at h
  refine zGo_s (pc' := 23) (st' := []) (lv' := [(2, .int y0), (0, .ref 1132)]) dd282_22 rfl ?_
  refine zGo_s (pc' := 24) (st' := [.int y0]) dd282_23 rfl ?_
  refine zGo_s (pc' := 25) (st' := [.int (-1 : Int32), .int y0]) dd282_24 rfl ?_
  rcases oite h with ⟨hc, h⟩ | ⟨hc, h⟩
  · refine zIT dd282_25 rfl (kEqT hc) ?_
    refine zGo_s (pc' := 57) (st' := [.int (0 : Int32)]) dd282_56 rfl ?_
    obtain ⟨rfl, rfl⟩ := oret h
    exact zGo_ret dd282_57 rfl rfl
  · refine zIF dd282_25 (kEqF hc) ?_
    refine zGo_s (pc' := 29) (st' := [.ref 1132]) dd282_28 rfl ?_
    obtain ⟨a1, e_a1, c_a1, h⟩ := ordd h
    refine mGR dd282_29 rfl rfl rfl rfl e_a1 ?_
    refine mGF (e := (a1 + 15)) dd282_32 rfl (ck12_s c_a1).1 (ck12_s c_a1).2 rfl (cf12_17 c_a1).1 ?_
    refine zGo_s (pc' := 36) (st' := [.int y0, .ref (a1 + 15)]) dd282_35 rfl ?_
    obtain ⟨hi, h⟩ := ochk h
    refine mIA dd282_36 (cf12_17 c_a1).2.1 (cf12_17 c_a1).2.2 hi ?_
    refine zGo_s (pc' := 39) (st' := [.int (12 : Int32), .int (s.1 (a1 + 15) (nx y0))]) dd282_37 rfl ?_
    rcases oite h with ⟨hc, h⟩ | ⟨hc, h⟩
    · refine zIT dd282_39 rfl (kEqT hc) ?_
      exact zGo_lv (lv := [(0, .ref 1132), (2, .int y0)]) ⟨by simp, by simp, by simp⟩ (f282_58_ok hd h)
    · refine zIF dd282_39 (kEqF hc) ?_
      refine zGo_s (pc' := 43) (st' := [.ref 1132]) dd282_42 rfl ?_
      obtain ⟨a2, e_a2, c_a2, h⟩ := ordd h
      refine mGR dd282_43 rfl rfl rfl rfl e_a2 ?_
      refine mGF (e := (a2 + 15)) dd282_46 rfl (ck12_s c_a2).1 (ck12_s c_a2).2 rfl (cf12_17 c_a2).1 ?_
      refine zGo_s (pc' := 50) (st' := [.int y0, .ref (a2 + 15)]) dd282_49 rfl ?_
      obtain ⟨hi, h⟩ := ochk h
      refine mIA dd282_50 (cf12_17 c_a2).2.1 (cf12_17 c_a2).2.2 hi ?_
      refine zGo_s (pc' := 53) (st' := [.int (14 : Int32), .int (s.1 (a2 + 15) (nx y0))]) dd282_51 rfl ?_
      rcases oite h with ⟨hc, h⟩ | ⟨hc, h⟩
      · refine zIT dd282_53 rfl (kEqT hc) ?_
        exact zGo_lv (lv := [(0, .ref 1132), (2, .int y0)]) ⟨by simp, by simp, by simp⟩ (f282_58_ok hd h)
      · refine zIF dd282_53 (kEqF hc) ?_
        refine zGo_s (pc' := 57) (st' := [.int (0 : Int32)]) dd282_56 rfl ?_
        obtain ⟨rfl, rfl⟩ := oret h
        exact zGo_ret dd282_57 rfl rfl
def f282 (n : Nat) (x1 : Int32) (s : zσ) : Option (Int32 × zσ) :=
    yb1 (f228 n x1 s) fun v2 u1 =>
    if v2 = (0 : Int32) then
    f282_22 n (-1 : Int32) u1
    else yb1 (f214 n x1 u1) fun v4 u3 =>
    if zin? v4 1120 = true then
    f282_22 n (u3.1 1237 (nx v4)) u3
    else none
set_option maxRecDepth 20000 in
theorem f282_ok {n d : Nat} {x1 : Int32} {s : zσ} {v : Int32} {s2 : zσ} (hd : 1 ≤ d) (h : f282 n x1 s = some (v, s2)) {w : zσ} {fz : Bool} {L : Nat} {xs : Nat → Int32} : zGo (zX fz L xs) d q_282 (0, [(0, .ref 1132), (1, .int x1)], [], zmk w s, 0, 0) (some (.int v), zmk w s2, 0, 0) := by
  obtain ⟨d, rfl⟩ : ∃ d0, d = d0 + 1 := ⟨d - 1, by omega⟩
  unfold f282 at h
  refine zGo_s (pc' := 1) (st' := [.ref 1132]) dd282_0 rfl ?_
  refine zGo_s (pc' := 2) (st' := [.int x1, .ref 1132]) dd282_1 rfl ?_
  obtain ⟨v2, u1, hq, h⟩ := obnd h
  refine zCV1 (As := [.int x1]) (rest := []) (b := 1132) (q' := q_228) dd282_2 rfl rfl (rcv_m rfl rfl (by decide)) rfl rfl rfl (f228_ok (d := d) (by omega)  hq) ?_
  rcases oite h with ⟨hc, h⟩ | ⟨hc, h⟩
  · refine zUT dd282_5 rfl (kEqT hc) ?_
    refine zGo_s (pc' := 22) (st' := [.int (-1 : Int32)]) dd282_21 rfl ?_
    exact zGo_lv (lv := [(0, .ref 1132)]) ⟨by simp, by simp, by simp⟩ (f282_22_ok hd h)
  · refine zUF dd282_5 (kEqF hc) ?_
    refine zGo_s (pc' := 9) (st' := [.ref 1132]) dd282_8 rfl ?_
    refine mGF (e := 1237) dd282_9 rfl rfl rfl rfl rfl ?_
    refine zGo_s (pc' := 13) (st' := [.ref 1132, .ref 1237]) dd282_12 rfl ?_
    refine zGo_s (pc' := 14) (st' := [.int x1, .ref 1132, .ref 1237]) dd282_13 rfl ?_
    obtain ⟨v4, u3, hq, h⟩ := obnd h
    refine zCV1 (As := [.int x1]) (rest := [.ref 1237]) (b := 1132) (q' := q_214) dd282_14 rfl rfl (rcv_m rfl rfl (by decide)) rfl rfl rfl (f214_ok (d := d) (by omega)  hq) ?_
    obtain ⟨hi, h⟩ := ochk h
    refine mIA dd282_17 rfl rfl hi ?_
    refine zGo_s (pc' := 22) (st' := [.int (u3.1 1237 (nx v4))]) dd282_18 rfl ?_
    exact zGo_lv (lv := [(0, .ref 1132)]) ⟨by simp, by simp, by simp⟩ (f282_22_ok hd h)
/-! PHModel.ring(I)I -/
theorem dd281_0 : decode cX13_ring 0 = .ok (.aload_n 0, 1) := by decide +kernel
theorem dd281_1 : decode cX13_ring 1 = .ok (.getfield 557, 3) := by decide +kernel
theorem dd281_4 : decode cX13_ring 4 = .ok (.ifCond .ne 6, 3) := by decide +kernel
theorem dd281_7 : decode cX13_ring 7 = .ok (.bipush (-3), 2) := by decide +kernel
theorem dd281_9 : decode cX13_ring 9 = .ok (.ireturn, 1) := by decide +kernel
theorem dd281_10 : decode cX13_ring 10 = .ok (.iload_n 1, 1) := by decide +kernel
theorem dd281_11 : decode cX13_ring 11 = .ok (.istore_n 2, 1) := by decide +kernel
theorem dd281_12 : decode cX13_ring 12 = .ok (.iconst 0, 1) := by decide +kernel
theorem dd281_13 : decode cX13_ring 13 = .ok (.istore_n 3, 1) := by decide +kernel
theorem dd281_14 : decode cX13_ring 14 = .ok (.iload_n 3, 1) := by decide +kernel
theorem dd281_15 : decode cX13_ring 15 = .ok (.aload_n 0, 1) := by decide +kernel
theorem dd281_16 : decode cX13_ring 16 = .ok (.invokevirtual 583, 3) := by decide +kernel
theorem dd281_19 : decode cX13_ring 19 = .ok (.if_icmp .ge 95, 3) := by decide +kernel
theorem dd281_22 : decode cX13_ring 22 = .ok (.aload_n 0, 1) := by decide +kernel
theorem dd281_23 : decode cX13_ring 23 = .ok (.iload_n 3, 1) := by decide +kernel
theorem dd281_24 : decode cX13_ring 24 = .ok (.invokevirtual 780, 3) := by decide +kernel
theorem dd281_27 : decode cX13_ring 27 = .ok (.istore 4, 2) := by decide +kernel
theorem dd281_29 : decode cX13_ring 29 = .ok (.iconst 0, 1) := by decide +kernel
theorem dd281_30 : decode cX13_ring 30 = .ok (.istore 5, 2) := by decide +kernel
theorem dd281_32 : decode cX13_ring 32 = .ok (.iload 5, 2) := by decide +kernel
theorem dd281_34 : decode cX13_ring 34 = .ok (.bipush 8, 2) := by decide +kernel
theorem dd281_36 : decode cX13_ring 36 = .ok (.if_icmp .ge 53, 3) := by decide +kernel
theorem dd281_39 : decode cX13_ring 39 = .ok (.iconst 0, 1) := by decide +kernel
theorem dd281_40 : decode cX13_ring 40 = .ok (.istore 6, 2) := by decide +kernel
theorem dd281_42 : decode cX13_ring 42 = .ok (.iload 6, 2) := by decide +kernel
theorem dd281_44 : decode cX13_ring 44 = .ok (.aload_n 0, 1) := by decide +kernel
theorem dd281_45 : decode cX13_ring 45 = .ok (.invokevirtual 583, 3) := by decide +kernel
theorem dd281_48 : decode cX13_ring 48 = .ok (.if_icmp .ge 35, 3) := by decide +kernel
theorem dd281_51 : decode cX13_ring 51 = .ok (.iload 4, 2) := by decide +kernel
theorem dd281_53 : decode cX13_ring 53 = .ok (.iload 4, 2) := by decide +kernel
theorem dd281_55 : decode cX13_ring 55 = .ok (.iload 6, 2) := by decide +kernel
theorem dd281_57 : decode cX13_ring 57 = .ok (.ishr, 1) := by decide +kernel
theorem dd281_58 : decode cX13_ring 58 = .ok (.iconst 1, 1) := by decide +kernel
theorem dd281_59 : decode cX13_ring 59 = .ok (.iand, 1) := by decide +kernel
theorem dd281_60 : decode cX13_ring 60 = .ok (.iconst 1, 1) := by decide +kernel
theorem dd281_61 : decode cX13_ring 61 = .ok (.if_icmp .ne 12, 3) := by decide +kernel
theorem dd281_64 : decode cX13_ring 64 = .ok (.aload_n 0, 1) := by decide +kernel
theorem dd281_65 : decode cX13_ring 65 = .ok (.iload 6, 2) := by decide +kernel
theorem dd281_67 : decode cX13_ring 67 = .ok (.invokevirtual 780, 3) := by decide +kernel
theorem dd281_70 : decode cX13_ring 70 = .ok (.goto 4, 3) := by decide +kernel
theorem dd281_73 : decode cX13_ring 73 = .ok (.iconst 0, 1) := by decide +kernel
theorem dd281_74 : decode cX13_ring 74 = .ok (.ior, 1) := by decide +kernel
theorem dd281_75 : decode cX13_ring 75 = .ok (.istore 4, 2) := by decide +kernel
theorem dd281_77 : decode cX13_ring 77 = .ok (.iinc 6 1, 3) := by decide +kernel
theorem dd281_80 : decode cX13_ring 80 = .ok (.goto (-38), 3) := by decide +kernel
theorem dd281_83 : decode cX13_ring 83 = .ok (.iinc 5 1, 3) := by decide +kernel
theorem dd281_86 : decode cX13_ring 86 = .ok (.goto (-54), 3) := by decide +kernel
theorem dd281_89 : decode cX13_ring 89 = .ok (.iload 4, 2) := by decide +kernel
theorem dd281_91 : decode cX13_ring 91 = .ok (.iload_n 3, 1) := by decide +kernel
theorem dd281_92 : decode cX13_ring 92 = .ok (.ishr, 1) := by decide +kernel
theorem dd281_93 : decode cX13_ring 93 = .ok (.iconst 1, 1) := by decide +kernel
theorem dd281_94 : decode cX13_ring 94 = .ok (.iand, 1) := by decide +kernel
theorem dd281_95 : decode cX13_ring 95 = .ok (.iconst 1, 1) := by decide +kernel
theorem dd281_96 : decode cX13_ring 96 = .ok (.if_icmp .ne 12, 3) := by decide +kernel
theorem dd281_99 : decode cX13_ring 99 = .ok (.iload_n 2, 1) := by decide +kernel
theorem dd281_100 : decode cX13_ring 100 = .ok (.ifCond .ne 5, 3) := by decide +kernel
theorem dd281_103 : decode cX13_ring 103 = .ok (.iload_n 3, 1) := by decide +kernel
theorem dd281_104 : decode cX13_ring 104 = .ok (.ireturn, 1) := by decide +kernel
theorem dd281_105 : decode cX13_ring 105 = .ok (.iinc 2 (-1), 3) := by decide +kernel
theorem dd281_108 : decode cX13_ring 108 = .ok (.iinc 3 1, 3) := by decide +kernel
theorem dd281_111 : decode cX13_ring 111 = .ok (.goto (-97), 3) := by decide +kernel
theorem dd281_114 : decode cX13_ring 114 = .ok (.iconst (-1), 1) := by decide +kernel
theorem dd281_115 : decode cX13_ring 115 = .ok (.ireturn, 1) := by decide +kernel
def f281_108 (n : Nat) (r14 : Int32 → Int32 → zσ → Option (Int32 × zσ)) (x2 : Int32) (x3 : Int32) (s : zσ) : Option (Int32 × zσ) :=
    r14 x2 (x3 + (1 : Int32)) s
set_option maxRecDepth 20000 in
theorem f281_108_ok {n d : Nat} {r14 : Int32 → Int32 → zσ → Option (Int32 × zσ)} {x2 : Int32} {x3 : Int32} {s : zσ} {v : Int32} {s2 : zσ} (hd : 2 ≤ d) (hr14 : ∀ (x2 : Int32) (x3 : Int32) (s : zσ) (v : Int32) (s2 : zσ), r14 x2 x3 s = some (v, s2) → ∀ {w : zσ} {fz : Bool} {L : Nat} {xs : Nat → Int32}, zGo (zX fz L xs) d q_281 (14, [(0, .ref 1132), (2, .int x2), (3, .int x3)], [], zmk w s, 0, 0) (some (.int v), zmk w s2, 0, 0)) (h : f281_108 n r14 x2 x3 s = some (v, s2)) {w : zσ} {fz : Bool} {L : Nat} {xs : Nat → Int32} : zGo (zX fz L xs) d q_281 (108, [(0, .ref 1132), (2, .int x2), (3, .int x3)], [], zmk w s, 0, 0) (some (.int v), zmk w s2, 0, 0) := by
  obtain ⟨d, rfl⟩ : ∃ d0, d = d0 + 1 := ⟨d - 1, by omega⟩
  unfold f281_108 at h
  refine zGo_s (pc' := 111) (st' := []) (lv' := [(3, .int (x3 + (1 : Int32))), (0, .ref 1132), (2, .int x2)]) dd281_108 rfl ?_
  refine zGo_s (pc' := 14) (st' := []) dd281_111 rfl ?_
  exact zGo_lv (lv := [(0, .ref 1132), (2, .int x2), (3, .int (x3 + (1 : Int32)))]) ⟨by simp, by simp, by simp⟩ (hr14 _ _ _ _ _ h)
def f281_74 (n : Nat) (r14 : Int32 → Int32 → zσ → Option (Int32 × zσ)) (r32 : Int32 → Int32 → Int32 → Int32 → zσ → Option (Int32 × zσ)) (r42 : Int32 → Int32 → Int32 → Int32 → Int32 → zσ → Option (Int32 × zσ)) (x2 : Int32) (x3 : Int32) (x5 : Int32) (x6 : Int32) (y0 : Int32) (y1 : Int32) (s : zσ) : Option (Int32 × zσ) :=
    zlet ((y1 ||| y0)) fun v1 =>
    r42 x2 x3 v1 x5 (x6 + (1 : Int32)) s
set_option maxRecDepth 20000 in
theorem f281_74_ok {n d : Nat} {r14 : Int32 → Int32 → zσ → Option (Int32 × zσ)} {r32 : Int32 → Int32 → Int32 → Int32 → zσ → Option (Int32 × zσ)} {r42 : Int32 → Int32 → Int32 → Int32 → Int32 → zσ → Option (Int32 × zσ)} {x2 : Int32} {x3 : Int32} {x5 : Int32} {x6 : Int32} {y0 : Int32} {y1 : Int32} {s : zσ} {v : Int32} {s2 : zσ} (hd : 2 ≤ d) (hr14 : ∀ (x2 : Int32) (x3 : Int32) (s : zσ) (v : Int32) (s2 : zσ), r14 x2 x3 s = some (v, s2) → ∀ {w : zσ} {fz : Bool} {L : Nat} {xs : Nat → Int32}, zGo (zX fz L xs) d q_281 (14, [(0, .ref 1132), (2, .int x2), (3, .int x3)], [], zmk w s, 0, 0) (some (.int v), zmk w s2, 0, 0)) (hr32 : ∀ (x2 : Int32) (x3 : Int32) (x4 : Int32) (x5 : Int32) (s : zσ) (v : Int32) (s2 : zσ), r32 x2 x3 x4 x5 s = some (v, s2) → ∀ {w : zσ} {fz : Bool} {L : Nat} {xs : Nat → Int32}, zGo (zX fz L xs) d q_281 (32, [(0, .ref 1132), (2, .int x2), (3, .int x3), (4, .int x4), (5, .int x5)], [], zmk w s, 0, 0) (some (.int v), zmk w s2, 0, 0)) (hr42 : ∀ (x2 : Int32) (x3 : Int32) (x4 : Int32) (x5 : Int32) (x6 : Int32) (s : zσ) (v : Int32) (s2 : zσ), r42 x2 x3 x4 x5 x6 s = some (v, s2) → ∀ {w : zσ} {fz : Bool} {L : Nat} {xs : Nat → Int32}, zGo (zX fz L xs) d q_281 (42, [(0, .ref 1132), (2, .int x2), (3, .int x3), (4, .int x4), (5, .int x5), (6, .int x6)], [], zmk w s, 0, 0) (some (.int v), zmk w s2, 0, 0)) (h : f281_74 n r14 r32 r42 x2 x3 x5 x6 y0 y1 s = some (v, s2)) {w : zσ} {fz : Bool} {L : Nat} {xs : Nat → Int32} : zGo (zX fz L xs) d q_281 (74, [(0, .ref 1132), (2, .int x2), (3, .int x3), (5, .int x5), (6, .int x6)], [.int y0, .int y1], zmk w s, 0, 0) (some (.int v), zmk w s2, 0, 0) := by
  obtain ⟨d, rfl⟩ : ∃ d0, d = d0 + 1 := ⟨d - 1, by omega⟩
  unfold f281_74 at h
  refine zGo_s (pc' := 75) (st' := [.int (y1 ||| y0)]) dd281_74 rfl ?_
  obtain ⟨v1, e_v1, h⟩ := olet h
  refine zGo_is1 e_v1 dd281_75 (x' := (77, [(4, .int v1), (0, .ref 1132), (2, .int x2), (3, .int x3), (5, .int x5), (6, .int x6)], [], _, _, _)) rfl ?_
  refine zGo_s (pc' := 80) (st' := []) (lv' := [(6, .int (x6 + (1 : Int32))), (4, .int v1), (0, .ref 1132), (2, .int x2), (3, .int x3), (5, .int x5)]) dd281_77 rfl ?_
  refine zGo_s (pc' := 42) (st' := []) dd281_80 rfl ?_
  exact zGo_lv (lv := [(0, .ref 1132), (2, .int x2), (3, .int x3), (4, .int v1), (5, .int x5), (6, .int (x6 + (1 : Int32)))]) ⟨by simp, by simp, by simp⟩ (hr42 _ _ _ _ _ _ _ _ h)
def f281_42 (n : Nat) (r14 : Int32 → Int32 → zσ → Option (Int32 × zσ)) (r32 : Int32 → Int32 → Int32 → Int32 → zσ → Option (Int32 × zσ)) : Nat → Int32 → Int32 → Int32 → Int32 → Int32 → zσ → Option (Int32 × zσ)
  | 0, _, _, _, _, _, _ => none
  | j + 1, x2, x3, x4, x5, x6, s =>
    yb1 (f209 n s) fun v2 u1 =>
    if x6 < v2 then
    if ((x4 >>> (x6 &&& 31)) &&& (1 : Int32)) = (1 : Int32) then
    yb1 (f282 n x6 u1) fun v4 u3 =>
    f281_74 n r14 r32 (f281_42 n r14 r32 j) x2 x3 x5 x6 v4 x4 u3
    else f281_74 n r14 r32 (f281_42 n r14 r32 j) x2 x3 x5 x6 (0 : Int32) x4 u1
    else r32 x2 x3 x4 (x5 + (1 : Int32)) u1
set_option maxRecDepth 20000 in
theorem f281_42_ok {n d : Nat} {r14 : Int32 → Int32 → zσ → Option (Int32 × zσ)} {r32 : Int32 → Int32 → Int32 → Int32 → zσ → Option (Int32 × zσ)} (hd : 2 ≤ d) (hr14 : ∀ (x2 : Int32) (x3 : Int32) (s : zσ) (v : Int32) (s2 : zσ), r14 x2 x3 s = some (v, s2) → ∀ {w : zσ} {fz : Bool} {L : Nat} {xs : Nat → Int32}, zGo (zX fz L xs) d q_281 (14, [(0, .ref 1132), (2, .int x2), (3, .int x3)], [], zmk w s, 0, 0) (some (.int v), zmk w s2, 0, 0)) (hr32 : ∀ (x2 : Int32) (x3 : Int32) (x4 : Int32) (x5 : Int32) (s : zσ) (v : Int32) (s2 : zσ), r32 x2 x3 x4 x5 s = some (v, s2) → ∀ {w : zσ} {fz : Bool} {L : Nat} {xs : Nat → Int32}, zGo (zX fz L xs) d q_281 (32, [(0, .ref 1132), (2, .int x2), (3, .int x3), (4, .int x4), (5, .int x5)], [], zmk w s, 0, 0) (some (.int v), zmk w s2, 0, 0)) : ∀ (j : Nat) (x2 : Int32) (x3 : Int32) (x4 : Int32) (x5 : Int32) (x6 : Int32) (s : zσ) (v : Int32) (s2 : zσ), f281_42 n r14 r32 j x2 x3 x4 x5 x6 s = some (v, s2) → ∀ {w : zσ} {fz : Bool} {L : Nat} {xs : Nat → Int32}, zGo (zX fz L xs) d q_281 (42, [(0, .ref 1132), (2, .int x2), (3, .int x3), (4, .int x4), (5, .int x5), (6, .int x6)], [], zmk w s, 0, 0) (some (.int v), zmk w s2, 0, 0) := by
  obtain ⟨d, rfl⟩ : ∃ d0, d = d0 + 1 := ⟨d - 1, by omega⟩
  intro j
  induction j with
  | zero => intro x2 x3 x4 x5 x6 s v s2 h; cases h
  | succ j ih =>
    intro x2 x3 x4 x5 x6 s v s2 h w fz L xs
    rw [f281_42] at h
    refine zGo_s (pc' := 44) (st' := [.int x6]) dd281_42 rfl ?_
    refine zGo_s (pc' := 45) (st' := [.ref 1132, .int x6]) dd281_44 rfl ?_
    obtain ⟨v2, u1, hq, h⟩ := obnd h
    refine zCV1 (As := []) (rest := [.int x6]) (b := 1132) (q' := q_209) dd281_45 rfl rfl (rcv_m rfl rfl (by decide)) rfl rfl rfl (f209_ok (d := d) (by omega)  hq) ?_
    rcases oite h with ⟨hc, h⟩ | ⟨hc, h⟩
    · refine zIF dd281_48 (kGeF hc) ?_
      refine zGo_s (pc' := 53) (st' := [.int x4]) dd281_51 rfl ?_
      refine zGo_s (pc' := 55) (st' := [.int x4, .int x4]) dd281_53 rfl ?_
      refine zGo_s (pc' := 57) (st' := [.int x6, .int x4, .int x4]) dd281_55 rfl ?_
      refine zGo_s (pc' := 58) (st' := [.int (x4 >>> (x6 &&& 31)), .int x4]) dd281_57 rfl ?_
      refine zGo_s (pc' := 59) (st' := [.int (1 : Int32), .int (x4 >>> (x6 &&& 31)), .int x4]) dd281_58 rfl ?_
      refine zGo_s (pc' := 60) (st' := [.int ((x4 >>> (x6 &&& 31)) &&& (1 : Int32)), .int x4]) dd281_59 rfl ?_
      refine zGo_s (pc' := 61) (st' := [.int (1 : Int32), .int ((x4 >>> (x6 &&& 31)) &&& (1 : Int32)), .int x4]) dd281_60 rfl ?_
      rcases oite h with ⟨hc, h⟩ | ⟨hc, h⟩
      · refine zIF dd281_61 (kNeF hc) ?_
        refine zGo_s (pc' := 65) (st' := [.ref 1132, .int x4]) dd281_64 rfl ?_
        refine zGo_s (pc' := 67) (st' := [.int x6, .ref 1132, .int x4]) dd281_65 rfl ?_
        obtain ⟨v4, u3, hq, h⟩ := obnd h
        refine zCV1 (As := [.int x6]) (rest := [.int x4]) (b := 1132) (q' := q_282) dd281_67 rfl rfl (rcv_m rfl rfl (by decide)) rfl rfl rfl (f282_ok (d := d) (by omega)  hq) ?_
        refine zGo_s (pc' := 74) (st' := [.int v4, .int x4]) dd281_70 rfl ?_
        exact zGo_lv (lv := [(0, .ref 1132), (2, .int x2), (3, .int x3), (5, .int x5), (6, .int x6)]) ⟨by simp, by simp, by simp⟩ (f281_74_ok hd hr14 hr32 ih h)
      · refine zIT dd281_61 rfl (kNeT hc) ?_
        refine zGo_s (pc' := 74) (st' := [.int (0 : Int32), .int x4]) dd281_73 rfl ?_
        exact zGo_lv (lv := [(0, .ref 1132), (2, .int x2), (3, .int x3), (5, .int x5), (6, .int x6)]) ⟨by simp, by simp, by simp⟩ (f281_74_ok hd hr14 hr32 ih h)
    · refine zIT dd281_48 rfl (kGeT hc) ?_
      refine zGo_s (pc' := 86) (st' := []) (lv' := [(5, .int (x5 + (1 : Int32))), (0, .ref 1132), (2, .int x2), (3, .int x3), (4, .int x4), (6, .int x6)]) dd281_83 rfl ?_
      refine zGo_s (pc' := 32) (st' := []) dd281_86 rfl ?_
      exact zGo_lv (lv := [(0, .ref 1132), (2, .int x2), (3, .int x3), (4, .int x4), (5, .int (x5 + (1 : Int32)))]) ⟨by simp, by simp, by simp⟩ (hr32 _ _ _ _ _ _ _ h)
def f281_32 (n : Nat) (r14 : Int32 → Int32 → zσ → Option (Int32 × zσ)) : Nat → Int32 → Int32 → Int32 → Int32 → zσ → Option (Int32 × zσ)
  | 0, _, _, _, _, _ => none
  | j + 1, x2, x3, x4, x5, s =>
    if x5 < (8 : Int32) then
    f281_42 n r14 (f281_32 n r14 j) n x2 x3 x4 x5 (0 : Int32) s
    else if ((x4 >>> (x3 &&& 31)) &&& (1 : Int32)) = (1 : Int32) then
    if x2 = (0 : Int32) then
    some (x3, s)
    else f281_108 n r14 (x2 + (-1 : Int32)) x3 s
    else f281_108 n r14 x2 x3 s
set_option maxRecDepth 20000 in
theorem f281_32_ok {n d : Nat} {r14 : Int32 → Int32 → zσ → Option (Int32 × zσ)} (hd : 2 ≤ d) (hr14 : ∀ (x2 : Int32) (x3 : Int32) (s : zσ) (v : Int32) (s2 : zσ), r14 x2 x3 s = some (v, s2) → ∀ {w : zσ} {fz : Bool} {L : Nat} {xs : Nat → Int32}, zGo (zX fz L xs) d q_281 (14, [(0, .ref 1132), (2, .int x2), (3, .int x3)], [], zmk w s, 0, 0) (some (.int v), zmk w s2, 0, 0)) : ∀ (j : Nat) (x2 : Int32) (x3 : Int32) (x4 : Int32) (x5 : Int32) (s : zσ) (v : Int32) (s2 : zσ), f281_32 n r14 j x2 x3 x4 x5 s = some (v, s2) → ∀ {w : zσ} {fz : Bool} {L : Nat} {xs : Nat → Int32}, zGo (zX fz L xs) d q_281 (32, [(0, .ref 1132), (2, .int x2), (3, .int x3), (4, .int x4), (5, .int x5)], [], zmk w s, 0, 0) (some (.int v), zmk w s2, 0, 0) := by
  obtain ⟨d, rfl⟩ : ∃ d0, d = d0 + 1 := ⟨d - 1, by omega⟩
  intro j
  induction j with
  | zero => intro x2 x3 x4 x5 s v s2 h; cases h
  | succ j ih =>
    intro x2 x3 x4 x5 s v s2 h w fz L xs
    rw [f281_32] at h
    refine zGo_s (pc' := 34) (st' := [.int x5]) dd281_32 rfl ?_
    refine zGo_s (pc' := 36) (st' := [.int (8 : Int32), .int x5]) dd281_34 rfl ?_
    rcases oite h with ⟨hc, h⟩ | ⟨hc, h⟩
    · refine zIF dd281_36 (kGeF hc) ?_
      refine zGo_s (pc' := 40) (st' := [.int (0 : Int32)]) dd281_39 rfl ?_
      refine zGo_s (pc' := 42) (st' := []) (lv' := [(6, .int (0 : Int32)), (0, .ref 1132), (2, .int x2), (3, .int x3), (4, .int x4), (5, .int x5)]) dd281_40 rfl ?_
      exact zGo_lv (lv := [(0, .ref 1132), (2, .int x2), (3, .int x3), (4, .int x4), (5, .int x5), (6, .int (0 : Int32))]) ⟨by simp, by simp, by simp⟩ (f281_42_ok hd hr14 ih _ _ _ _ _ _ _ _ _ h)
    · refine zIT dd281_36 rfl (kGeT hc) ?_
      refine zGo_s (pc' := 91) (st' := [.int x4]) dd281_89 rfl ?_
      refine zGo_s (pc' := 92) (st' := [.int x3, .int x4]) dd281_91 rfl ?_
      refine zGo_s (pc' := 93) (st' := [.int (x4 >>> (x3 &&& 31))]) dd281_92 rfl ?_
      refine zGo_s (pc' := 94) (st' := [.int (1 : Int32), .int (x4 >>> (x3 &&& 31))]) dd281_93 rfl ?_
      refine zGo_s (pc' := 95) (st' := [.int ((x4 >>> (x3 &&& 31)) &&& (1 : Int32))]) dd281_94 rfl ?_
      refine zGo_s (pc' := 96) (st' := [.int (1 : Int32), .int ((x4 >>> (x3 &&& 31)) &&& (1 : Int32))]) dd281_95 rfl ?_
      rcases oite h with ⟨hc, h⟩ | ⟨hc, h⟩
      · refine zIF dd281_96 (kNeF hc) ?_
        refine zGo_s (pc' := 100) (st' := [.int x2]) dd281_99 rfl ?_
        rcases oite h with ⟨hc, h⟩ | ⟨hc, h⟩
        · refine zUF dd281_100 (kNeF hc) ?_
          refine zGo_s (pc' := 104) (st' := [.int x3]) dd281_103 rfl ?_
          obtain ⟨rfl, rfl⟩ := oret h
          exact zGo_ret dd281_104 rfl rfl
        · refine zUT dd281_100 rfl (kNeT hc) ?_
          refine zGo_s (pc' := 108) (st' := []) (lv' := [(2, .int (x2 + (-1 : Int32))), (0, .ref 1132), (3, .int x3), (4, .int x4), (5, .int x5)]) dd281_105 rfl ?_
          exact zGo_lv (lv := [(0, .ref 1132), (2, .int (x2 + (-1 : Int32))), (3, .int x3)]) ⟨by simp, by simp, by simp⟩ (f281_108_ok hd hr14 h)
      · refine zIT dd281_96 rfl (kNeT hc) ?_
        exact zGo_lv (lv := [(0, .ref 1132), (2, .int x2), (3, .int x3)]) ⟨by simp, by simp, by simp⟩ (f281_108_ok hd hr14 h)
def f281_14 (n : Nat) : Nat → Int32 → Int32 → zσ → Option (Int32 × zσ)
  | 0, _, _, _ => none
  | j + 1, x2, x3, s =>
    yb1 (f209 n s) fun v2 u1 =>
    if x3 < v2 then
    yb1 (f282 n x3 u1) fun v4 u3 =>
    f281_32 n (f281_14 n j) n x2 x3 v4 (0 : Int32) u3
    else some ((-1 : Int32), u1)
set_option maxRecDepth 20000 in
theorem f281_14_ok {n d : Nat} (hd : 2 ≤ d) : ∀ (j : Nat) (x2 : Int32) (x3 : Int32) (s : zσ) (v : Int32) (s2 : zσ), f281_14 n j x2 x3 s = some (v, s2) → ∀ {w : zσ} {fz : Bool} {L : Nat} {xs : Nat → Int32}, zGo (zX fz L xs) d q_281 (14, [(0, .ref 1132), (2, .int x2), (3, .int x3)], [], zmk w s, 0, 0) (some (.int v), zmk w s2, 0, 0) := by
  obtain ⟨d, rfl⟩ : ∃ d0, d = d0 + 1 := ⟨d - 1, by omega⟩
  intro j
  induction j with
  | zero => intro x2 x3 s v s2 h; cases h
  | succ j ih =>
    intro x2 x3 s v s2 h w fz L xs
    rw [f281_14] at h
    refine zGo_s (pc' := 15) (st' := [.int x3]) dd281_14 rfl ?_
    refine zGo_s (pc' := 16) (st' := [.ref 1132, .int x3]) dd281_15 rfl ?_
    obtain ⟨v2, u1, hq, h⟩ := obnd h
    refine zCV1 (As := []) (rest := [.int x3]) (b := 1132) (q' := q_209) dd281_16 rfl rfl (rcv_m rfl rfl (by decide)) rfl rfl rfl (f209_ok (d := d) (by omega)  hq) ?_
    rcases oite h with ⟨hc, h⟩ | ⟨hc, h⟩
    · refine zIF dd281_19 (kGeF hc) ?_
      refine zGo_s (pc' := 23) (st' := [.ref 1132]) dd281_22 rfl ?_
      refine zGo_s (pc' := 24) (st' := [.int x3, .ref 1132]) dd281_23 rfl ?_
      obtain ⟨v4, u3, hq, h⟩ := obnd h
      refine zCV1 (As := [.int x3]) (rest := []) (b := 1132) (q' := q_282) dd281_24 rfl rfl (rcv_m rfl rfl (by decide)) rfl rfl rfl (f282_ok (d := d) (by omega)  hq) ?_
      refine zGo_s (pc' := 29) (st' := []) (lv' := [(4, .int v4), (0, .ref 1132), (2, .int x2), (3, .int x3)]) dd281_27 rfl ?_
      refine zGo_s (pc' := 30) (st' := [.int (0 : Int32)]) dd281_29 rfl ?_
      refine zGo_s (pc' := 32) (st' := []) (lv' := [(5, .int (0 : Int32)), (4, .int v4), (0, .ref 1132), (2, .int x2), (3, .int x3)]) dd281_30 rfl ?_
      exact zGo_lv (lv := [(0, .ref 1132), (2, .int x2), (3, .int x3), (4, .int v4), (5, .int (0 : Int32))]) ⟨by simp, by simp, by simp⟩ (f281_32_ok hd ih _ _ _ _ _ _ _ _ h)
    · refine zIT dd281_19 rfl (kGeT hc) ?_
      refine zGo_s (pc' := 115) (st' := [.int (-1 : Int32)]) dd281_114 rfl ?_
      obtain ⟨rfl, rfl⟩ := oret h
      exact zGo_ret dd281_115 rfl rfl
def f281 (n : Nat) (x1 : Int32) (s : zσ) : Option (Int32 × zσ) :=
    if (s.1 1132 17) = (0 : Int32) then
    some ((-3 : Int32), s)
    else f281_14 n n x1 (0 : Int32) s
set_option maxRecDepth 20000 in
theorem f281_ok {n d : Nat} {x1 : Int32} {s : zσ} {v : Int32} {s2 : zσ} (hd : 2 ≤ d) (h : f281 n x1 s = some (v, s2)) {w : zσ} {fz : Bool} {L : Nat} {xs : Nat → Int32} : zGo (zX fz L xs) d q_281 (0, [(0, .ref 1132), (1, .int x1)], [], zmk w s, 0, 0) (some (.int v), zmk w s2, 0, 0) := by
  obtain ⟨d, rfl⟩ : ∃ d0, d = d0 + 1 := ⟨d - 1, by omega⟩
  unfold f281 at h
  refine zGo_s (pc' := 1) (st' := [.ref 1132]) dd281_0 rfl ?_
  refine mGI dd281_1 rfl rfl rfl rfl ?_
  rcases oite h with ⟨hc, h⟩ | ⟨hc, h⟩
  · refine zUF dd281_4 (kNeF hc) ?_
    refine zGo_s (pc' := 9) (st' := [.int (-3 : Int32)]) dd281_7 rfl ?_
    obtain ⟨rfl, rfl⟩ := oret h
    exact zGo_ret dd281_9 rfl rfl
  · refine zUT dd281_4 rfl (kNeT hc) ?_
    refine zGo_s (pc' := 11) (st' := [.int x1]) dd281_10 rfl ?_
    refine zGo_s (pc' := 12) (st' := []) (lv' := [(2, .int x1), (0, .ref 1132), (1, .int x1)]) dd281_11 rfl ?_
    refine zGo_s (pc' := 13) (st' := [.int (0 : Int32)]) dd281_12 rfl ?_
    refine zGo_s (pc' := 14) (st' := []) (lv' := [(3, .int (0 : Int32)), (2, .int x1), (0, .ref 1132), (1, .int x1)]) dd281_13 rfl ?_
    exact zGo_lv (lv := [(0, .ref 1132), (2, .int x1), (3, .int (0 : Int32))]) ⟨by simp, by simp, by simp⟩ (f281_14_ok hd _ _ _ _ _ _ h)
/-! PHModel.logged(I)I -/
theorem dd283_0 : decode cX13_logged 0 = .ok (.aload_n 0, 1) := by decide +kernel
theorem dd283_1 : decode cX13_logged 1 = .ok (.getfield 557, 3) := by decide +kernel
theorem dd283_4 : decode cX13_logged 4 = .ok (.ifCond .eq 22, 3) := by decide +kernel
theorem dd283_7 : decode cX13_logged 7 = .ok (.iload_n 1, 1) := by decide +kernel
theorem dd283_8 : decode cX13_logged 8 = .ok (.ifCond .lt 18, 3) := by decide +kernel
theorem dd283_11 : decode cX13_logged 11 = .ok (.iload_n 1, 1) := by decide +kernel
theorem dd283_12 : decode cX13_logged 12 = .ok (.aload_n 0, 1) := by decide +kernel
theorem dd283_13 : decode cX13_logged 13 = .ok (.getfield 568, 3) := by decide +kernel
theorem dd283_16 : decode cX13_logged 16 = .ok (.if_icmp .ge 10, 3) := by decide +kernel
theorem dd283_19 : decode cX13_logged 19 = .ok (.iload_n 1, 1) := by decide +kernel
theorem dd283_20 : decode cX13_logged 20 = .ok (.sipush 200, 3) := by decide +kernel
theorem dd283_23 : decode cX13_logged 23 = .ok (.if_icmp .lt 7, 3) := by decide +kernel
theorem dd283_26 : decode cX13_logged 26 = .ok (.iconst 0, 1) := by decide +kernel
theorem dd283_27 : decode cX13_logged 27 = .ok (.goto 9, 3) := by decide +kernel
theorem dd283_30 : decode cX13_logged 30 = .ok (.aload_n 0, 1) := by decide +kernel
theorem dd283_31 : decode cX13_logged 31 = .ok (.getfield 79, 3) := by decide +kernel
theorem dd283_34 : decode cX13_logged 34 = .ok (.iload_n 1, 1) := by decide +kernel
theorem dd283_35 : decode cX13_logged 35 = .ok (.iaload, 1) := by decide +kernel
theorem dd283_36 : decode cX13_logged 36 = .ok (.ireturn, 1) := by decide +kernel
def f283_26 (n : Nat) (s : zσ) : Option (Int32 × zσ) :=
    some ((0 : Int32), s)
set_option maxRecDepth 20000 in
theorem f283_26_ok {n d : Nat} {s : zσ} {v : Int32} {s2 : zσ} (hd : 0 ≤ d) (h : f283_26 n s = some (v, s2)) {w : zσ} {fz : Bool} {L : Nat} {xs : Nat → Int32} : zGo (zX fz L xs) d q_283 (26, [], [], zmk w s, 0, 0) (some (.int v), zmk w s2, 0, 0) := by
  unfold f283_26 at h
  refine zGo_s (pc' := 27) (st' := [.int (0 : Int32)]) dd283_26 rfl ?_
  refine zGo_s (pc' := 36) (st' := [.int (0 : Int32)]) dd283_27 rfl ?_
  obtain ⟨rfl, rfl⟩ := oret h
  exact zGo_ret dd283_36 rfl rfl
def f283 (n : Nat) (x1 : Int32) (s : zσ) : Option (Int32 × zσ) :=
    if (s.1 1132 17) = (0 : Int32) then
    f283_26 n s
    else if x1 < (0 : Int32) then
    f283_26 n s
    else if x1 < (s.1 1132 23) then
    if x1 < (200 : Int32) then
    if zin? x1 200 = true then
    some ((s.1 1221 (nx x1)), s)
    else none
    else f283_26 n s
    else f283_26 n s
set_option maxRecDepth 20000 in
theorem f283_ok {n d : Nat} {x1 : Int32} {s : zσ} {v : Int32} {s2 : zσ} (hd : 0 ≤ d) (h : f283 n x1 s = some (v, s2)) {w : zσ} {fz : Bool} {L : Nat} {xs : Nat → Int32} : zGo (zX fz L xs) d q_283 (0, [(0, .ref 1132), (1, .int x1)], [], zmk w s, 0, 0) (some (.int v), zmk w s2, 0, 0) := by
  unfold f283 at h
  refine zGo_s (pc' := 1) (st' := [.ref 1132]) dd283_0 rfl ?_
  refine mGI dd283_1 rfl rfl rfl rfl ?_
  rcases oite h with ⟨hc, h⟩ | ⟨hc, h⟩
  · refine zUT dd283_4 rfl (kEqT hc) ?_
    exact zGo_lv (lv := []) ⟨by simp, by simp, by simp⟩ (f283_26_ok hd h)
  · refine zUF dd283_4 (kEqF hc) ?_
    refine zGo_s (pc' := 8) (st' := [.int x1]) dd283_7 rfl ?_
    rcases oite h with ⟨hc, h⟩ | ⟨hc, h⟩
    · refine zUT dd283_8 rfl (kLtT hc) ?_
      exact zGo_lv (lv := []) ⟨by simp, by simp, by simp⟩ (f283_26_ok hd h)
    · refine zUF dd283_8 (kLtF hc) ?_
      refine zGo_s (pc' := 12) (st' := [.int x1]) dd283_11 rfl ?_
      refine zGo_s (pc' := 13) (st' := [.ref 1132, .int x1]) dd283_12 rfl ?_
      refine mGI dd283_13 rfl rfl rfl rfl ?_
      rcases oite h with ⟨hc, h⟩ | ⟨hc, h⟩
      · refine zIF dd283_16 (kGeF hc) ?_
        refine zGo_s (pc' := 20) (st' := [.int x1]) dd283_19 rfl ?_
        refine zGo_s (pc' := 23) (st' := [.int (200 : Int32), .int x1]) dd283_20 rfl ?_
        rcases oite h with ⟨hc, h⟩ | ⟨hc, h⟩
        · refine zIT dd283_23 rfl (kLtT hc) ?_
          refine zGo_s (pc' := 31) (st' := [.ref 1132]) dd283_30 rfl ?_
          refine mGF (e := 1221) dd283_31 rfl rfl rfl rfl rfl ?_
          refine zGo_s (pc' := 35) (st' := [.int x1, .ref 1221]) dd283_34 rfl ?_
          obtain ⟨hi, h⟩ := ochk h
          refine mIA dd283_35 rfl rfl hi ?_
          obtain ⟨rfl, rfl⟩ := oret h
          exact zGo_ret dd283_36 rfl rfl
        · refine zIF dd283_23 (kLtF hc) ?_
          exact zGo_lv (lv := []) ⟨by simp, by simp, by simp⟩ (f283_26_ok hd h)
      · refine zIT dd283_16 rfl (kGeT hc) ?_
        exact zGo_lv (lv := []) ⟨by simp, by simp, by simp⟩ (f283_26_ok hd h)
/-! PHModel.induced(II)I -/
theorem dd284_0 : decode cX13_induced 0 = .ok (.aload_n 0, 1) := by decide +kernel
theorem dd284_1 : decode cX13_induced 1 = .ok (.getfield 557, 3) := by decide +kernel
theorem dd284_4 : decode cX13_induced 4 = .ok (.ifCond .eq 21, 3) := by decide +kernel
theorem dd284_7 : decode cX13_induced 7 = .ok (.iload_n 1, 1) := by decide +kernel
theorem dd284_8 : decode cX13_induced 8 = .ok (.ifCond .lt 17, 3) := by decide +kernel
theorem dd284_11 : decode cX13_induced 11 = .ok (.iload_n 1, 1) := by decide +kernel
theorem dd284_12 : decode cX13_induced 12 = .ok (.aload_n 0, 1) := by decide +kernel
theorem dd284_13 : decode cX13_induced 13 = .ok (.getfield 571, 3) := by decide +kernel
theorem dd284_16 : decode cX13_induced 16 = .ok (.if_icmp .ge 9, 3) := by decide +kernel
theorem dd284_19 : decode cX13_induced 19 = .ok (.iload_n 1, 1) := by decide +kernel
theorem dd284_20 : decode cX13_induced 20 = .ok (.bipush 100, 2) := by decide +kernel
theorem dd284_22 : decode cX13_induced 22 = .ok (.if_icmp .lt 5, 3) := by decide +kernel
theorem dd284_25 : decode cX13_induced 25 = .ok (.iconst (-1), 1) := by decide +kernel
theorem dd284_26 : decode cX13_induced 26 = .ok (.ireturn, 1) := by decide +kernel
theorem dd284_27 : decode cX13_induced 27 = .ok (.iload_n 2, 1) := by decide +kernel
theorem dd284_28 : decode cX13_induced 28 = .ok (.ifCond .ne 12, 3) := by decide +kernel
theorem dd284_31 : decode cX13_induced 31 = .ok (.aload_n 0, 1) := by decide +kernel
theorem dd284_32 : decode cX13_induced 32 = .ok (.getfield 82, 3) := by decide +kernel
theorem dd284_35 : decode cX13_induced 35 = .ok (.iload_n 1, 1) := by decide +kernel
theorem dd284_36 : decode cX13_induced 36 = .ok (.iaload, 1) := by decide +kernel
theorem dd284_37 : decode cX13_induced 37 = .ok (.goto 32, 3) := by decide +kernel
theorem dd284_40 : decode cX13_induced 40 = .ok (.iload_n 2, 1) := by decide +kernel
theorem dd284_41 : decode cX13_induced 41 = .ok (.iconst 1, 1) := by decide +kernel
theorem dd284_42 : decode cX13_induced 42 = .ok (.if_icmp .ne 12, 3) := by decide +kernel
theorem dd284_45 : decode cX13_induced 45 = .ok (.aload_n 0, 1) := by decide +kernel
theorem dd284_46 : decode cX13_induced 46 = .ok (.getfield 85, 3) := by decide +kernel
theorem dd284_49 : decode cX13_induced 49 = .ok (.iload_n 1, 1) := by decide +kernel
theorem dd284_50 : decode cX13_induced 50 = .ok (.iaload, 1) := by decide +kernel
theorem dd284_51 : decode cX13_induced 51 = .ok (.goto 18, 3) := by decide +kernel
theorem dd284_54 : decode cX13_induced 54 = .ok (.iload_n 2, 1) := by decide +kernel
theorem dd284_55 : decode cX13_induced 55 = .ok (.iconst 2, 1) := by decide +kernel
theorem dd284_56 : decode cX13_induced 56 = .ok (.if_icmp .ne 12, 3) := by decide +kernel
theorem dd284_59 : decode cX13_induced 59 = .ok (.aload_n 0, 1) := by decide +kernel
theorem dd284_60 : decode cX13_induced 60 = .ok (.getfield 88, 3) := by decide +kernel
theorem dd284_63 : decode cX13_induced 63 = .ok (.iload_n 1, 1) := by decide +kernel
theorem dd284_64 : decode cX13_induced 64 = .ok (.iaload, 1) := by decide +kernel
theorem dd284_65 : decode cX13_induced 65 = .ok (.goto 4, 3) := by decide +kernel
theorem dd284_68 : decode cX13_induced 68 = .ok (.iconst (-1), 1) := by decide +kernel
theorem dd284_69 : decode cX13_induced 69 = .ok (.ireturn, 1) := by decide +kernel
def f284 (n : Nat) (x1 : Int32) (x2 : Int32) (s : zσ) : Option (Int32 × zσ) :=
    if (s.1 1132 17) = (0 : Int32) then
    some ((-1 : Int32), s)
    else if x1 < (0 : Int32) then
    some ((-1 : Int32), s)
    else if x1 < (s.1 1132 24) then
    if x1 < (100 : Int32) then
    if x2 = (0 : Int32) then
    if zin? x1 100 = true then
    some ((s.1 1222 (nx x1)), s)
    else none
    else if x2 = (1 : Int32) then
    if zin? x1 100 = true then
    some ((s.1 1223 (nx x1)), s)
    else none
    else if x2 = (2 : Int32) then
    if zin? x1 100 = true then
    some ((s.1 1224 (nx x1)), s)
    else none
    else some ((-1 : Int32), s)
    else some ((-1 : Int32), s)
    else some ((-1 : Int32), s)
set_option maxRecDepth 20000 in
theorem f284_ok {n d : Nat} {x1 : Int32} {x2 : Int32} {s : zσ} {v : Int32} {s2 : zσ} (hd : 0 ≤ d) (h : f284 n x1 x2 s = some (v, s2)) {w : zσ} {fz : Bool} {L : Nat} {xs : Nat → Int32} : zGo (zX fz L xs) d q_284 (0, [(0, .ref 1132), (1, .int x1), (2, .int x2)], [], zmk w s, 0, 0) (some (.int v), zmk w s2, 0, 0) := by
  unfold f284 at h
  refine zGo_s (pc' := 1) (st' := [.ref 1132]) dd284_0 rfl ?_
  refine mGI dd284_1 rfl rfl rfl rfl ?_
  rcases oite h with ⟨hc, h⟩ | ⟨hc, h⟩
  · refine zUT dd284_4 rfl (kEqT hc) ?_
    refine zGo_s (pc' := 26) (st' := [.int (-1 : Int32)]) dd284_25 rfl ?_
    obtain ⟨rfl, rfl⟩ := oret h
    exact zGo_ret dd284_26 rfl rfl
  · refine zUF dd284_4 (kEqF hc) ?_
    refine zGo_s (pc' := 8) (st' := [.int x1]) dd284_7 rfl ?_
    rcases oite h with ⟨hc, h⟩ | ⟨hc, h⟩
    · refine zUT dd284_8 rfl (kLtT hc) ?_
      refine zGo_s (pc' := 26) (st' := [.int (-1 : Int32)]) dd284_25 rfl ?_
      obtain ⟨rfl, rfl⟩ := oret h
      exact zGo_ret dd284_26 rfl rfl
    · refine zUF dd284_8 (kLtF hc) ?_
      refine zGo_s (pc' := 12) (st' := [.int x1]) dd284_11 rfl ?_
      refine zGo_s (pc' := 13) (st' := [.ref 1132, .int x1]) dd284_12 rfl ?_
      refine mGI dd284_13 rfl rfl rfl rfl ?_
      rcases oite h with ⟨hc, h⟩ | ⟨hc, h⟩
      · refine zIF dd284_16 (kGeF hc) ?_
        refine zGo_s (pc' := 20) (st' := [.int x1]) dd284_19 rfl ?_
        refine zGo_s (pc' := 22) (st' := [.int (100 : Int32), .int x1]) dd284_20 rfl ?_
        rcases oite h with ⟨hc, h⟩ | ⟨hc, h⟩
        · refine zIT dd284_22 rfl (kLtT hc) ?_
          refine zGo_s (pc' := 28) (st' := [.int x2]) dd284_27 rfl ?_
          rcases oite h with ⟨hc, h⟩ | ⟨hc, h⟩
          · refine zUF dd284_28 (kNeF hc) ?_
            refine zGo_s (pc' := 32) (st' := [.ref 1132]) dd284_31 rfl ?_
            refine mGF (e := 1222) dd284_32 rfl rfl rfl rfl rfl ?_
            refine zGo_s (pc' := 36) (st' := [.int x1, .ref 1222]) dd284_35 rfl ?_
            obtain ⟨hi, h⟩ := ochk h
            refine mIA dd284_36 rfl rfl hi ?_
            refine zGo_s (pc' := 69) (st' := [.int (s.1 1222 (nx x1))]) dd284_37 rfl ?_
            obtain ⟨rfl, rfl⟩ := oret h
            exact zGo_ret dd284_69 rfl rfl
          · refine zUT dd284_28 rfl (kNeT hc) ?_
            refine zGo_s (pc' := 41) (st' := [.int x2]) dd284_40 rfl ?_
            refine zGo_s (pc' := 42) (st' := [.int (1 : Int32), .int x2]) dd284_41 rfl ?_
            rcases oite h with ⟨hc, h⟩ | ⟨hc, h⟩
            · refine zIF dd284_42 (kNeF hc) ?_
              refine zGo_s (pc' := 46) (st' := [.ref 1132]) dd284_45 rfl ?_
              refine mGF (e := 1223) dd284_46 rfl rfl rfl rfl rfl ?_
              refine zGo_s (pc' := 50) (st' := [.int x1, .ref 1223]) dd284_49 rfl ?_
              obtain ⟨hi, h⟩ := ochk h
              refine mIA dd284_50 rfl rfl hi ?_
              refine zGo_s (pc' := 69) (st' := [.int (s.1 1223 (nx x1))]) dd284_51 rfl ?_
              obtain ⟨rfl, rfl⟩ := oret h
              exact zGo_ret dd284_69 rfl rfl
            · refine zIT dd284_42 rfl (kNeT hc) ?_
              refine zGo_s (pc' := 55) (st' := [.int x2]) dd284_54 rfl ?_
              refine zGo_s (pc' := 56) (st' := [.int (2 : Int32), .int x2]) dd284_55 rfl ?_
              rcases oite h with ⟨hc, h⟩ | ⟨hc, h⟩
              · refine zIF dd284_56 (kNeF hc) ?_
                refine zGo_s (pc' := 60) (st' := [.ref 1132]) dd284_59 rfl ?_
                refine mGF (e := 1224) dd284_60 rfl rfl rfl rfl rfl ?_
                refine zGo_s (pc' := 64) (st' := [.int x1, .ref 1224]) dd284_63 rfl ?_
                obtain ⟨hi, h⟩ := ochk h
                refine mIA dd284_64 rfl rfl hi ?_
                refine zGo_s (pc' := 69) (st' := [.int (s.1 1224 (nx x1))]) dd284_65 rfl ?_
                obtain ⟨rfl, rfl⟩ := oret h
                exact zGo_ret dd284_69 rfl rfl
              · refine zIT dd284_56 rfl (kNeT hc) ?_
                refine zGo_s (pc' := 69) (st' := [.int (-1 : Int32)]) dd284_68 rfl ?_
                obtain ⟨rfl, rfl⟩ := oret h
                exact zGo_ret dd284_69 rfl rfl
        · refine zIF dd284_22 (kLtF hc) ?_
          refine zGo_s (pc' := 26) (st' := [.int (-1 : Int32)]) dd284_25 rfl ?_
          obtain ⟨rfl, rfl⟩ := oret h
          exact zGo_ret dd284_26 rfl rfl
      · refine zIT dd284_16 rfl (kGeT hc) ?_
        refine zGo_s (pc' := 26) (st' := [.int (-1 : Int32)]) dd284_25 rfl ?_
        obtain ⟨rfl, rfl⟩ := oret h
        exact zGo_ret dd284_26 rfl rfl
/-! PHModel.count(I)I -/
theorem dd285_0 : decode cX13_count 0 = .ok (.aload_n 0, 1) := by decide +kernel
theorem dd285_1 : decode cX13_count 1 = .ok (.getfield 557, 3) := by decide +kernel
theorem dd285_4 : decode cX13_count 4 = .ok (.ifCond .ne 6, 3) := by decide +kernel
theorem dd285_7 : decode cX13_count 7 = .ok (.bipush (-3), 2) := by decide +kernel
theorem dd285_9 : decode cX13_count 9 = .ok (.ireturn, 1) := by decide +kernel
theorem dd285_10 : decode cX13_count 10 = .ok (.iload_n 1, 1) := by decide +kernel
theorem dd285_11 : decode cX13_count 11 = .ok (.tableswitch 103 0 9 #[53, 58, 63, 68, 73, 78, 83, 88, 93, 98], 53) := by decide +kernel
theorem dd285_64 : decode cX13_count 64 = .ok (.aload_n 0, 1) := by decide +kernel
theorem dd285_65 : decode cX13_count 65 = .ok (.getfield 560, 3) := by decide +kernel
theorem dd285_68 : decode cX13_count 68 = .ok (.ireturn, 1) := by decide +kernel
theorem dd285_69 : decode cX13_count 69 = .ok (.aload_n 0, 1) := by decide +kernel
theorem dd285_70 : decode cX13_count 70 = .ok (.getfield 562, 3) := by decide +kernel
theorem dd285_73 : decode cX13_count 73 = .ok (.ireturn, 1) := by decide +kernel
theorem dd285_74 : decode cX13_count 74 = .ok (.aload_n 0, 1) := by decide +kernel
theorem dd285_75 : decode cX13_count 75 = .ok (.getfield 565, 3) := by decide +kernel
theorem dd285_78 : decode cX13_count 78 = .ok (.ireturn, 1) := by decide +kernel
theorem dd285_79 : decode cX13_count 79 = .ok (.aload_n 0, 1) := by decide +kernel
theorem dd285_80 : decode cX13_count 80 = .ok (.getfield 568, 3) := by decide +kernel
theorem dd285_83 : decode cX13_count 83 = .ok (.ireturn, 1) := by decide +kernel
theorem dd285_84 : decode cX13_count 84 = .ok (.aload_n 0, 1) := by decide +kernel
theorem dd285_85 : decode cX13_count 85 = .ok (.getfield 571, 3) := by decide +kernel
theorem dd285_88 : decode cX13_count 88 = .ok (.ireturn, 1) := by decide +kernel
theorem dd285_89 : decode cX13_count 89 = .ok (.aload_n 0, 1) := by decide +kernel
theorem dd285_90 : decode cX13_count 90 = .ok (.getfield 574, 3) := by decide +kernel
theorem dd285_93 : decode cX13_count 93 = .ok (.ireturn, 1) := by decide +kernel
theorem dd285_94 : decode cX13_count 94 = .ok (.aload_n 0, 1) := by decide +kernel
theorem dd285_95 : decode cX13_count 95 = .ok (.invokevirtual 735, 3) := by decide +kernel
theorem dd285_98 : decode cX13_count 98 = .ok (.ireturn, 1) := by decide +kernel
theorem dd285_99 : decode cX13_count 99 = .ok (.aload_n 0, 1) := by decide +kernel
theorem dd285_100 : decode cX13_count 100 = .ok (.invokevirtual 588, 3) := by decide +kernel
theorem dd285_103 : decode cX13_count 103 = .ok (.ireturn, 1) := by decide +kernel
theorem dd285_104 : decode cX13_count 104 = .ok (.aload_n 0, 1) := by decide +kernel
theorem dd285_105 : decode cX13_count 105 = .ok (.getfield 577, 3) := by decide +kernel
theorem dd285_108 : decode cX13_count 108 = .ok (.ireturn, 1) := by decide +kernel
theorem dd285_109 : decode cX13_count 109 = .ok (.aload_n 0, 1) := by decide +kernel
theorem dd285_110 : decode cX13_count 110 = .ok (.getfield 580, 3) := by decide +kernel
theorem dd285_113 : decode cX13_count 113 = .ok (.ireturn, 1) := by decide +kernel
theorem dd285_114 : decode cX13_count 114 = .ok (.bipush (-2), 2) := by decide +kernel
theorem dd285_116 : decode cX13_count 116 = .ok (.ireturn, 1) := by decide +kernel
def f285 (n : Nat) (x1 : Int32) (s : zσ) : Option (Int32 × zσ) :=
    if (s.1 1132 17) = (0 : Int32) then
    some ((-3 : Int32), s)
    else if x1 = (0 : Int32) then
    some ((s.1 1132 20), s)
    else if x1 = (1 : Int32) then
    some ((s.1 1132 21), s)
    else if x1 = (2 : Int32) then
    some ((s.1 1132 22), s)
    else if x1 = (3 : Int32) then
    some ((s.1 1132 23), s)
    else if x1 = (4 : Int32) then
    some ((s.1 1132 24), s)
    else if x1 = (5 : Int32) then
    some ((s.1 1132 25), s)
    else if x1 = (6 : Int32) then
    yb1 (f265 n s) fun v2 u1 =>
    some (v2, u1)
    else if x1 = (7 : Int32) then
    yb1 (f220 n s) fun v4 u3 =>
    some (v4, u3)
    else if x1 = (8 : Int32) then
    some ((s.1 1132 26), s)
    else if x1 = (9 : Int32) then
    some ((s.1 1132 27), s)
    else some ((-2 : Int32), s)
set_option maxRecDepth 20000 in
theorem f285_ok {n d : Nat} {x1 : Int32} {s : zσ} {v : Int32} {s2 : zσ} (hd : 2 ≤ d) (h : f285 n x1 s = some (v, s2)) {w : zσ} {fz : Bool} {L : Nat} {xs : Nat → Int32} : zGo (zX fz L xs) d q_285 (0, [(0, .ref 1132), (1, .int x1)], [], zmk w s, 0, 0) (some (.int v), zmk w s2, 0, 0) := by
  obtain ⟨d, rfl⟩ : ∃ d0, d = d0 + 1 := ⟨d - 1, by omega⟩
  unfold f285 at h
  refine zGo_s (pc' := 1) (st' := [.ref 1132]) dd285_0 rfl ?_
  refine mGI dd285_1 rfl rfl rfl rfl ?_
  rcases oite h with ⟨hc, h⟩ | ⟨hc, h⟩
  · refine zUF dd285_4 (kNeF hc) ?_
    refine zGo_s (pc' := 9) (st' := [.int (-3 : Int32)]) dd285_7 rfl ?_
    obtain ⟨rfl, rfl⟩ := oret h
    exact zGo_ret dd285_9 rfl rfl
  · refine zUT dd285_4 rfl (kNeT hc) ?_
    refine zGo_s (pc' := 11) (st' := [.int x1]) dd285_10 rfl ?_
    rcases oite h with ⟨hc, h⟩ | ⟨hn0, h⟩
    · refine zGo_sw dd285_11 (o := 53) (by rw [hc]; decide +kernel) rfl ?_
      refine zGo_s (pc' := 65) (st' := [.ref 1132]) dd285_64 rfl ?_
      refine mGI dd285_65 rfl rfl rfl rfl ?_
      obtain ⟨rfl, rfl⟩ := oret h
      exact zGo_ret dd285_68 rfl rfl
    rcases oite h with ⟨hc, h⟩ | ⟨hn1, h⟩
    · refine zGo_sw dd285_11 (o := 58) (by rw [hc]; decide +kernel) rfl ?_
      refine zGo_s (pc' := 70) (st' := [.ref 1132]) dd285_69 rfl ?_
      refine mGI dd285_70 rfl rfl rfl rfl ?_
      obtain ⟨rfl, rfl⟩ := oret h
      exact zGo_ret dd285_73 rfl rfl
    rcases oite h with ⟨hc, h⟩ | ⟨hn2, h⟩
    · refine zGo_sw dd285_11 (o := 63) (by rw [hc]; decide +kernel) rfl ?_
      refine zGo_s (pc' := 75) (st' := [.ref 1132]) dd285_74 rfl ?_
      refine mGI dd285_75 rfl rfl rfl rfl ?_
      obtain ⟨rfl, rfl⟩ := oret h
      exact zGo_ret dd285_78 rfl rfl
    rcases oite h with ⟨hc, h⟩ | ⟨hn3, h⟩
    · refine zGo_sw dd285_11 (o := 68) (by rw [hc]; decide +kernel) rfl ?_
      refine zGo_s (pc' := 80) (st' := [.ref 1132]) dd285_79 rfl ?_
      refine mGI dd285_80 rfl rfl rfl rfl ?_
      obtain ⟨rfl, rfl⟩ := oret h
      exact zGo_ret dd285_83 rfl rfl
    rcases oite h with ⟨hc, h⟩ | ⟨hn4, h⟩
    · refine zGo_sw dd285_11 (o := 73) (by rw [hc]; decide +kernel) rfl ?_
      refine zGo_s (pc' := 85) (st' := [.ref 1132]) dd285_84 rfl ?_
      refine mGI dd285_85 rfl rfl rfl rfl ?_
      obtain ⟨rfl, rfl⟩ := oret h
      exact zGo_ret dd285_88 rfl rfl
    rcases oite h with ⟨hc, h⟩ | ⟨hn5, h⟩
    · refine zGo_sw dd285_11 (o := 78) (by rw [hc]; decide +kernel) rfl ?_
      refine zGo_s (pc' := 90) (st' := [.ref 1132]) dd285_89 rfl ?_
      refine mGI dd285_90 rfl rfl rfl rfl ?_
      obtain ⟨rfl, rfl⟩ := oret h
      exact zGo_ret dd285_93 rfl rfl
    rcases oite h with ⟨hc, h⟩ | ⟨hn6, h⟩
    · refine zGo_sw dd285_11 (o := 83) (by rw [hc]; decide +kernel) rfl ?_
      refine zGo_s (pc' := 95) (st' := [.ref 1132]) dd285_94 rfl ?_
      obtain ⟨v2, u1, hq, h⟩ := obnd h
      refine zCV1 (As := []) (rest := []) (b := 1132) (q' := q_265) dd285_95 rfl rfl (rcv_m rfl rfl (by decide)) rfl rfl rfl (f265_ok (d := d) (by omega)  hq) ?_
      obtain ⟨rfl, rfl⟩ := oret h
      exact zGo_ret dd285_98 rfl rfl
    rcases oite h with ⟨hc, h⟩ | ⟨hn7, h⟩
    · refine zGo_sw dd285_11 (o := 88) (by rw [hc]; decide +kernel) rfl ?_
      refine zGo_s (pc' := 100) (st' := [.ref 1132]) dd285_99 rfl ?_
      obtain ⟨v4, u3, hq, h⟩ := obnd h
      refine zCV1 (As := []) (rest := []) (b := 1132) (q' := q_220) dd285_100 rfl rfl (rcv_m rfl rfl (by decide)) rfl rfl rfl (f220_ok (d := d) (by omega)  hq) ?_
      obtain ⟨rfl, rfl⟩ := oret h
      exact zGo_ret dd285_103 rfl rfl
    rcases oite h with ⟨hc, h⟩ | ⟨hn8, h⟩
    · refine zGo_sw dd285_11 (o := 93) (by rw [hc]; decide +kernel) rfl ?_
      refine zGo_s (pc' := 105) (st' := [.ref 1132]) dd285_104 rfl ?_
      refine mGI dd285_105 rfl rfl rfl rfl ?_
      obtain ⟨rfl, rfl⟩ := oret h
      exact zGo_ret dd285_108 rfl rfl
    rcases oite h with ⟨hc, h⟩ | ⟨hn9, h⟩
    · refine zGo_sw dd285_11 (o := 98) (by rw [hc]; decide +kernel) rfl ?_
      refine zGo_s (pc' := 110) (st' := [.ref 1132]) dd285_109 rfl ?_
      refine mGI dd285_110 rfl rfl rfl rfl ?_
      obtain ⟨rfl, rfl⟩ := oret h
      exact zGo_ret dd285_113 rfl rfl
    refine zGo_sw dd285_11 (o := 103) (zto_d (by decide) (by decide) fun k hk => ?_) rfl ?_
    · have hk2 : k = 0 ∨ k = 1 ∨ k = 2 ∨ k = 3 ∨ k = 4 ∨ k = 5 ∨ k = 6 ∨ k = 7 ∨ k = 8 ∨ k = 9 := by omega
      rcases hk2 with rfl | rfl | rfl | rfl | rfl | rfl | rfl | rfl | rfl | rfl
      · exact Or.inr hn0
      · exact Or.inr hn1
      · exact Or.inr hn2
      · exact Or.inr hn3
      · exact Or.inr hn4
      · exact Or.inr hn5
      · exact Or.inr hn6
      · exact Or.inr hn7
      · exact Or.inr hn8
      · exact Or.inr hn9
    refine zGo_s (pc' := 116) (st' := [.int (-2 : Int32)]) dd285_114 rfl ?_
    obtain ⟨rfl, rfl⟩ := oret h
    exact zGo_ret dd285_116 rfl rfl
