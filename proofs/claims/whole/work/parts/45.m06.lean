/-! PH$Machine.setUp(LPH$Text;I)V -/
theorem dd74_0 : decode cX3_setUp 0 = .ok (.aload_n 0, 1) := by decide +kernel
theorem dd74_1 : decode cX3_setUp 1 = .ok (.aload_n 1, 1) := by decide +kernel
theorem dd74_2 : decode cX3_setUp 2 = .ok (.putfield 55, 3) := by decide +kernel
theorem dd74_5 : decode cX3_setUp 5 = .ok (.aload_n 0, 1) := by decide +kernel
theorem dd74_6 : decode cX3_setUp 6 = .ok (.aload_n 1, 1) := by decide +kernel
theorem dd74_7 : decode cX3_setUp 7 = .ok (.getfield 93, 3) := by decide +kernel
theorem dd74_10 : decode cX3_setUp 10 = .ok (.putfield 59, 3) := by decide +kernel
theorem dd74_13 : decode cX3_setUp 13 = .ok (.aload_n 0, 1) := by decide +kernel
theorem dd74_14 : decode cX3_setUp 14 = .ok (.aload_n 1, 1) := by decide +kernel
theorem dd74_15 : decode cX3_setUp 15 = .ok (.getfield 96, 3) := by decide +kernel
theorem dd74_18 : decode cX3_setUp 18 = .ok (.putfield 63, 3) := by decide +kernel
theorem dd74_21 : decode cX3_setUp 21 = .ok (.aload_n 0, 1) := by decide +kernel
theorem dd74_22 : decode cX3_setUp 22 = .ok (.aload_n 1, 1) := by decide +kernel
theorem dd74_23 : decode cX3_setUp 23 = .ok (.getfield 97, 3) := by decide +kernel
theorem dd74_26 : decode cX3_setUp 26 = .ok (.bipush 8, 2) := by decide +kernel
theorem dd74_28 : decode cX3_setUp 28 = .ok (.iaload, 1) := by decide +kernel
theorem dd74_29 : decode cX3_setUp 29 = .ok (.putfield 71, 3) := by decide +kernel
theorem dd74_32 : decode cX3_setUp 32 = .ok (.aload_n 0, 1) := by decide +kernel
theorem dd74_33 : decode cX3_setUp 33 = .ok (.iload_n 2, 1) := by decide +kernel
theorem dd74_34 : decode cX3_setUp 34 = .ok (.putfield 75, 3) := by decide +kernel
theorem dd74_37 : decode cX3_setUp 37 = .ok (.aload_n 0, 1) := by decide +kernel
theorem dd74_38 : decode cX3_setUp 38 = .ok (.iconst 1, 1) := by decide +kernel
theorem dd74_39 : decode cX3_setUp 39 = .ok (.putfield 67, 3) := by decide +kernel
theorem dd74_42 : decode cX3_setUp 42 = .ok (.aload_n 0, 1) := by decide +kernel
theorem dd74_43 : decode cX3_setUp 43 = .ok (.iconst 0, 1) := by decide +kernel
theorem dd74_44 : decode cX3_setUp 44 = .ok (.putfield 78, 3) := by decide +kernel
theorem dd74_47 : decode cX3_setUp 47 = .ok (.aload_n 0, 1) := by decide +kernel
theorem dd74_48 : decode cX3_setUp 48 = .ok (.iconst 0, 1) := by decide +kernel
theorem dd74_49 : decode cX3_setUp 49 = .ok (.putfield 81, 3) := by decide +kernel
theorem dd74_52 : decode cX3_setUp 52 = .ok (.aload_n 0, 1) := by decide +kernel
theorem dd74_53 : decode cX3_setUp 53 = .ok (.getfield 20, 3) := by decide +kernel
theorem dd74_56 : decode cX3_setUp 56 = .ok (.aload_n 1, 1) := by decide +kernel
theorem dd74_57 : decode cX3_setUp 57 = .ok (.getfield 100, 3) := by decide +kernel
theorem dd74_60 : decode cX3_setUp 60 = .ok (.invokevirtual 103, 3) := by decide +kernel
theorem dd74_63 : decode cX3_setUp 63 = .ok (.aload_n 0, 1) := by decide +kernel
theorem dd74_64 : decode cX3_setUp 64 = .ok (.getfield 27, 3) := by decide +kernel
theorem dd74_67 : decode cX3_setUp 67 = .ok (.aload_n 1, 1) := by decide +kernel
theorem dd74_68 : decode cX3_setUp 68 = .ok (.getfield 107, 3) := by decide +kernel
theorem dd74_71 : decode cX3_setUp 71 = .ok (.invokevirtual 110, 3) := by decide +kernel
theorem dd74_74 : decode cX3_setUp 74 = .ok (.aload_n 0, 1) := by decide +kernel
theorem dd74_75 : decode cX3_setUp 75 = .ok (.getfield 34, 3) := by decide +kernel
theorem dd74_78 : decode cX3_setUp 78 = .ok (.invokevirtual 111, 3) := by decide +kernel
theorem dd74_81 : decode cX3_setUp 81 = .ok (.aload_n 0, 1) := by decide +kernel
theorem dd74_82 : decode cX3_setUp 82 = .ok (.getfield 41, 3) := by decide +kernel
theorem dd74_85 : decode cX3_setUp 85 = .ok (.invokevirtual 113, 3) := by decide +kernel
theorem dd74_88 : decode cX3_setUp 88 = .ok (.iconst 0, 1) := by decide +kernel
theorem dd74_89 : decode cX3_setUp 89 = .ok (.istore_n 3, 1) := by decide +kernel
theorem dd74_90 : decode cX3_setUp 90 = .ok (.iload_n 3, 1) := by decide +kernel
theorem dd74_91 : decode cX3_setUp 91 = .ok (.bipush 8, 2) := by decide +kernel
theorem dd74_93 : decode cX3_setUp 93 = .ok (.if_icmp .ge 18, 3) := by decide +kernel
theorem dd74_96 : decode cX3_setUp 96 = .ok (.aload_n 0, 1) := by decide +kernel
theorem dd74_97 : decode cX3_setUp 97 = .ok (.getfield 11, 3) := by decide +kernel
theorem dd74_100 : decode cX3_setUp 100 = .ok (.iload_n 3, 1) := by decide +kernel
theorem dd74_101 : decode cX3_setUp 101 = .ok (.aaload, 1) := by decide +kernel
theorem dd74_102 : decode cX3_setUp 102 = .ok (.invokevirtual 114, 3) := by decide +kernel
theorem dd74_105 : decode cX3_setUp 105 = .ok (.iinc 3 1, 3) := by decide +kernel
theorem dd74_108 : decode cX3_setUp 108 = .ok (.goto (-18), 3) := by decide +kernel
theorem dd74_111 : decode cX3_setUp 111 = .ok (.iconst 0, 1) := by decide +kernel
theorem dd74_112 : decode cX3_setUp 112 = .ok (.istore_n 3, 1) := by decide +kernel
theorem dd74_113 : decode cX3_setUp 113 = .ok (.iload_n 3, 1) := by decide +kernel
theorem dd74_114 : decode cX3_setUp 114 = .ok (.aload_n 0, 1) := by decide +kernel
theorem dd74_115 : decode cX3_setUp 115 = .ok (.getfield 71, 3) := by decide +kernel
theorem dd74_118 : decode cX3_setUp 118 = .ok (.if_icmp .ge 28, 3) := by decide +kernel
theorem dd74_121 : decode cX3_setUp 121 = .ok (.aload_n 1, 1) := by decide +kernel
theorem dd74_122 : decode cX3_setUp 122 = .ok (.getfield 115, 3) := by decide +kernel
theorem dd74_125 : decode cX3_setUp 125 = .ok (.iload_n 3, 1) := by decide +kernel
theorem dd74_126 : decode cX3_setUp 126 = .ok (.baload, 1) := by decide +kernel
theorem dd74_127 : decode cX3_setUp 127 = .ok (.ifCond .eq 13, 3) := by decide +kernel
theorem dd74_130 : decode cX3_setUp 130 = .ok (.aload_n 0, 1) := by decide +kernel
theorem dd74_131 : decode cX3_setUp 131 = .ok (.aload_n 0, 1) := by decide +kernel
theorem dd74_132 : decode cX3_setUp 132 = .ok (.getfield 11, 3) := by decide +kernel
theorem dd74_135 : decode cX3_setUp 135 = .ok (.iload_n 3, 1) := by decide +kernel
theorem dd74_136 : decode cX3_setUp 136 = .ok (.aaload, 1) := by decide +kernel
theorem dd74_137 : decode cX3_setUp 137 = .ok (.invokevirtual 119, 3) := by decide +kernel
theorem dd74_140 : decode cX3_setUp 140 = .ok (.iinc 3 1, 3) := by decide +kernel
theorem dd74_143 : decode cX3_setUp 143 = .ok (.goto (-30), 3) := by decide +kernel
theorem dd74_146 : decode cX3_setUp 146 = .ok (.return_, 1) := by decide +kernel
def f74_140 (n : Nat) (r113 : Nat → Int32 → zσ → Option zσ) (x1 : Nat) (x3 : Int32) (s : zσ) : Option zσ :=
    r113 x1 (x3 + (1 : Int32)) s
set_option maxRecDepth 20000 in
theorem f74_140_ok {n d : Nat} {r113 : Nat → Int32 → zσ → Option zσ} {x1 : Nat} {x3 : Int32} {s : zσ} {s2 : zσ} (hd : 3 ≤ d) (hr113 : ∀ (x1 : Nat) (x3 : Int32) (s : zσ) (s2 : zσ), zck 9 x1 = true → r113 x1 x3 s = some s2 → ∀ {w : zσ} {fz : Bool} {L : Nat} {xs : Nat → Int32}, zGo (zX fz L xs) d q_74 (113, [(0, .ref 1007), (1, .ref x1), (3, .int x3)], [], zmk s w, 0, 0) (none, zmk s2 w, 0, 0)) (hx1 : zck 9 x1 = true) (h : f74_140 n r113 x1 x3 s = some s2) {w : zσ} {fz : Bool} {L : Nat} {xs : Nat → Int32} : zGo (zX fz L xs) d q_74 (140, [(0, .ref 1007), (1, .ref x1), (3, .int x3)], [], zmk s w, 0, 0) (none, zmk s2 w, 0, 0) := by
  obtain ⟨d, rfl⟩ : ∃ d0, d = d0 + 1 := ⟨d - 1, by omega⟩
  unfold f74_140 at h
  refine zGo_s (pc' := 143) (st' := []) (lv' := [(3, .int (x3 + (1 : Int32))), (0, .ref 1007), (1, .ref x1)]) dd74_140 rfl ?_
  refine zGo_s (pc' := 113) (st' := []) dd74_143 rfl ?_
  exact zGo_lv (lv := [(0, .ref 1007), (1, .ref x1), (3, .int (x3 + (1 : Int32)))]) ⟨by simp, by simp, by simp⟩ (hr113 _ _ _ _ hx1 h)
def f74_113 (n : Nat) : Nat → Nat → Int32 → zσ → Option zσ
  | 0, _, _, _ => none
  | j + 1, x1, x3, s =>
    if x3 < (s.1 1007 12) then
    if zin? x3 8 = true then
    if (s.1 (x1 + 15) (nx x3)) = (0 : Int32) then
    f74_140 n (f74_113 n j) x1 x3 s
    else if zin? x3 8 = true then
    zrd 8 (s.2.2 1008 (nx x3)) fun a1 =>
    yb0 (f80 n a1 s) fun u2 =>
    f74_140 n (f74_113 n j) x1 x3 u2
    else none
    else none
    else some s
set_option maxRecDepth 20000 in
theorem f74_113_ok {n d : Nat} (hd : 3 ≤ d) : ∀ (j : Nat) (x1 : Nat) (x3 : Int32) (s : zσ) (s2 : zσ), zck 9 x1 = true → f74_113 n j x1 x3 s = some s2 → ∀ {w : zσ} {fz : Bool} {L : Nat} {xs : Nat → Int32}, zGo (zX fz L xs) d q_74 (113, [(0, .ref 1007), (1, .ref x1), (3, .int x3)], [], zmk s w, 0, 0) (none, zmk s2 w, 0, 0) := by
  obtain ⟨d, rfl⟩ : ∃ d0, d = d0 + 1 := ⟨d - 1, by omega⟩
  intro j
  induction j with
  | zero => intro x1 x3 s s2 hx1 h; cases h
  | succ j ih =>
    intro x1 x3 s s2 hx1 h w fz L xs
    rw [f74_113] at h
    refine zGo_s (pc' := 114) (st' := [.int x3]) dd74_113 rfl ?_
    refine zGo_s (pc' := 115) (st' := [.ref 1007, .int x3]) dd74_114 rfl ?_
    refine cGI dd74_115 rfl rfl rfl rfl ?_
    rcases oite h with ⟨hc, h⟩ | ⟨hc, h⟩
    · refine zIF dd74_118 (kGeF hc) ?_
      refine zGo_s (pc' := 122) (st' := [.ref x1]) dd74_121 rfl ?_
      refine cGF (e := (x1 + 15)) dd74_122 rfl (ck9_s hx1).1 (ck9_s hx1).2 rfl (cf9_5 hx1).1 ?_
      refine zGo_s (pc' := 126) (st' := [.int x3, .ref (x1 + 15)]) dd74_125 rfl ?_
      obtain ⟨hi, h⟩ := ochk h
      refine cBA dd74_126 (cf9_5 hx1).2.1 (cf9_5 hx1).2.2 rfl hi ?_
      rcases oite h with ⟨hc, h⟩ | ⟨hc, h⟩
      · refine zUT dd74_127 rfl (kEqT hc) ?_
        exact f74_140_ok hd ih hx1 h
      · refine zUF dd74_127 (kEqF hc) ?_
        refine zGo_s (pc' := 131) (st' := [.ref 1007]) dd74_130 rfl ?_
        refine zGo_s (pc' := 132) (st' := [.ref 1007, .ref 1007]) dd74_131 rfl ?_
        refine cGF (e := 1008) dd74_132 rfl rfl rfl rfl rfl ?_
        refine zGo_s (pc' := 136) (st' := [.int x3, .ref 1008, .ref 1007]) dd74_135 rfl ?_
        obtain ⟨hi, h⟩ := ochk h
        obtain ⟨a1, e_a1, c_a1, h⟩ := ordd h
        refine cAA dd74_136 rfl rfl (Or.inl rfl) hi e_a1 ?_
        obtain ⟨u2, hq, h⟩ := obn0 h
        refine zCV0 (As := [.ref a1]) (rest := []) (b := 1007) (q' := q_80) dd74_137 rfl rfl (rcv_c rfl rfl (by decide)) rfl rfl rfl (f80_ok (d := d) (by omega) c_a1 hq) ?_
        exact f74_140_ok hd ih hx1 h
    · refine zIT dd74_118 rfl (kGeT hc) ?_
      obtain rfl := ore0 h
      exact zGo_ret dd74_146 rfl rfl
def f74_90 (n : Nat) : Nat → Nat → Int32 → zσ → Option zσ
  | 0, _, _, _ => none
  | j + 1, x1, x3, s =>
    if x3 < (8 : Int32) then
    if zin? x3 8 = true then
    zrd 8 (s.2.2 1008 (nx x3)) fun a1 =>
    yb0 (f79 n a1 s) fun u2 =>
    f74_90 n j x1 (x3 + (1 : Int32)) u2
    else none
    else f74_113 n n x1 (0 : Int32) s
set_option maxRecDepth 20000 in
theorem f74_90_ok {n d : Nat} (hd : 3 ≤ d) : ∀ (j : Nat) (x1 : Nat) (x3 : Int32) (s : zσ) (s2 : zσ), zck 9 x1 = true → f74_90 n j x1 x3 s = some s2 → ∀ {w : zσ} {fz : Bool} {L : Nat} {xs : Nat → Int32}, zGo (zX fz L xs) d q_74 (90, [(0, .ref 1007), (1, .ref x1), (3, .int x3)], [], zmk s w, 0, 0) (none, zmk s2 w, 0, 0) := by
  obtain ⟨d, rfl⟩ : ∃ d0, d = d0 + 1 := ⟨d - 1, by omega⟩
  intro j
  induction j with
  | zero => intro x1 x3 s s2 hx1 h; cases h
  | succ j ih =>
    intro x1 x3 s s2 hx1 h w fz L xs
    rw [f74_90] at h
    refine zGo_s (pc' := 91) (st' := [.int x3]) dd74_90 rfl ?_
    refine zGo_s (pc' := 93) (st' := [.int (8 : Int32), .int x3]) dd74_91 rfl ?_
    rcases oite h with ⟨hc, h⟩ | ⟨hc, h⟩
    · refine zIF dd74_93 (kGeF hc) ?_
      refine zGo_s (pc' := 97) (st' := [.ref 1007]) dd74_96 rfl ?_
      refine cGF (e := 1008) dd74_97 rfl rfl rfl rfl rfl ?_
      refine zGo_s (pc' := 101) (st' := [.int x3, .ref 1008]) dd74_100 rfl ?_
      obtain ⟨hi, h⟩ := ochk h
      obtain ⟨a1, e_a1, c_a1, h⟩ := ordd h
      refine cAA dd74_101 rfl rfl (Or.inl rfl) hi e_a1 ?_
      obtain ⟨u2, hq, h⟩ := obn0 h
      refine zCV0 (As := []) (rest := []) (b := a1) (q' := q_79) dd74_102 rfl rfl (rcv_c (ck8_s c_a1).1 (ck8_s c_a1).2 (by decide)) rfl rfl rfl (f79_ok (d := d) (by omega) c_a1 hq) ?_
      refine zGo_s (pc' := 108) (st' := []) (lv' := [(3, .int (x3 + (1 : Int32))), (0, .ref 1007), (1, .ref x1)]) dd74_105 rfl ?_
      refine zGo_s (pc' := 90) (st' := []) dd74_108 rfl ?_
      exact zGo_lv (lv := [(0, .ref 1007), (1, .ref x1), (3, .int (x3 + (1 : Int32)))]) ⟨by simp, by simp, by simp⟩ (ih _ _ _ _ hx1 h)
    · refine zIT dd74_93 rfl (kGeT hc) ?_
      refine zGo_s (pc' := 112) (st' := [.int (0 : Int32)]) dd74_111 rfl ?_
      refine zGo_s (pc' := 113) (st' := []) (lv' := [(3, .int (0 : Int32)), (0, .ref 1007), (1, .ref x1)]) dd74_112 rfl ?_
      exact zGo_lv (lv := [(0, .ref 1007), (1, .ref x1), (3, .int (0 : Int32))]) ⟨by simp, by simp, by simp⟩ (f74_113_ok hd _ _ _ _ _ hx1 h)
def f74 (n : Nat) (x1 : Nat) (x2 : Int32) (s : zσ) : Option zσ :=
    zlet (sR s 1007 8 (some x1)) fun u1 =>
    zlet (sR u1 1007 9 (some (x1 + 19))) fun u2 =>
    zlet (sR u2 1007 10 (some (x1 + 29))) fun u3 =>
    if zin? (8 : Int32) 9 = true then
    zlet (sI u3 1007 12 (u3.1 (x1 + 11) (nx (8 : Int32)))) fun u4 =>
    zlet (sI u4 1007 13 x2) fun u5 =>
    zlet (sI u5 1007 11 (1 : Int32)) fun u6 =>
    zlet (sI u6 1007 14 (0 : Int32)) fun u7 =>
    zlet (sI u7 1007 15 (0 : Int32)) fun u8 =>
    yb0 (f75 n (x1 + 12) u8) fun u9 =>
    yb0 (f76 n (x1 + 13) u9) fun u10 =>
    yb0 (f77 n u10) fun u11 =>
    yb0 (f78 n u11) fun u12 =>
    f74_90 n n x1 (0 : Int32) u12
    else none
set_option maxRecDepth 20000 in
theorem f74_ok {n d : Nat} {x1 : Nat} {x2 : Int32} {s : zσ} {s2 : zσ} (hd : 3 ≤ d) (hx1 : zck 9 x1 = true) (h : f74 n x1 x2 s = some s2) {w : zσ} {fz : Bool} {L : Nat} {xs : Nat → Int32} : zGo (zX fz L xs) d q_74 (0, [(0, .ref 1007), (1, .ref x1), (2, .int x2)], [], zmk s w, 0, 0) (none, zmk s2 w, 0, 0) := by
  obtain ⟨d, rfl⟩ : ∃ d0, d = d0 + 1 := ⟨d - 1, by omega⟩
  unfold f74 at h
  refine zGo_s (pc' := 1) (st' := [.ref 1007]) dd74_0 rfl ?_
  refine zGo_s (pc' := 2) (st' := [.ref x1, .ref 1007]) dd74_1 rfl ?_
  obtain ⟨u1, e_u1, h⟩ := olet h
  refine cPR dd74_2 rfl rfl rfl rfl rfl rfl e_u1 ?_
  refine zGo_s (pc' := 6) (st' := [.ref 1007]) dd74_5 rfl ?_
  refine zGo_s (pc' := 7) (st' := [.ref x1, .ref 1007]) dd74_6 rfl ?_
  refine cGF (e := (x1 + 19)) dd74_7 rfl (ck9_s hx1).1 (ck9_s hx1).2 rfl (cf9_9 hx1).1 ?_
  obtain ⟨u2, e_u2, h⟩ := olet h
  refine cPR dd74_10 rfl rfl rfl rfl rfl rfl e_u2 ?_
  refine zGo_s (pc' := 14) (st' := [.ref 1007]) dd74_13 rfl ?_
  refine zGo_s (pc' := 15) (st' := [.ref x1, .ref 1007]) dd74_14 rfl ?_
  refine cGF (e := (x1 + 29)) dd74_15 rfl (ck9_s hx1).1 (ck9_s hx1).2 rfl (cf9_10 hx1).1 ?_
  obtain ⟨u3, e_u3, h⟩ := olet h
  refine cPR dd74_18 rfl rfl rfl rfl rfl rfl e_u3 ?_
  refine zGo_s (pc' := 22) (st' := [.ref 1007]) dd74_21 rfl ?_
  refine zGo_s (pc' := 23) (st' := [.ref x1, .ref 1007]) dd74_22 rfl ?_
  refine cGF (e := (x1 + 11)) dd74_23 rfl (ck9_s hx1).1 (ck9_s hx1).2 rfl (cf9_1 hx1).1 ?_
  refine zGo_s (pc' := 28) (st' := [.int (8 : Int32), .ref (x1 + 11), .ref 1007]) dd74_26 rfl ?_
  obtain ⟨hi, h⟩ := ochk h
  refine cIA dd74_28 (cf9_1 hx1).2.1 (cf9_1 hx1).2.2 hi ?_
  obtain ⟨u4, e_u4, h⟩ := olet h
  refine cPI dd74_29 rfl rfl rfl rfl rfl rfl e_u4 ?_
  refine zGo_s (pc' := 33) (st' := [.ref 1007]) dd74_32 rfl ?_
  refine zGo_s (pc' := 34) (st' := [.int x2, .ref 1007]) dd74_33 rfl ?_
  obtain ⟨u5, e_u5, h⟩ := olet h
  refine cPI dd74_34 rfl rfl rfl rfl rfl rfl e_u5 ?_
  refine zGo_s (pc' := 38) (st' := [.ref 1007]) dd74_37 rfl ?_
  refine zGo_s (pc' := 39) (st' := [.int (1 : Int32), .ref 1007]) dd74_38 rfl ?_
  obtain ⟨u6, e_u6, h⟩ := olet h
  refine cPI dd74_39 rfl rfl rfl rfl rfl rfl e_u6 ?_
  refine zGo_s (pc' := 43) (st' := [.ref 1007]) dd74_42 rfl ?_
  refine zGo_s (pc' := 44) (st' := [.int (0 : Int32), .ref 1007]) dd74_43 rfl ?_
  obtain ⟨u7, e_u7, h⟩ := olet h
  refine cPI dd74_44 rfl rfl rfl rfl rfl rfl e_u7 ?_
  refine zGo_s (pc' := 48) (st' := [.ref 1007]) dd74_47 rfl ?_
  refine zGo_s (pc' := 49) (st' := [.int (0 : Int32), .ref 1007]) dd74_48 rfl ?_
  obtain ⟨u8, e_u8, h⟩ := olet h
  refine cPI dd74_49 rfl rfl rfl rfl rfl rfl e_u8 ?_
  refine zGo_s (pc' := 53) (st' := [.ref 1007]) dd74_52 rfl ?_
  refine cGF (e := 1009) dd74_53 rfl rfl rfl rfl rfl ?_
  refine zGo_s (pc' := 57) (st' := [.ref x1, .ref 1009]) dd74_56 rfl ?_
  refine cGF (e := (x1 + 12)) dd74_57 rfl (ck9_s hx1).1 (ck9_s hx1).2 rfl (cf9_2 hx1).1 ?_
  obtain ⟨u9, hq, h⟩ := obn0 h
  refine zCV0 (As := [.ref (x1 + 12)]) (rest := []) (b := 1009) (q' := q_75) dd74_60 rfl rfl (rcv_c rfl rfl (by decide)) rfl rfl rfl (f75_ok (d := d) (by omega) (cf9_2 hx1).2.1 (cf9_2 hx1).2.2 hq) ?_
  refine zGo_s (pc' := 64) (st' := [.ref 1007]) dd74_63 rfl ?_
  refine cGF (e := 1014) dd74_64 rfl rfl rfl rfl rfl ?_
  refine zGo_s (pc' := 68) (st' := [.ref x1, .ref 1014]) dd74_67 rfl ?_
  refine cGF (e := (x1 + 13)) dd74_68 rfl (ck9_s hx1).1 (ck9_s hx1).2 rfl (cf9_3 hx1).1 ?_
  obtain ⟨u10, hq, h⟩ := obn0 h
  refine zCV0 (As := [.ref (x1 + 13)]) (rest := []) (b := 1014) (q' := q_76) dd74_71 rfl rfl (rcv_c rfl rfl (by decide)) rfl rfl rfl (f76_ok (d := d) (by omega) (cf9_3 hx1).2.1 (cf9_3 hx1).2.2 hq) ?_
  refine zGo_s (pc' := 75) (st' := [.ref 1007]) dd74_74 rfl ?_
  refine cGF (e := 1022) dd74_75 rfl rfl rfl rfl rfl ?_
  obtain ⟨u11, hq, h⟩ := obn0 h
  refine zCV0 (As := []) (rest := []) (b := 1022) (q' := q_77) dd74_78 rfl rfl (rcv_c rfl rfl (by decide)) rfl rfl rfl (f77_ok (d := d) (by omega)  hq) ?_
  refine zGo_s (pc' := 82) (st' := [.ref 1007]) dd74_81 rfl ?_
  refine cGF (e := 1030) dd74_82 rfl rfl rfl rfl rfl ?_
  obtain ⟨u12, hq, h⟩ := obn0 h
  refine zCV0 (As := []) (rest := []) (b := 1030) (q' := q_78) dd74_85 rfl rfl (rcv_c rfl rfl (by decide)) rfl rfl rfl (f78_ok (d := d) (by omega)  hq) ?_
  refine zGo_s (pc' := 89) (st' := [.int (0 : Int32)]) dd74_88 rfl ?_
  refine zGo_s (pc' := 90) (st' := []) (lv' := [(3, .int (0 : Int32)), (0, .ref 1007), (1, .ref x1), (2, .int x2)]) dd74_89 rfl ?_
  exact zGo_lv (lv := [(0, .ref 1007), (1, .ref x1), (3, .int (0 : Int32))]) ⟨by simp, by simp, by simp⟩ (f74_90_ok hd _ _ _ _ _ hx1 h)
/-! PH$Machine.inState(I)I -/
theorem dd81_0 : decode cX3_inState 0 = .ok (.iconst 0, 1) := by decide +kernel
theorem dd81_1 : decode cX3_inState 1 = .ok (.istore_n 2, 1) := by decide +kernel
theorem dd81_2 : decode cX3_inState 2 = .ok (.iconst 0, 1) := by decide +kernel
theorem dd81_3 : decode cX3_inState 3 = .ok (.istore_n 3, 1) := by decide +kernel
theorem dd81_4 : decode cX3_inState 4 = .ok (.iload_n 3, 1) := by decide +kernel
theorem dd81_5 : decode cX3_inState 5 = .ok (.aload_n 0, 1) := by decide +kernel
theorem dd81_6 : decode cX3_inState 6 = .ok (.getfield 71, 3) := by decide +kernel
theorem dd81_9 : decode cX3_inState 9 = .ok (.if_icmp .ge 25, 3) := by decide +kernel
theorem dd81_12 : decode cX3_inState 12 = .ok (.aload_n 0, 1) := by decide +kernel
theorem dd81_13 : decode cX3_inState 13 = .ok (.getfield 11, 3) := by decide +kernel
theorem dd81_16 : decode cX3_inState 16 = .ok (.iload_n 3, 1) := by decide +kernel
theorem dd81_17 : decode cX3_inState 17 = .ok (.aaload, 1) := by decide +kernel
theorem dd81_18 : decode cX3_inState 18 = .ok (.getfield 123, 3) := by decide +kernel
theorem dd81_21 : decode cX3_inState 21 = .ok (.iload_n 1, 1) := by decide +kernel
theorem dd81_22 : decode cX3_inState 22 = .ok (.if_icmp .ne 6, 3) := by decide +kernel
theorem dd81_25 : decode cX3_inState 25 = .ok (.iinc 2 1, 3) := by decide +kernel
theorem dd81_28 : decode cX3_inState 28 = .ok (.iinc 3 1, 3) := by decide +kernel
theorem dd81_31 : decode cX3_inState 31 = .ok (.goto (-27), 3) := by decide +kernel
theorem dd81_34 : decode cX3_inState 34 = .ok (.iload_n 2, 1) := by decide +kernel
theorem dd81_35 : decode cX3_inState 35 = .ok (.ireturn, 1) := by decide +kernel
def f81_28 (n : Nat) (r4 : Int32 → Int32 → Int32 → zσ → Option (Int32 × zσ)) (x1 : Int32) (x2 : Int32) (x3 : Int32) (s : zσ) : Option (Int32 × zσ) :=
    r4 x1 x2 (x3 + (1 : Int32)) s
set_option maxRecDepth 20000 in
theorem f81_28_ok {n d : Nat} {r4 : Int32 → Int32 → Int32 → zσ → Option (Int32 × zσ)} {x1 : Int32} {x2 : Int32} {x3 : Int32} {s : zσ} {v : Int32} {s2 : zσ} (hd : 0 ≤ d) (hr4 : ∀ (x1 : Int32) (x2 : Int32) (x3 : Int32) (s : zσ) (v : Int32) (s2 : zσ), r4 x1 x2 x3 s = some (v, s2) → ∀ {w : zσ} {fz : Bool} {L : Nat} {xs : Nat → Int32}, zGo (zX fz L xs) d q_81 (4, [(0, .ref 1007), (1, .int x1), (2, .int x2), (3, .int x3)], [], zmk s w, 0, 0) (some (.int v), zmk s2 w, 0, 0)) (h : f81_28 n r4 x1 x2 x3 s = some (v, s2)) {w : zσ} {fz : Bool} {L : Nat} {xs : Nat → Int32} : zGo (zX fz L xs) d q_81 (28, [(0, .ref 1007), (1, .int x1), (2, .int x2), (3, .int x3)], [], zmk s w, 0, 0) (some (.int v), zmk s2 w, 0, 0) := by
  unfold f81_28 at h
  refine zGo_s (pc' := 31) (st' := []) (lv' := [(3, .int (x3 + (1 : Int32))), (0, .ref 1007), (1, .int x1), (2, .int x2)]) dd81_28 rfl ?_
  refine zGo_s (pc' := 4) (st' := []) dd81_31 rfl ?_
  exact zGo_lv (lv := [(0, .ref 1007), (1, .int x1), (2, .int x2), (3, .int (x3 + (1 : Int32)))]) ⟨by simp, by simp, by simp⟩ (hr4 _ _ _ _ _ _ h)
def f81_4 (n : Nat) : Nat → Int32 → Int32 → Int32 → zσ → Option (Int32 × zσ)
  | 0, _, _, _, _ => none
  | j + 1, x1, x2, x3, s =>
    if x3 < (s.1 1007 12) then
    if zin? x3 8 = true then
    zrd 8 (s.2.2 1008 (nx x3)) fun a1 =>
    if (s.1 a1 3) = x1 then
    f81_28 n (f81_4 n j) x1 (x2 + (1 : Int32)) x3 s
    else f81_28 n (f81_4 n j) x1 x2 x3 s
    else none
    else some (x2, s)
set_option maxRecDepth 20000 in
theorem f81_4_ok {n d : Nat} (hd : 0 ≤ d) : ∀ (j : Nat) (x1 : Int32) (x2 : Int32) (x3 : Int32) (s : zσ) (v : Int32) (s2 : zσ), f81_4 n j x1 x2 x3 s = some (v, s2) → ∀ {w : zσ} {fz : Bool} {L : Nat} {xs : Nat → Int32}, zGo (zX fz L xs) d q_81 (4, [(0, .ref 1007), (1, .int x1), (2, .int x2), (3, .int x3)], [], zmk s w, 0, 0) (some (.int v), zmk s2 w, 0, 0) := by
  intro j
  induction j with
  | zero => intro x1 x2 x3 s v s2 h; cases h
  | succ j ih =>
    intro x1 x2 x3 s v s2 h w fz L xs
    rw [f81_4] at h
    refine zGo_s (pc' := 5) (st' := [.int x3]) dd81_4 rfl ?_
    refine zGo_s (pc' := 6) (st' := [.ref 1007, .int x3]) dd81_5 rfl ?_
    refine cGI dd81_6 rfl rfl rfl rfl ?_
    rcases oite h with ⟨hc, h⟩ | ⟨hc, h⟩
    · refine zIF dd81_9 (kGeF hc) ?_
      refine zGo_s (pc' := 13) (st' := [.ref 1007]) dd81_12 rfl ?_
      refine cGF (e := 1008) dd81_13 rfl rfl rfl rfl rfl ?_
      refine zGo_s (pc' := 17) (st' := [.int x3, .ref 1008]) dd81_16 rfl ?_
      obtain ⟨hi, h⟩ := ochk h
      obtain ⟨a1, e_a1, c_a1, h⟩ := ordd h
      refine cAA dd81_17 rfl rfl (Or.inl rfl) hi e_a1 ?_
      refine cGI dd81_18 rfl (ck8_s c_a1).1 (ck8_s c_a1).2 rfl ?_
      refine zGo_s (pc' := 22) (st' := [.int x1, .int (s.1 a1 3)]) dd81_21 rfl ?_
      rcases oite h with ⟨hc, h⟩ | ⟨hc, h⟩
      · refine zIF dd81_22 (kNeF hc) ?_
        refine zGo_s (pc' := 28) (st' := []) (lv' := [(2, .int (x2 + (1 : Int32))), (0, .ref 1007), (1, .int x1), (3, .int x3)]) dd81_25 rfl ?_
        exact zGo_lv (lv := [(0, .ref 1007), (1, .int x1), (2, .int (x2 + (1 : Int32))), (3, .int x3)]) ⟨by simp, by simp, by simp⟩ (f81_28_ok hd ih h)
      · refine zIT dd81_22 rfl (kNeT hc) ?_
        exact f81_28_ok hd ih h
    · refine zIT dd81_9 rfl (kGeT hc) ?_
      refine zGo_s (pc' := 35) (st' := [.int x2]) dd81_34 rfl ?_
      obtain ⟨rfl, rfl⟩ := oret h
      exact zGo_ret dd81_35 rfl rfl
def f81 (n : Nat) (x1 : Int32) (s : zσ) : Option (Int32 × zσ) :=
    f81_4 n n x1 (0 : Int32) (0 : Int32) s
set_option maxRecDepth 20000 in
theorem f81_ok {n d : Nat} {x1 : Int32} {s : zσ} {v : Int32} {s2 : zσ} (hd : 0 ≤ d) (h : f81 n x1 s = some (v, s2)) {w : zσ} {fz : Bool} {L : Nat} {xs : Nat → Int32} : zGo (zX fz L xs) d q_81 (0, [(0, .ref 1007), (1, .int x1)], [], zmk s w, 0, 0) (some (.int v), zmk s2 w, 0, 0) := by
  unfold f81 at h
  refine zGo_s (pc' := 1) (st' := [.int (0 : Int32)]) dd81_0 rfl ?_
  refine zGo_s (pc' := 2) (st' := []) (lv' := [(2, .int (0 : Int32)), (0, .ref 1007), (1, .int x1)]) dd81_1 rfl ?_
  refine zGo_s (pc' := 3) (st' := [.int (0 : Int32)]) dd81_2 rfl ?_
  refine zGo_s (pc' := 4) (st' := []) (lv' := [(3, .int (0 : Int32)), (2, .int (0 : Int32)), (0, .ref 1007), (1, .int x1)]) dd81_3 rfl ?_
  exact zGo_lv (lv := [(0, .ref 1007), (1, .int x1), (2, .int (0 : Int32)), (3, .int (0 : Int32))]) ⟨by simp, by simp, by simp⟩ (f81_4_ok hd _ _ _ _ _ _ _ h)
/-! PH.begin()I -/
theorem dd73_0 : decode cX11_begin 0 = .ok (.aload_n 0, 1) := by decide +kernel
theorem dd73_1 : decode cX11_begin 1 = .ok (.getfield 42, 3) := by decide +kernel
theorem dd73_4 : decode cX11_begin 4 = .ok (.ifCond .ne 6, 3) := by decide +kernel
theorem dd73_7 : decode cX11_begin 7 = .ok (.bipush (-3), 2) := by decide +kernel
theorem dd73_9 : decode cX11_begin 9 = .ok (.ireturn, 1) := by decide +kernel
theorem dd73_10 : decode cX11_begin 10 = .ok (.aload_n 0, 1) := by decide +kernel
theorem dd73_11 : decode cX11_begin 11 = .ok (.getfield 28, 3) := by decide +kernel
theorem dd73_14 : decode cX11_begin 14 = .ok (.aload_n 0, 1) := by decide +kernel
theorem dd73_15 : decode cX11_begin 15 = .ok (.getfield 35, 3) := by decide +kernel
theorem dd73_18 : decode cX11_begin 18 = .ok (.aload_n 0, 1) := by decide +kernel
theorem dd73_19 : decode cX11_begin 19 = .ok (.getfield 50, 3) := by decide +kernel
theorem dd73_22 : decode cX11_begin 22 = .ok (.invokevirtual 90, 3) := by decide +kernel
theorem dd73_25 : decode cX11_begin 25 = .ok (.aload_n 0, 1) := by decide +kernel
theorem dd73_26 : decode cX11_begin 26 = .ok (.getfield 28, 3) := by decide +kernel
theorem dd73_29 : decode cX11_begin 29 = .ok (.iconst 1, 1) := by decide +kernel
theorem dd73_30 : decode cX11_begin 30 = .ok (.invokevirtual 94, 3) := by decide +kernel
theorem dd73_33 : decode cX11_begin 33 = .ok (.ireturn, 1) := by decide +kernel
def f73 (n : Nat) (s : zσ) : Option (Int32 × zσ) :=
    if (s.1 1000 5) = (0 : Int32) then
    some ((-3 : Int32), s)
    else zrd 9 (s.2.2 1000 3) fun a1 =>
    yb0 (f74 n a1 (s.1 1000 7) s) fun u2 =>
    yb1 (f81 n (1 : Int32) u2) fun v4 u3 =>
    some (v4, u3)
set_option maxRecDepth 20000 in
theorem f73_ok {n d : Nat} {s : zσ} {v : Int32} {s2 : zσ} (hd : 4 ≤ d) (h : f73 n s = some (v, s2)) {w : zσ} {fz : Bool} {L : Nat} {xs : Nat → Int32} : zGo (zX fz L xs) d q_73 (0, [(0, .ref 1000)], [], zmk s w, 0, 0) (some (.int v), zmk s2 w, 0, 0) := by
  obtain ⟨d, rfl⟩ : ∃ d0, d = d0 + 1 := ⟨d - 1, by omega⟩
  unfold f73 at h
  refine zGo_s (pc' := 1) (st' := [.ref 1000]) dd73_0 rfl ?_
  refine cGI dd73_1 rfl rfl rfl rfl ?_
  rcases oite h with ⟨hc, h⟩ | ⟨hc, h⟩
  · refine zUF dd73_4 (kNeF hc) ?_
    refine zGo_s (pc' := 9) (st' := [.int (-3 : Int32)]) dd73_7 rfl ?_
    obtain ⟨rfl, rfl⟩ := oret h
    exact zGo_ret dd73_9 rfl rfl
  · refine zUT dd73_4 rfl (kNeT hc) ?_
    refine zGo_s (pc' := 11) (st' := [.ref 1000]) dd73_10 rfl ?_
    refine cGF (e := 1007) dd73_11 rfl rfl rfl rfl rfl ?_
    refine zGo_s (pc' := 15) (st' := [.ref 1000, .ref 1007]) dd73_14 rfl ?_
    obtain ⟨a1, e_a1, c_a1, h⟩ := ordd h
    refine cGR dd73_15 rfl rfl rfl rfl e_a1 ?_
    refine zGo_s (pc' := 19) (st' := [.ref 1000, .ref a1, .ref 1007]) dd73_18 rfl ?_
    refine cGI dd73_19 rfl rfl rfl rfl ?_
    obtain ⟨u2, hq, h⟩ := obn0 h
    refine zCV0 (As := [.ref a1, .int (s.1 1000 7)]) (rest := []) (b := 1007) (q' := q_74) dd73_22 rfl rfl (rcv_c rfl rfl (by decide)) rfl rfl rfl (f74_ok (d := d) (by omega) c_a1 hq) ?_
    refine zGo_s (pc' := 26) (st' := [.ref 1000]) dd73_25 rfl ?_
    refine cGF (e := 1007) dd73_26 rfl rfl rfl rfl rfl ?_
    refine zGo_s (pc' := 30) (st' := [.int (1 : Int32), .ref 1007]) dd73_29 rfl ?_
    obtain ⟨v4, u3, hq, h⟩ := obnd h
    refine zCV1 (As := [.int (1 : Int32)]) (rest := []) (b := 1007) (q' := q_81) dd73_30 rfl rfl (rcv_c rfl rfl (by decide)) rfl rfl rfl (f81_ok (d := d) (by omega)  hq) ?_
    obtain ⟨rfl, rfl⟩ := oret h
    exact zGo_ret dd73_33 rfl rfl
/-! PH$Timetable.earliest()I -/
theorem dd85_0 : decode cX10_earliest 0 = .ok (.iconst (-1), 1) := by decide +kernel
theorem dd85_1 : decode cX10_earliest 1 = .ok (.istore_n 1, 1) := by decide +kernel
theorem dd85_2 : decode cX10_earliest 2 = .ok (.iconst 0, 1) := by decide +kernel
theorem dd85_3 : decode cX10_earliest 3 = .ok (.istore_n 2, 1) := by decide +kernel
theorem dd85_4 : decode cX10_earliest 4 = .ok (.iload_n 2, 1) := by decide +kernel
theorem dd85_5 : decode cX10_earliest 5 = .ok (.aload_n 0, 1) := by decide +kernel
theorem dd85_6 : decode cX10_earliest 6 = .ok (.getfield 9, 3) := by decide +kernel
theorem dd85_9 : decode cX10_earliest 9 = .ok (.arraylength, 1) := by decide +kernel
theorem dd85_10 : decode cX10_earliest 10 = .ok (.if_icmp .ge 40, 3) := by decide +kernel
theorem dd85_13 : decode cX10_earliest 13 = .ok (.aload_n 0, 1) := by decide +kernel
theorem dd85_14 : decode cX10_earliest 14 = .ok (.getfield 9, 3) := by decide +kernel
theorem dd85_17 : decode cX10_earliest 17 = .ok (.iload_n 2, 1) := by decide +kernel
theorem dd85_18 : decode cX10_earliest 18 = .ok (.iaload, 1) := by decide +kernel
theorem dd85_19 : decode cX10_earliest 19 = .ok (.ifCond .lt 25, 3) := by decide +kernel
theorem dd85_22 : decode cX10_earliest 22 = .ok (.iload_n 1, 1) := by decide +kernel
theorem dd85_23 : decode cX10_earliest 23 = .ok (.iconst (-1), 1) := by decide +kernel
theorem dd85_24 : decode cX10_earliest 24 = .ok (.if_icmp .eq 18, 3) := by decide +kernel
theorem dd85_27 : decode cX10_earliest 27 = .ok (.aload_n 0, 1) := by decide +kernel
theorem dd85_28 : decode cX10_earliest 28 = .ok (.getfield 9, 3) := by decide +kernel
theorem dd85_31 : decode cX10_earliest 31 = .ok (.iload_n 2, 1) := by decide +kernel
theorem dd85_32 : decode cX10_earliest 32 = .ok (.iaload, 1) := by decide +kernel
theorem dd85_33 : decode cX10_earliest 33 = .ok (.aload_n 0, 1) := by decide +kernel
theorem dd85_34 : decode cX10_earliest 34 = .ok (.getfield 9, 3) := by decide +kernel
theorem dd85_37 : decode cX10_earliest 37 = .ok (.iload_n 1, 1) := by decide +kernel
theorem dd85_38 : decode cX10_earliest 38 = .ok (.iaload, 1) := by decide +kernel
theorem dd85_39 : decode cX10_earliest 39 = .ok (.if_icmp .ge 5, 3) := by decide +kernel
theorem dd85_42 : decode cX10_earliest 42 = .ok (.iload_n 2, 1) := by decide +kernel
theorem dd85_43 : decode cX10_earliest 43 = .ok (.istore_n 1, 1) := by decide +kernel
theorem dd85_44 : decode cX10_earliest 44 = .ok (.iinc 2 1, 3) := by decide +kernel
theorem dd85_47 : decode cX10_earliest 47 = .ok (.goto (-43), 3) := by decide +kernel
theorem dd85_50 : decode cX10_earliest 50 = .ok (.iload_n 1, 1) := by decide +kernel
theorem dd85_51 : decode cX10_earliest 51 = .ok (.ireturn, 1) := by decide +kernel
def f85_44 (n : Nat) (r4 : Int32 → Int32 → zσ → Option (Int32 × zσ)) (x1 : Int32) (x2 : Int32) (s : zσ) : Option (Int32 × zσ) :=
    r4 x1 (x2 + (1 : Int32)) s
set_option maxRecDepth 20000 in
theorem f85_44_ok {n d : Nat} {r4 : Int32 → Int32 → zσ → Option (Int32 × zσ)} {x1 : Int32} {x2 : Int32} {s : zσ} {v : Int32} {s2 : zσ} (hd : 0 ≤ d) (hr4 : ∀ (x1 : Int32) (x2 : Int32) (s : zσ) (v : Int32) (s2 : zσ), r4 x1 x2 s = some (v, s2) → ∀ {w : zσ} {fz : Bool} {L : Nat} {xs : Nat → Int32}, zGo (zX fz L xs) d q_85 (4, [(0, .ref 1022), (1, .int x1), (2, .int x2)], [], zmk s w, 0, 0) (some (.int v), zmk s2 w, 0, 0)) (h : f85_44 n r4 x1 x2 s = some (v, s2)) {w : zσ} {fz : Bool} {L : Nat} {xs : Nat → Int32} : zGo (zX fz L xs) d q_85 (44, [(0, .ref 1022), (1, .int x1), (2, .int x2)], [], zmk s w, 0, 0) (some (.int v), zmk s2 w, 0, 0) := by
  unfold f85_44 at h
  refine zGo_s (pc' := 47) (st' := []) (lv' := [(2, .int (x2 + (1 : Int32))), (0, .ref 1022), (1, .int x1)]) dd85_44 rfl ?_
  refine zGo_s (pc' := 4) (st' := []) dd85_47 rfl ?_
  exact zGo_lv (lv := [(0, .ref 1022), (1, .int x1), (2, .int (x2 + (1 : Int32)))]) ⟨by simp, by simp, by simp⟩ (hr4 _ _ _ _ _ h)
def f85_42 (n : Nat) (r4 : Int32 → Int32 → zσ → Option (Int32 × zσ)) (x2 : Int32) (s : zσ) : Option (Int32 × zσ) :=
    f85_44 n r4 x2 x2 s
set_option maxRecDepth 20000 in
theorem f85_42_ok {n d : Nat} {r4 : Int32 → Int32 → zσ → Option (Int32 × zσ)} {x2 : Int32} {s : zσ} {v : Int32} {s2 : zσ} (hd : 0 ≤ d) (hr4 : ∀ (x1 : Int32) (x2 : Int32) (s : zσ) (v : Int32) (s2 : zσ), r4 x1 x2 s = some (v, s2) → ∀ {w : zσ} {fz : Bool} {L : Nat} {xs : Nat → Int32}, zGo (zX fz L xs) d q_85 (4, [(0, .ref 1022), (1, .int x1), (2, .int x2)], [], zmk s w, 0, 0) (some (.int v), zmk s2 w, 0, 0)) (h : f85_42 n r4 x2 s = some (v, s2)) {w : zσ} {fz : Bool} {L : Nat} {xs : Nat → Int32} : zGo (zX fz L xs) d q_85 (42, [(0, .ref 1022), (2, .int x2)], [], zmk s w, 0, 0) (some (.int v), zmk s2 w, 0, 0) := by
  unfold f85_42 at h
  refine zGo_s (pc' := 43) (st' := [.int x2]) dd85_42 rfl ?_
  refine zGo_s (pc' := 44) (st' := []) (lv' := [(1, .int x2), (0, .ref 1022), (2, .int x2)]) dd85_43 rfl ?_
  exact zGo_lv (lv := [(0, .ref 1022), (1, .int x2), (2, .int x2)]) ⟨by simp, by simp, by simp⟩ (f85_44_ok hd hr4 h)
def f85_4 (n : Nat) : Nat → Int32 → Int32 → zσ → Option (Int32 × zσ)
  | 0, _, _, _ => none
  | j + 1, x1, x2, s =>
    if x2 < (Int32.ofNat 16) then
    if zin? x2 16 = true then
    if (s.1 1023 (nx x2)) < (0 : Int32) then
    f85_44 n (f85_4 n j) x1 x2 s
    else if x1 = (-1 : Int32) then
    f85_42 n (f85_4 n j) x2 s
    else if zin? x2 16 = true then
    if zin? x1 16 = true then
    if (s.1 1023 (nx x2)) < (s.1 1023 (nx x1)) then
    f85_42 n (f85_4 n j) x2 s
    else f85_44 n (f85_4 n j) x1 x2 s
    else none
    else none
    else none
    else some (x1, s)
set_option maxRecDepth 20000 in
theorem f85_4_ok {n d : Nat} (hd : 0 ≤ d) : ∀ (j : Nat) (x1 : Int32) (x2 : Int32) (s : zσ) (v : Int32) (s2 : zσ), f85_4 n j x1 x2 s = some (v, s2) → ∀ {w : zσ} {fz : Bool} {L : Nat} {xs : Nat → Int32}, zGo (zX fz L xs) d q_85 (4, [(0, .ref 1022), (1, .int x1), (2, .int x2)], [], zmk s w, 0, 0) (some (.int v), zmk s2 w, 0, 0) := by
  intro j
  induction j with
  | zero => intro x1 x2 s v s2 h; cases h
  | succ j ih =>
    intro x1 x2 s v s2 h w fz L xs
    rw [f85_4] at h
    refine zGo_s (pc' := 5) (st' := [.int x2]) dd85_4 rfl ?_
    refine zGo_s (pc' := 6) (st' := [.ref 1022, .int x2]) dd85_5 rfl ?_
    refine cGF (e := 1023) dd85_6 rfl rfl rfl rfl rfl ?_
    refine cAL dd85_9 rfl rfl (by decide) ?_
    rcases oite h with ⟨hc, h⟩ | ⟨hc, h⟩
    · refine zIF dd85_10 (kGeF hc) ?_
      refine zGo_s (pc' := 14) (st' := [.ref 1022]) dd85_13 rfl ?_
      refine cGF (e := 1023) dd85_14 rfl rfl rfl rfl rfl ?_
      refine zGo_s (pc' := 18) (st' := [.int x2, .ref 1023]) dd85_17 rfl ?_
      obtain ⟨hi, h⟩ := ochk h
      refine cIA dd85_18 rfl rfl hi ?_
      rcases oite h with ⟨hc, h⟩ | ⟨hc, h⟩
      · refine zUT dd85_19 rfl (kLtT hc) ?_
        exact f85_44_ok hd ih h
      · refine zUF dd85_19 (kLtF hc) ?_
        refine zGo_s (pc' := 23) (st' := [.int x1]) dd85_22 rfl ?_
        refine zGo_s (pc' := 24) (st' := [.int (-1 : Int32), .int x1]) dd85_23 rfl ?_
        rcases oite h with ⟨hc, h⟩ | ⟨hc, h⟩
        · refine zIT dd85_24 rfl (kEqT hc) ?_
          exact zGo_lv (lv := [(0, .ref 1022), (2, .int x2)]) ⟨by simp, by simp, by simp⟩ (f85_42_ok hd ih h)
        · refine zIF dd85_24 (kEqF hc) ?_
          refine zGo_s (pc' := 28) (st' := [.ref 1022]) dd85_27 rfl ?_
          refine cGF (e := 1023) dd85_28 rfl rfl rfl rfl rfl ?_
          refine zGo_s (pc' := 32) (st' := [.int x2, .ref 1023]) dd85_31 rfl ?_
          obtain ⟨hi, h⟩ := ochk h
          refine cIA dd85_32 rfl rfl hi ?_
          refine zGo_s (pc' := 34) (st' := [.ref 1022, .int (s.1 1023 (nx x2))]) dd85_33 rfl ?_
          refine cGF (e := 1023) dd85_34 rfl rfl rfl rfl rfl ?_
          refine zGo_s (pc' := 38) (st' := [.int x1, .ref 1023, .int (s.1 1023 (nx x2))]) dd85_37 rfl ?_
          obtain ⟨hi, h⟩ := ochk h
          refine cIA dd85_38 rfl rfl hi ?_
          rcases oite h with ⟨hc, h⟩ | ⟨hc, h⟩
          · refine zIF dd85_39 (kGeF hc) ?_
            exact zGo_lv (lv := [(0, .ref 1022), (2, .int x2)]) ⟨by simp, by simp, by simp⟩ (f85_42_ok hd ih h)
          · refine zIT dd85_39 rfl (kGeT hc) ?_
            exact f85_44_ok hd ih h
    · refine zIT dd85_10 rfl (kGeT hc) ?_
      refine zGo_s (pc' := 51) (st' := [.int x1]) dd85_50 rfl ?_
      obtain ⟨rfl, rfl⟩ := oret h
      exact zGo_ret dd85_51 rfl rfl
def f85 (n : Nat) (s : zσ) : Option (Int32 × zσ) :=
    f85_4 n n (-1 : Int32) (0 : Int32) s
set_option maxRecDepth 20000 in
theorem f85_ok {n d : Nat} {s : zσ} {v : Int32} {s2 : zσ} (hd : 0 ≤ d) (h : f85 n s = some (v, s2)) {w : zσ} {fz : Bool} {L : Nat} {xs : Nat → Int32} : zGo (zX fz L xs) d q_85 (0, [(0, .ref 1022)], [], zmk s w, 0, 0) (some (.int v), zmk s2 w, 0, 0) := by
  unfold f85 at h
  refine zGo_s (pc' := 1) (st' := [.int (-1 : Int32)]) dd85_0 rfl ?_
  refine zGo_s (pc' := 2) (st' := []) (lv' := [(1, .int (-1 : Int32)), (0, .ref 1022)]) dd85_1 rfl ?_
  refine zGo_s (pc' := 3) (st' := [.int (0 : Int32)]) dd85_2 rfl ?_
  refine zGo_s (pc' := 4) (st' := []) (lv' := [(2, .int (0 : Int32)), (1, .int (-1 : Int32)), (0, .ref 1022)]) dd85_3 rfl ?_
  exact zGo_lv (lv := [(0, .ref 1022), (1, .int (-1 : Int32)), (2, .int (0 : Int32))]) ⟨by simp, by simp, by simp⟩ (f85_4_ok hd _ _ _ _ _ _ h)
/-! PH$Timetable.pass(I)V -/
theorem dd86_0 : decode cX10_pass 0 = .ok (.aload_n 0, 1) := by decide +kernel
theorem dd86_1 : decode cX10_pass 1 = .ok (.getfield 9, 3) := by decide +kernel
theorem dd86_4 : decode cX10_pass 4 = .ok (.iload_n 1, 1) := by decide +kernel
theorem dd86_5 : decode cX10_pass 5 = .ok (.iaload, 1) := by decide +kernel
theorem dd86_6 : decode cX10_pass 6 = .ok (.i2l, 1) := by decide +kernel
theorem dd86_7 : decode cX10_pass 7 = .ok (.aload_n 0, 1) := by decide +kernel
theorem dd86_8 : decode cX10_pass 8 = .ok (.getfield 15, 3) := by decide +kernel
theorem dd86_11 : decode cX10_pass 11 = .ok (.iload_n 1, 1) := by decide +kernel
theorem dd86_12 : decode cX10_pass 12 = .ok (.iaload, 1) := by decide +kernel
theorem dd86_13 : decode cX10_pass 13 = .ok (.i2l, 1) := by decide +kernel
theorem dd86_14 : decode cX10_pass 14 = .ok (.ladd, 1) := by decide +kernel
theorem dd86_15 : decode cX10_pass 15 = .ok (.lstore_n 2, 1) := by decide +kernel
theorem dd86_16 : decode cX10_pass 16 = .ok (.aload_n 0, 1) := by decide +kernel
theorem dd86_17 : decode cX10_pass 17 = .ok (.getfield 15, 3) := by decide +kernel
theorem dd86_20 : decode cX10_pass 20 = .ok (.iload_n 1, 1) := by decide +kernel
theorem dd86_21 : decode cX10_pass 21 = .ok (.iaload, 1) := by decide +kernel
theorem dd86_22 : decode cX10_pass 22 = .ok (.ifCond .eq 23, 3) := by decide +kernel
theorem dd86_25 : decode cX10_pass 25 = .ok (.lload_n 2, 1) := by decide +kernel
theorem dd86_26 : decode cX10_pass 26 = .ok (.aload_n 0, 1) := by decide +kernel
theorem dd86_27 : decode cX10_pass 27 = .ok (.getfield 18, 3) := by decide +kernel
theorem dd86_30 : decode cX10_pass 30 = .ok (.iload_n 1, 1) := by decide +kernel
theorem dd86_31 : decode cX10_pass 31 = .ok (.iaload, 1) := by decide +kernel
theorem dd86_32 : decode cX10_pass 32 = .ok (.i2l, 1) := by decide +kernel
theorem dd86_33 : decode cX10_pass 33 = .ok (.lcmp, 1) := by decide +kernel
theorem dd86_34 : decode cX10_pass 34 = .ok (.ifCond .gt 11, 3) := by decide +kernel
theorem dd86_37 : decode cX10_pass 37 = .ok (.lload_n 2, 1) := by decide +kernel
theorem dd86_38 : decode cX10_pass 38 = .ok (.ldc2_w 41, 3) := by decide +kernel
theorem dd86_41 : decode cX10_pass 41 = .ok (.lcmp, 1) := by decide +kernel
theorem dd86_42 : decode cX10_pass 42 = .ok (.ifCond .le 7, 3) := by decide +kernel
theorem dd86_45 : decode cX10_pass 45 = .ok (.iconst 1, 1) := by decide +kernel
theorem dd86_46 : decode cX10_pass 46 = .ok (.goto 4, 3) := by decide +kernel
theorem dd86_49 : decode cX10_pass 49 = .ok (.iconst 0, 1) := by decide +kernel
theorem dd86_50 : decode cX10_pass 50 = .ok (.istore 4, 2) := by decide +kernel
theorem dd86_52 : decode cX10_pass 52 = .ok (.aload_n 0, 1) := by decide +kernel
theorem dd86_53 : decode cX10_pass 53 = .ok (.getfield 9, 3) := by decide +kernel
theorem dd86_56 : decode cX10_pass 56 = .ok (.iload_n 1, 1) := by decide +kernel
theorem dd86_57 : decode cX10_pass 57 = .ok (.iload 4, 2) := by decide +kernel
theorem dd86_59 : decode cX10_pass 59 = .ok (.ifCond .eq 7, 3) := by decide +kernel
theorem dd86_62 : decode cX10_pass 62 = .ok (.iconst (-1), 1) := by decide +kernel
theorem dd86_63 : decode cX10_pass 63 = .ok (.goto 5, 3) := by decide +kernel
theorem dd86_66 : decode cX10_pass 66 = .ok (.lload_n 2, 1) := by decide +kernel
theorem dd86_67 : decode cX10_pass 67 = .ok (.l2i, 1) := by decide +kernel
theorem dd86_68 : decode cX10_pass 68 = .ok (.iastore, 1) := by decide +kernel
theorem dd86_69 : decode cX10_pass 69 = .ok (.return_, 1) := by decide +kernel
def f86_68 (n : Nat) (y0 : Int32) (y1 : Int32) (s : zσ) : Option zσ :=
    if zin? y1 16 = true then
    zlet (sI s 1023 (nx y1) y0) fun u1 =>
    some u1
    else none
set_option maxRecDepth 20000 in
theorem f86_68_ok {n d : Nat} {y0 : Int32} {y1 : Int32} {s : zσ} {s2 : zσ} (hd : 0 ≤ d) (h : f86_68 n y0 y1 s = some s2) {w : zσ} {fz : Bool} {L : Nat} {xs : Nat → Int32} : zGo (zX fz L xs) d q_86 (68, [], [.int y0, .int y1, .ref 1023], zmk s w, 0, 0) (none, zmk s2 w, 0, 0) := by
  unfold f86_68 at h
  obtain ⟨hi, h⟩ := ochk h
  obtain ⟨u1, e_u1, h⟩ := olet h
  refine cIS dd86_68 rfl rfl hi e_u1 ?_
  obtain rfl := ore0 h
  exact zGo_ret dd86_69 rfl rfl
def f86_50 (n : Nat) (x1 : Int32) (x2 : Int64) (y0 : Int32) (s : zσ) : Option zσ :=
    if y0 = (0 : Int32) then
    f86_68 n (x2.toInt32) x1 s
    else f86_68 n (-1 : Int32) x1 s
set_option maxRecDepth 20000 in
theorem f86_50_ok {n d : Nat} {x1 : Int32} {x2 : Int64} {y0 : Int32} {s : zσ} {s2 : zσ} (hd : 0 ≤ d) (h : f86_50 n x1 x2 y0 s = some s2) {w : zσ} {fz : Bool} {L : Nat} {xs : Nat → Int32} : zGo (zX fz L xs) d q_86 (50, [(0, .ref 1022), (1, .int x1), (2, .long x2)], [.int y0], zmk s w, 0, 0) (none, zmk s2 w, 0, 0) := by
  unfold f86_50 at h
  refine zGo_s (pc' := 52) (st' := []) (lv' := [(4, .int y0), (0, .ref 1022), (1, .int x1), (2, .long x2)]) dd86_50 rfl ?_
  refine zGo_s (pc' := 53) (st' := [.ref 1022]) dd86_52 rfl ?_
  refine cGF (e := 1023) dd86_53 rfl rfl rfl rfl rfl ?_
  refine zGo_s (pc' := 57) (st' := [.int x1, .ref 1023]) dd86_56 rfl ?_
  refine zGo_s (pc' := 59) (st' := [.int y0, .int x1, .ref 1023]) dd86_57 rfl ?_
  rcases oite h with ⟨hc, h⟩ | ⟨hc, h⟩
  · refine zUT dd86_59 rfl (kEqT hc) ?_
    refine zGo_s (pc' := 67) (st' := [.long x2, .int x1, .ref 1023]) dd86_66 rfl ?_
    refine zGo_s (pc' := 68) (st' := [.int (x2.toInt32), .int x1, .ref 1023]) dd86_67 rfl ?_
    exact zGo_lv (lv := []) ⟨by simp, by simp, by simp⟩ (f86_68_ok hd h)
  · refine zUF dd86_59 (kEqF hc) ?_
    refine zGo_s (pc' := 63) (st' := [.int (-1 : Int32), .int x1, .ref 1023]) dd86_62 rfl ?_
    refine zGo_s (pc' := 68) (st' := [.int (-1 : Int32), .int x1, .ref 1023]) dd86_63 rfl ?_
    exact zGo_lv (lv := []) ⟨by simp, by simp, by simp⟩ (f86_68_ok hd h)
def f86_45 (n : Nat) (x1 : Int32) (x2 : Int64) (s : zσ) : Option zσ :=
    f86_50 n x1 x2 (1 : Int32) s
set_option maxRecDepth 20000 in
theorem f86_45_ok {n d : Nat} {x1 : Int32} {x2 : Int64} {s : zσ} {s2 : zσ} (hd : 0 ≤ d) (h : f86_45 n x1 x2 s = some s2) {w : zσ} {fz : Bool} {L : Nat} {xs : Nat → Int32} : zGo (zX fz L xs) d q_86 (45, [(0, .ref 1022), (1, .int x1), (2, .long x2)], [], zmk s w, 0, 0) (none, zmk s2 w, 0, 0) := by
  unfold f86_45 at h
  refine zGo_s (pc' := 46) (st' := [.int (1 : Int32)]) dd86_45 rfl ?_
  refine zGo_s (pc' := 50) (st' := [.int (1 : Int32)]) dd86_46 rfl ?_
  exact f86_50_ok hd h
def f86 (n : Nat) (x1 : Int32) (s : zσ) : Option zσ :=
    if zin? x1 16 = true then
    if zin? x1 16 = true then
    zlet ((((s.1 1023 (nx x1)).toInt64) + ((s.1 1024 (nx x1)).toInt64))) fun v1 =>
    if zin? x1 16 = true then
    if (s.1 1024 (nx x1)) = (0 : Int32) then
    f86_45 n x1 v1 s
    else if zin? x1 16 = true then
    if ((s.1 1025 (nx x1)).toInt64) < v1 then
    f86_45 n x1 v1 s
    else if (1000000000 : Int64) < v1 then
    f86_45 n x1 v1 s
    else f86_50 n x1 v1 (0 : Int32) s
    else none
    else none
    else none
    else none
set_option maxRecDepth 20000 in
theorem f86_ok {n d : Nat} {x1 : Int32} {s : zσ} {s2 : zσ} (hd : 0 ≤ d) (h : f86 n x1 s = some s2) {w : zσ} {fz : Bool} {L : Nat} {xs : Nat → Int32} : zGo (zX fz L xs) d q_86 (0, [(0, .ref 1022), (1, .int x1)], [], zmk s w, 0, 0) (none, zmk s2 w, 0, 0) := by
  unfold f86 at h
  refine zGo_s (pc' := 1) (st' := [.ref 1022]) dd86_0 rfl ?_
  refine cGF (e := 1023) dd86_1 rfl rfl rfl rfl rfl ?_
  refine zGo_s (pc' := 5) (st' := [.int x1, .ref 1023]) dd86_4 rfl ?_
  obtain ⟨hi, h⟩ := ochk h
  refine cIA dd86_5 rfl rfl hi ?_
  refine zGo_s (pc' := 7) (st' := [.long ((s.1 1023 (nx x1)).toInt64)]) dd86_6 rfl ?_
  refine zGo_s (pc' := 8) (st' := [.ref 1022, .long ((s.1 1023 (nx x1)).toInt64)]) dd86_7 rfl ?_
  refine cGF (e := 1024) dd86_8 rfl rfl rfl rfl rfl ?_
  refine zGo_s (pc' := 12) (st' := [.int x1, .ref 1024, .long ((s.1 1023 (nx x1)).toInt64)]) dd86_11 rfl ?_
  obtain ⟨hi, h⟩ := ochk h
  refine cIA dd86_12 rfl rfl hi ?_
  refine zGo_s (pc' := 14) (st' := [.long ((s.1 1024 (nx x1)).toInt64), .long ((s.1 1023 (nx x1)).toInt64)]) dd86_13 rfl ?_
  refine zGo_s (pc' := 15) (st' := [.long (((s.1 1023 (nx x1)).toInt64) + ((s.1 1024 (nx x1)).toInt64))]) dd86_14 rfl ?_
  obtain ⟨v1, e_v1, h⟩ := olet h
  refine zGo_is2 e_v1 dd86_15 (x' := (16, [(2, .long v1), (0, .ref 1022), (1, .int x1)], [], _, _, _)) rfl ?_
  refine zGo_s (pc' := 17) (st' := [.ref 1022]) dd86_16 rfl ?_
  refine cGF (e := 1024) dd86_17 rfl rfl rfl rfl rfl ?_
  refine zGo_s (pc' := 21) (st' := [.int x1, .ref 1024]) dd86_20 rfl ?_
  obtain ⟨hi, h⟩ := ochk h
  refine cIA dd86_21 rfl rfl hi ?_
  rcases oite h with ⟨hc, h⟩ | ⟨hc, h⟩
  · refine zUT dd86_22 rfl (kEqT hc) ?_
    exact zGo_lv (lv := [(0, .ref 1022), (1, .int x1), (2, .long v1)]) ⟨by simp, by simp, by simp⟩ (f86_45_ok hd h)
  · refine zUF dd86_22 (kEqF hc) ?_
    refine zGo_s (pc' := 26) (st' := [.long v1]) dd86_25 rfl ?_
    refine zGo_s (pc' := 27) (st' := [.ref 1022, .long v1]) dd86_26 rfl ?_
    refine cGF (e := 1025) dd86_27 rfl rfl rfl rfl rfl ?_
    refine zGo_s (pc' := 31) (st' := [.int x1, .ref 1025, .long v1]) dd86_30 rfl ?_
    obtain ⟨hi, h⟩ := ochk h
    refine cIA dd86_31 rfl rfl hi ?_
    refine zGo_s (pc' := 33) (st' := [.long ((s.1 1025 (nx x1)).toInt64), .long v1]) dd86_32 rfl ?_
    refine zGo_s (pc' := 34) (st' := [.int (lg_cmp v1 ((s.1 1025 (nx x1)).toInt64))]) dd86_33 rfl ?_
    rcases oite h with ⟨hc, h⟩ | ⟨hc, h⟩
    · refine zUT dd86_34 rfl (kcGtT hc) ?_
      exact zGo_lv (lv := [(0, .ref 1022), (1, .int x1), (2, .long v1)]) ⟨by simp, by simp, by simp⟩ (f86_45_ok hd h)
    · refine zUF dd86_34 (kcGtF hc) ?_
      refine zGo_s (pc' := 38) (st' := [.long v1]) dd86_37 rfl ?_
      refine zGo_s (pc' := 41) (st' := [.long (1000000000 : Int64), .long v1]) dd86_38 rfl ?_
      refine zGo_s (pc' := 42) (st' := [.int (lg_cmp v1 (1000000000 : Int64))]) dd86_41 rfl ?_
      rcases oite h with ⟨hc, h⟩ | ⟨hc, h⟩
      · refine zUF dd86_42 (kcLeF hc) ?_
        exact zGo_lv (lv := [(0, .ref 1022), (1, .int x1), (2, .long v1)]) ⟨by simp, by simp, by simp⟩ (f86_45_ok hd h)
      · refine zUT dd86_42 rfl (kcLeT hc) ?_
        refine zGo_s (pc' := 50) (st' := [.int (0 : Int32)]) dd86_49 rfl ?_
        exact zGo_lv (lv := [(0, .ref 1022), (1, .int x1), (2, .long v1)]) ⟨by simp, by simp, by simp⟩ (f86_50_ok hd h)
/-! PH$Machine.act(I)I -/
theorem dd87_0 : decode cX3_act 0 = .ok (.aload_n 0, 1) := by decide +kernel
theorem dd87_1 : decode cX3_act 1 = .ok (.getfield 11, 3) := by decide +kernel
theorem dd87_4 : decode cX3_act 4 = .ok (.iload_n 1, 1) := by decide +kernel
theorem dd87_5 : decode cX3_act 5 = .ok (.iconst 2, 1) := by decide +kernel
theorem dd87_6 : decode cX3_act 6 = .ok (.idiv, 1) := by decide +kernel
theorem dd87_7 : decode cX3_act 7 = .ok (.aaload, 1) := by decide +kernel
theorem dd87_8 : decode cX3_act 8 = .ok (.astore_n 2, 1) := by decide +kernel
theorem dd87_9 : decode cX3_act 9 = .ok (.iload_n 1, 1) := by decide +kernel
theorem dd87_10 : decode cX3_act 10 = .ok (.iconst 2, 1) := by decide +kernel
theorem dd87_11 : decode cX3_act 11 = .ok (.irem, 1) := by decide +kernel
theorem dd87_12 : decode cX3_act 12 = .ok (.ifCond .ne 51, 3) := by decide +kernel
theorem dd87_15 : decode cX3_act 15 = .ok (.aload_n 2, 1) := by decide +kernel
theorem dd87_16 : decode cX3_act 16 = .ok (.getfield 123, 3) := by decide +kernel
theorem dd87_19 : decode cX3_act 19 = .ok (.ifCond .ne 11, 3) := by decide +kernel
theorem dd87_22 : decode cX3_act 22 = .ok (.aload_n 0, 1) := by decide +kernel
theorem dd87_23 : decode cX3_act 23 = .ok (.aload_n 2, 1) := by decide +kernel
theorem dd87_24 : decode cX3_act 24 = .ok (.invokevirtual 119, 3) := by decide +kernel
theorem dd87_27 : decode cX3_act 27 = .ok (.goto 34, 3) := by decide +kernel
theorem dd87_30 : decode cX3_act 30 = .ok (.aload_n 2, 1) := by decide +kernel
theorem dd87_31 : decode cX3_act 31 = .ok (.getfield 339, 3) := by decide +kernel
theorem dd87_34 : decode cX3_act 34 = .ok (.iconst 3, 1) := by decide +kernel
theorem dd87_35 : decode cX3_act 35 = .ok (.if_icmp .ge 16, 3) := by decide +kernel
theorem dd87_38 : decode cX3_act 38 = .ok (.aload_n 2, 1) := by decide +kernel
theorem dd87_39 : decode cX3_act 39 = .ok (.dup, 1) := by decide +kernel
theorem dd87_40 : decode cX3_act 40 = .ok (.getfield 339, 3) := by decide +kernel
theorem dd87_43 : decode cX3_act 43 = .ok (.iconst 1, 1) := by decide +kernel
theorem dd87_44 : decode cX3_act 44 = .ok (.iadd, 1) := by decide +kernel
theorem dd87_45 : decode cX3_act 45 = .ok (.putfield 339, 3) := by decide +kernel
theorem dd87_48 : decode cX3_act 48 = .ok (.goto 13, 3) := by decide +kernel
theorem dd87_51 : decode cX3_act 51 = .ok (.aload_n 2, 1) := by decide +kernel
theorem dd87_52 : decode cX3_act 52 = .ok (.dup, 1) := by decide +kernel
theorem dd87_53 : decode cX3_act 53 = .ok (.getfield 342, 3) := by decide +kernel
theorem dd87_56 : decode cX3_act 56 = .ok (.iconst 1, 1) := by decide +kernel
theorem dd87_57 : decode cX3_act 57 = .ok (.iadd, 1) := by decide +kernel
theorem dd87_58 : decode cX3_act 58 = .ok (.putfield 342, 3) := by decide +kernel
theorem dd87_61 : decode cX3_act 61 = .ok (.iconst 0, 1) := by decide +kernel
theorem dd87_62 : decode cX3_act 62 = .ok (.ireturn, 1) := by decide +kernel
theorem dd87_63 : decode cX3_act 63 = .ok (.aload_n 2, 1) := by decide +kernel
theorem dd87_64 : decode cX3_act 64 = .ok (.getfield 123, 3) := by decide +kernel
theorem dd87_67 : decode cX3_act 67 = .ok (.iconst 2, 1) := by decide +kernel
theorem dd87_68 : decode cX3_act 68 = .ok (.if_icmp .ne 25, 3) := by decide +kernel
theorem dd87_71 : decode cX3_act 71 = .ok (.aload_n 2, 1) := by decide +kernel
theorem dd87_72 : decode cX3_act 72 = .ok (.iconst 1, 1) := by decide +kernel
theorem dd87_73 : decode cX3_act 73 = .ok (.putfield 123, 3) := by decide +kernel
theorem dd87_76 : decode cX3_act 76 = .ok (.aload_n 2, 1) := by decide +kernel
theorem dd87_77 : decode cX3_act 77 = .ok (.aload_n 0, 1) := by decide +kernel
theorem dd87_78 : decode cX3_act 78 = .ok (.dup, 1) := by decide +kernel
theorem dd87_79 : decode cX3_act 79 = .ok (.getfield 81, 3) := by decide +kernel
theorem dd87_82 : decode cX3_act 82 = .ok (.iconst 1, 1) := by decide +kernel
theorem dd87_83 : decode cX3_act 83 = .ok (.iadd, 1) := by decide +kernel
theorem dd87_84 : decode cX3_act 84 = .ok (.dup_x1, 1) := by decide +kernel
theorem dd87_85 : decode cX3_act 85 = .ok (.putfield 81, 3) := by decide +kernel
theorem dd87_88 : decode cX3_act 88 = .ok (.putfield 180, 3) := by decide +kernel
theorem dd87_91 : decode cX3_act 91 = .ok (.iconst 0, 1) := by decide +kernel
theorem dd87_92 : decode cX3_act 92 = .ok (.ireturn, 1) := by decide +kernel
theorem dd87_93 : decode cX3_act 93 = .ok (.aload_n 2, 1) := by decide +kernel
theorem dd87_94 : decode cX3_act 94 = .ok (.getfield 123, 3) := by decide +kernel
theorem dd87_97 : decode cX3_act 97 = .ok (.iconst 4, 1) := by decide +kernel
theorem dd87_98 : decode cX3_act 98 = .ok (.if_icmp .ne 10, 3) := by decide +kernel
theorem dd87_101 : decode cX3_act 101 = .ok (.aload_n 2, 1) := by decide +kernel
theorem dd87_102 : decode cX3_act 102 = .ok (.iconst 3, 1) := by decide +kernel
theorem dd87_103 : decode cX3_act 103 = .ok (.putfield 123, 3) := by decide +kernel
theorem dd87_106 : decode cX3_act 106 = .ok (.iconst 0, 1) := by decide +kernel
theorem dd87_107 : decode cX3_act 107 = .ok (.ireturn, 1) := by decide +kernel
theorem dd87_108 : decode cX3_act 108 = .ok (.bipush 7, 2) := by decide +kernel
theorem dd87_110 : decode cX3_act 110 = .ok (.ireturn, 1) := by decide +kernel
def f87 (n : Nat) (x1 : Int32) (s : zσ) : Option (Int32 × zσ) :=
    if zin? (x1 / (2 : Int32)) 8 = true then
    zrd 8 (s.2.2 1008 (nx (x1 / (2 : Int32)))) fun a1 =>
    if (x1 - x1 / (2 : Int32) * (2 : Int32)) = (0 : Int32) then
    if (s.1 a1 3) = (0 : Int32) then
    yb0 (f80 n a1 s) fun u8 =>
    some ((0 : Int32), u8)
    else if (s.1 a1 5) < (3 : Int32) then
    zlet (sI s a1 5 ((s.1 a1 5) + (1 : Int32))) fun u7 =>
    some ((0 : Int32), u7)
    else zlet (sI s a1 6 ((s.1 a1 6) + (1 : Int32))) fun u6 =>
    some ((0 : Int32), u6)
    else if (s.1 a1 3) = (2 : Int32) then
    zlet (sI s a1 3 (1 : Int32)) fun u3 =>
    zlet (sI u3 1007 15 ((u3.1 1007 15) + (1 : Int32))) fun u4 =>
    zlet (sI u4 a1 11 ((u3.1 1007 15) + (1 : Int32))) fun u5 =>
    some ((0 : Int32), u5)
    else if (s.1 a1 3) = (4 : Int32) then
    zlet (sI s a1 3 (3 : Int32)) fun u2 =>
    some ((0 : Int32), u2)
    else some ((7 : Int32), s)
    else none
set_option maxRecDepth 20000 in
theorem f87_ok {n d : Nat} {x1 : Int32} {s : zσ} {v : Int32} {s2 : zσ} (hd : 1 ≤ d) (h : f87 n x1 s = some (v, s2)) {w : zσ} {fz : Bool} {L : Nat} {xs : Nat → Int32} : zGo (zX fz L xs) d q_87 (0, [(0, .ref 1007), (1, .int x1)], [], zmk s w, 0, 0) (some (.int v), zmk s2 w, 0, 0) := by
  obtain ⟨d, rfl⟩ : ∃ d0, d = d0 + 1 := ⟨d - 1, by omega⟩
  unfold f87 at h
  refine zGo_s (pc' := 1) (st' := [.ref 1007]) dd87_0 rfl ?_
  refine cGF (e := 1008) dd87_1 rfl rfl rfl rfl rfl ?_
  refine zGo_s (pc' := 5) (st' := [.int x1, .ref 1008]) dd87_4 rfl ?_
  refine zGo_s (pc' := 6) (st' := [.int (2 : Int32), .int x1, .ref 1008]) dd87_5 rfl ?_
  refine zGo_s (pc' := 7) (st' := [.int (x1 / (2 : Int32)), .ref 1008]) dd87_6 rfl ?_
  obtain ⟨hi, h⟩ := ochk h
  obtain ⟨a1, e_a1, c_a1, h⟩ := ordd h
  refine cAA dd87_7 rfl rfl (Or.inl rfl) hi e_a1 ?_
  refine zGo_s (pc' := 9) (st' := []) (lv' := [(2, .ref a1), (0, .ref 1007), (1, .int x1)]) dd87_8 rfl ?_
  refine zGo_s (pc' := 10) (st' := [.int x1]) dd87_9 rfl ?_
  refine zGo_s (pc' := 11) (st' := [.int (2 : Int32), .int x1]) dd87_10 rfl ?_
  refine zGo_s (pc' := 12) (st' := [.int (x1 - x1 / (2 : Int32) * (2 : Int32))]) dd87_11 rfl ?_
  rcases oite h with ⟨hc, h⟩ | ⟨hc, h⟩
  · refine zUF dd87_12 (kNeF hc) ?_
    refine zGo_s (pc' := 16) (st' := [.ref a1]) dd87_15 rfl ?_
    refine cGI dd87_16 rfl (ck8_s c_a1).1 (ck8_s c_a1).2 rfl ?_
    rcases oite h with ⟨hc, h⟩ | ⟨hc, h⟩
    · refine zUF dd87_19 (kNeF hc) ?_
      refine zGo_s (pc' := 23) (st' := [.ref 1007]) dd87_22 rfl ?_
      refine zGo_s (pc' := 24) (st' := [.ref a1, .ref 1007]) dd87_23 rfl ?_
      obtain ⟨u8, hq, h⟩ := obn0 h
      refine zCV0 (As := [.ref a1]) (rest := []) (b := 1007) (q' := q_80) dd87_24 rfl rfl (rcv_c rfl rfl (by decide)) rfl rfl rfl (f80_ok (d := d) (by omega) c_a1 hq) ?_
      refine zGo_s (pc' := 61) (st' := []) dd87_27 rfl ?_
      refine zGo_s (pc' := 62) (st' := [.int (0 : Int32)]) dd87_61 rfl ?_
      obtain ⟨rfl, rfl⟩ := oret h
      exact zGo_ret dd87_62 rfl rfl
    · refine zUT dd87_19 rfl (kNeT hc) ?_
      refine zGo_s (pc' := 31) (st' := [.ref a1]) dd87_30 rfl ?_
      refine cGI dd87_31 rfl (ck8_s c_a1).1 (ck8_s c_a1).2 rfl ?_
      refine zGo_s (pc' := 35) (st' := [.int (3 : Int32), .int (s.1 a1 5)]) dd87_34 rfl ?_
      rcases oite h with ⟨hc, h⟩ | ⟨hc, h⟩
      · refine zIF dd87_35 (kGeF hc) ?_
        refine zGo_s (pc' := 39) (st' := [.ref a1]) dd87_38 rfl ?_
        refine zGo_s (pc' := 40) (st' := [.ref a1, .ref a1]) dd87_39 rfl ?_
        refine cGI dd87_40 rfl (ck8_s c_a1).1 (ck8_s c_a1).2 rfl ?_
        refine zGo_s (pc' := 44) (st' := [.int (1 : Int32), .int (s.1 a1 5), .ref a1]) dd87_43 rfl ?_
        refine zGo_s (pc' := 45) (st' := [.int ((s.1 a1 5) + (1 : Int32)), .ref a1]) dd87_44 rfl ?_
        obtain ⟨u7, e_u7, h⟩ := olet h
        refine cPI dd87_45 rfl (ck8_s c_a1).1 (ck8_s c_a1).2 rfl rfl rfl e_u7 ?_
        refine zGo_s (pc' := 61) (st' := []) dd87_48 rfl ?_
        refine zGo_s (pc' := 62) (st' := [.int (0 : Int32)]) dd87_61 rfl ?_
        obtain ⟨rfl, rfl⟩ := oret h
        exact zGo_ret dd87_62 rfl rfl
      · refine zIT dd87_35 rfl (kGeT hc) ?_
        refine zGo_s (pc' := 52) (st' := [.ref a1]) dd87_51 rfl ?_
        refine zGo_s (pc' := 53) (st' := [.ref a1, .ref a1]) dd87_52 rfl ?_
        refine cGI dd87_53 rfl (ck8_s c_a1).1 (ck8_s c_a1).2 rfl ?_
        refine zGo_s (pc' := 57) (st' := [.int (1 : Int32), .int (s.1 a1 6), .ref a1]) dd87_56 rfl ?_
        refine zGo_s (pc' := 58) (st' := [.int ((s.1 a1 6) + (1 : Int32)), .ref a1]) dd87_57 rfl ?_
        obtain ⟨u6, e_u6, h⟩ := olet h
        refine cPI dd87_58 rfl (ck8_s c_a1).1 (ck8_s c_a1).2 rfl rfl rfl e_u6 ?_
        refine zGo_s (pc' := 62) (st' := [.int (0 : Int32)]) dd87_61 rfl ?_
        obtain ⟨rfl, rfl⟩ := oret h
        exact zGo_ret dd87_62 rfl rfl
  · refine zUT dd87_12 rfl (kNeT hc) ?_
    refine zGo_s (pc' := 64) (st' := [.ref a1]) dd87_63 rfl ?_
    refine cGI dd87_64 rfl (ck8_s c_a1).1 (ck8_s c_a1).2 rfl ?_
    refine zGo_s (pc' := 68) (st' := [.int (2 : Int32), .int (s.1 a1 3)]) dd87_67 rfl ?_
    rcases oite h with ⟨hc, h⟩ | ⟨hc, h⟩
    · refine zIF dd87_68 (kNeF hc) ?_
      refine zGo_s (pc' := 72) (st' := [.ref a1]) dd87_71 rfl ?_
      refine zGo_s (pc' := 73) (st' := [.int (1 : Int32), .ref a1]) dd87_72 rfl ?_
      obtain ⟨u3, e_u3, h⟩ := olet h
      refine cPI dd87_73 rfl (ck8_s c_a1).1 (ck8_s c_a1).2 rfl rfl rfl e_u3 ?_
      refine zGo_s (pc' := 77) (st' := [.ref a1]) dd87_76 rfl ?_
      refine zGo_s (pc' := 78) (st' := [.ref 1007, .ref a1]) dd87_77 rfl ?_
      refine zGo_s (pc' := 79) (st' := [.ref 1007, .ref 1007, .ref a1]) dd87_78 rfl ?_
      refine cGI dd87_79 rfl rfl rfl rfl ?_
      refine zGo_s (pc' := 83) (st' := [.int (1 : Int32), .int (u3.1 1007 15), .ref 1007, .ref a1]) dd87_82 rfl ?_
      refine zGo_s (pc' := 84) (st' := [.int ((u3.1 1007 15) + (1 : Int32)), .ref 1007, .ref a1]) dd87_83 rfl ?_
      refine zGo_s (pc' := 85) (st' := [.int ((u3.1 1007 15) + (1 : Int32)), .ref 1007, .int ((u3.1 1007 15) + (1 : Int32)), .ref a1]) dd87_84 rfl ?_
      obtain ⟨u4, e_u4, h⟩ := olet h
      refine cPI dd87_85 rfl rfl rfl rfl rfl rfl e_u4 ?_
      obtain ⟨u5, e_u5, h⟩ := olet h
      refine cPI dd87_88 rfl (ck8_s c_a1).1 (ck8_s c_a1).2 rfl rfl rfl e_u5 ?_
      refine zGo_s (pc' := 92) (st' := [.int (0 : Int32)]) dd87_91 rfl ?_
      obtain ⟨rfl, rfl⟩ := oret h
      exact zGo_ret dd87_92 rfl rfl
    · refine zIT dd87_68 rfl (kNeT hc) ?_
      refine zGo_s (pc' := 94) (st' := [.ref a1]) dd87_93 rfl ?_
      refine cGI dd87_94 rfl (ck8_s c_a1).1 (ck8_s c_a1).2 rfl ?_
      refine zGo_s (pc' := 98) (st' := [.int (4 : Int32), .int (s.1 a1 3)]) dd87_97 rfl ?_
      rcases oite h with ⟨hc, h⟩ | ⟨hc, h⟩
      · refine zIF dd87_98 (kNeF hc) ?_
        refine zGo_s (pc' := 102) (st' := [.ref a1]) dd87_101 rfl ?_
        refine zGo_s (pc' := 103) (st' := [.int (3 : Int32), .ref a1]) dd87_102 rfl ?_
        obtain ⟨u2, e_u2, h⟩ := olet h
        refine cPI dd87_103 rfl (ck8_s c_a1).1 (ck8_s c_a1).2 rfl rfl rfl e_u2 ?_
        refine zGo_s (pc' := 107) (st' := [.int (0 : Int32)]) dd87_106 rfl ?_
        obtain ⟨rfl, rfl⟩ := oret h
        exact zGo_ret dd87_107 rfl rfl
      · refine zIT dd87_98 rfl (kNeT hc) ?_
        refine zGo_s (pc' := 110) (st' := [.int (7 : Int32)]) dd87_108 rfl ?_
        obtain ⟨rfl, rfl⟩ := oret h
        exact zGo_ret dd87_110 rfl rfl
/-! PH$Machine.actDue()V -/
theorem dd84_0 : decode cX3_actDue 0 = .ok (.iconst 0, 1) := by decide +kernel
theorem dd84_1 : decode cX3_actDue 1 = .ok (.istore_n 1, 1) := by decide +kernel
theorem dd84_2 : decode cX3_actDue 2 = .ok (.iload_n 1, 1) := by decide +kernel
theorem dd84_3 : decode cX3_actDue 3 = .ok (.sipush 1000, 3) := by decide +kernel
theorem dd84_6 : decode cX3_actDue 6 = .ok (.if_icmp .ge 53, 3) := by decide +kernel
theorem dd84_9 : decode cX3_actDue 9 = .ok (.aload_n 0, 1) := by decide +kernel
theorem dd84_10 : decode cX3_actDue 10 = .ok (.getfield 34, 3) := by decide +kernel
theorem dd84_13 : decode cX3_actDue 13 = .ok (.invokevirtual 160, 3) := by decide +kernel
theorem dd84_16 : decode cX3_actDue 16 = .ok (.istore_n 2, 1) := by decide +kernel
theorem dd84_17 : decode cX3_actDue 17 = .ok (.iload_n 2, 1) := by decide +kernel
theorem dd84_18 : decode cX3_actDue 18 = .ok (.iconst (-1), 1) := by decide +kernel
theorem dd84_19 : decode cX3_actDue 19 = .ok (.if_icmp .eq 19, 3) := by decide +kernel
theorem dd84_22 : decode cX3_actDue 22 = .ok (.aload_n 0, 1) := by decide +kernel
theorem dd84_23 : decode cX3_actDue 23 = .ok (.getfield 34, 3) := by decide +kernel
theorem dd84_26 : decode cX3_actDue 26 = .ok (.getfield 163, 3) := by decide +kernel
theorem dd84_29 : decode cX3_actDue 29 = .ok (.iload_n 2, 1) := by decide +kernel
theorem dd84_30 : decode cX3_actDue 30 = .ok (.iaload, 1) := by decide +kernel
theorem dd84_31 : decode cX3_actDue 31 = .ok (.aload_n 0, 1) := by decide +kernel
theorem dd84_32 : decode cX3_actDue 32 = .ok (.getfield 78, 3) := by decide +kernel
theorem dd84_35 : decode cX3_actDue 35 = .ok (.if_icmp .le 4, 3) := by decide +kernel
theorem dd84_38 : decode cX3_actDue 38 = .ok (.return_, 1) := by decide +kernel
theorem dd84_39 : decode cX3_actDue 39 = .ok (.aload_n 0, 1) := by decide +kernel
theorem dd84_40 : decode cX3_actDue 40 = .ok (.getfield 34, 3) := by decide +kernel
theorem dd84_43 : decode cX3_actDue 43 = .ok (.iload_n 2, 1) := by decide +kernel
theorem dd84_44 : decode cX3_actDue 44 = .ok (.invokevirtual 171, 3) := by decide +kernel
theorem dd84_47 : decode cX3_actDue 47 = .ok (.aload_n 0, 1) := by decide +kernel
theorem dd84_48 : decode cX3_actDue 48 = .ok (.iload_n 2, 1) := by decide +kernel
theorem dd84_49 : decode cX3_actDue 49 = .ok (.invokevirtual 174, 3) := by decide +kernel
theorem dd84_52 : decode cX3_actDue 52 = .ok (.pop, 1) := by decide +kernel
theorem dd84_53 : decode cX3_actDue 53 = .ok (.iinc 1 1, 3) := by decide +kernel
theorem dd84_56 : decode cX3_actDue 56 = .ok (.goto (-54), 3) := by decide +kernel
theorem dd84_59 : decode cX3_actDue 59 = .ok (.return_, 1) := by decide +kernel
def f84_2 (n : Nat) : Nat → Int32 → zσ → Option zσ
  | 0, _, _ => none
  | j + 1, x1, s =>
    if x1 < (1000 : Int32) then
    yb1 (f85 n s) fun v2 u1 =>
    if v2 = (-1 : Int32) then
    some u1
    else if zin? v2 16 = true then
    if (u1.1 1007 14) < (u1.1 1023 (nx v2)) then
    some u1
    else yb0 (f86 n v2 u1) fun u3 =>
    yb1 (f87 n v2 u3) fun v5 u4 =>
    f84_2 n j (x1 + (1 : Int32)) u4
    else none
    else some s
set_option maxRecDepth 20000 in
theorem f84_2_ok {n d : Nat} (hd : 2 ≤ d) : ∀ (j : Nat) (x1 : Int32) (s : zσ) (s2 : zσ), f84_2 n j x1 s = some s2 → ∀ {w : zσ} {fz : Bool} {L : Nat} {xs : Nat → Int32}, zGo (zX fz L xs) d q_84 (2, [(0, .ref 1007), (1, .int x1)], [], zmk s w, 0, 0) (none, zmk s2 w, 0, 0) := by
  obtain ⟨d, rfl⟩ : ∃ d0, d = d0 + 1 := ⟨d - 1, by omega⟩
  intro j
  induction j with
  | zero => intro x1 s s2 h; cases h
  | succ j ih =>
    intro x1 s s2 h w fz L xs
    rw [f84_2] at h
    refine zGo_s (pc' := 3) (st' := [.int x1]) dd84_2 rfl ?_
    refine zGo_s (pc' := 6) (st' := [.int (1000 : Int32), .int x1]) dd84_3 rfl ?_
    rcases oite h with ⟨hc, h⟩ | ⟨hc, h⟩
    · refine zIF dd84_6 (kGeF hc) ?_
      refine zGo_s (pc' := 10) (st' := [.ref 1007]) dd84_9 rfl ?_
      refine cGF (e := 1022) dd84_10 rfl rfl rfl rfl rfl ?_
      obtain ⟨v2, u1, hq, h⟩ := obnd h
      refine zCV1 (As := []) (rest := []) (b := 1022) (q' := q_85) dd84_13 rfl rfl (rcv_c rfl rfl (by decide)) rfl rfl rfl (f85_ok (d := d) (by omega)  hq) ?_
      refine zGo_s (pc' := 17) (st' := []) (lv' := [(2, .int v2), (0, .ref 1007), (1, .int x1)]) dd84_16 rfl ?_
      refine zGo_s (pc' := 18) (st' := [.int v2]) dd84_17 rfl ?_
      refine zGo_s (pc' := 19) (st' := [.int (-1 : Int32), .int v2]) dd84_18 rfl ?_
      rcases oite h with ⟨hc, h⟩ | ⟨hc, h⟩
      · refine zIT dd84_19 rfl (kEqT hc) ?_
        obtain rfl := ore0 h
        exact zGo_ret dd84_38 rfl rfl
      · refine zIF dd84_19 (kEqF hc) ?_
        refine zGo_s (pc' := 23) (st' := [.ref 1007]) dd84_22 rfl ?_
        refine cGF (e := 1022) dd84_23 rfl rfl rfl rfl rfl ?_
        refine cGF (e := 1023) dd84_26 rfl rfl rfl rfl rfl ?_
        refine zGo_s (pc' := 30) (st' := [.int v2, .ref 1023]) dd84_29 rfl ?_
        obtain ⟨hi, h⟩ := ochk h
        refine cIA dd84_30 rfl rfl hi ?_
        refine zGo_s (pc' := 32) (st' := [.ref 1007, .int (u1.1 1023 (nx v2))]) dd84_31 rfl ?_
        refine cGI dd84_32 rfl rfl rfl rfl ?_
        rcases oite h with ⟨hc, h⟩ | ⟨hc, h⟩
        · refine zIF dd84_35 (kLeF hc) ?_
          obtain rfl := ore0 h
          exact zGo_ret dd84_38 rfl rfl
        · refine zIT dd84_35 rfl (kLeT hc) ?_
          refine zGo_s (pc' := 40) (st' := [.ref 1007]) dd84_39 rfl ?_
          refine cGF (e := 1022) dd84_40 rfl rfl rfl rfl rfl ?_
          refine zGo_s (pc' := 44) (st' := [.int v2, .ref 1022]) dd84_43 rfl ?_
          obtain ⟨u3, hq, h⟩ := obn0 h
          refine zCV0 (As := [.int v2]) (rest := []) (b := 1022) (q' := q_86) dd84_44 rfl rfl (rcv_c rfl rfl (by decide)) rfl rfl rfl (f86_ok (d := d) (by omega)  hq) ?_
          refine zGo_s (pc' := 48) (st' := [.ref 1007]) dd84_47 rfl ?_
          refine zGo_s (pc' := 49) (st' := [.int v2, .ref 1007]) dd84_48 rfl ?_
          obtain ⟨v5, u4, hq, h⟩ := obnd h
          refine zCV1 (As := [.int v2]) (rest := []) (b := 1007) (q' := q_87) dd84_49 rfl rfl (rcv_c rfl rfl (by decide)) rfl rfl rfl (f87_ok (d := d) (by omega)  hq) ?_
          refine zGo_s (pc' := 53) (st' := []) dd84_52 rfl ?_
          refine zGo_s (pc' := 56) (st' := []) (lv' := [(1, .int (x1 + (1 : Int32))), (2, .int v2), (0, .ref 1007)]) dd84_53 rfl ?_
          refine zGo_s (pc' := 2) (st' := []) dd84_56 rfl ?_
          exact zGo_lv (lv := [(0, .ref 1007), (1, .int (x1 + (1 : Int32)))]) ⟨by simp, by simp, by simp⟩ (ih _ _ _ h)
    · refine zIT dd84_6 rfl (kGeT hc) ?_
      obtain rfl := ore0 h
      exact zGo_ret dd84_59 rfl rfl
def f84 (n : Nat) (s : zσ) : Option zσ :=
    f84_2 n n (0 : Int32) s
set_option maxRecDepth 20000 in
theorem f84_ok {n d : Nat} {s : zσ} {s2 : zσ} (hd : 2 ≤ d) (h : f84 n s = some s2) {w : zσ} {fz : Bool} {L : Nat} {xs : Nat → Int32} : zGo (zX fz L xs) d q_84 (0, [(0, .ref 1007)], [], zmk s w, 0, 0) (none, zmk s2 w, 0, 0) := by
  obtain ⟨d, rfl⟩ : ∃ d0, d = d0 + 1 := ⟨d - 1, by omega⟩
  unfold f84 at h
  refine zGo_s (pc' := 1) (st' := [.int (0 : Int32)]) dd84_0 rfl ?_
  refine zGo_s (pc' := 2) (st' := []) (lv' := [(1, .int (0 : Int32)), (0, .ref 1007)]) dd84_1 rfl ?_
  exact zGo_lv (lv := [(0, .ref 1007), (1, .int (0 : Int32))]) ⟨by simp, by simp, by simp⟩ (f84_2_ok hd _ _ _ _ h)
/-! PH$Machine.choose()I -/
theorem dd88_0 : decode cX3_choose 0 = .ok (.iconst 0, 1) := by decide +kernel
theorem dd88_1 : decode cX3_choose 1 = .ok (.istore_n 1, 1) := by decide +kernel
theorem dd88_2 : decode cX3_choose 2 = .ok (.iconst 0, 1) := by decide +kernel
theorem dd88_3 : decode cX3_choose 3 = .ok (.istore_n 2, 1) := by decide +kernel
theorem dd88_4 : decode cX3_choose 4 = .ok (.iload_n 2, 1) := by decide +kernel
theorem dd88_5 : decode cX3_choose 5 = .ok (.aload_n 0, 1) := by decide +kernel
theorem dd88_6 : decode cX3_choose 6 = .ok (.getfield 71, 3) := by decide +kernel
theorem dd88_9 : decode cX3_choose 9 = .ok (.if_icmp .ge 137, 3) := by decide +kernel
theorem dd88_12 : decode cX3_choose 12 = .ok (.aload_n 0, 1) := by decide +kernel
theorem dd88_13 : decode cX3_choose 13 = .ok (.getfield 11, 3) := by decide +kernel
theorem dd88_16 : decode cX3_choose 16 = .ok (.iload_n 2, 1) := by decide +kernel
theorem dd88_17 : decode cX3_choose 17 = .ok (.aaload, 1) := by decide +kernel
theorem dd88_18 : decode cX3_choose 18 = .ok (.astore_n 3, 1) := by decide +kernel
theorem dd88_19 : decode cX3_choose 19 = .ok (.aload_n 3, 1) := by decide +kernel
theorem dd88_20 : decode cX3_choose 20 = .ok (.getfield 123, 3) := by decide +kernel
theorem dd88_23 : decode cX3_choose 23 = .ok (.iconst 1, 1) := by decide +kernel
theorem dd88_24 : decode cX3_choose 24 = .ok (.if_icmp .eq 6, 3) := by decide +kernel
theorem dd88_27 : decode cX3_choose 27 = .ok (.goto 113, 3) := by decide +kernel
theorem dd88_30 : decode cX3_choose 30 = .ok (.iconst 0, 1) := by decide +kernel
theorem dd88_31 : decode cX3_choose 31 = .ok (.istore 4, 2) := by decide +kernel
theorem dd88_33 : decode cX3_choose 33 = .ok (.iconst 0, 1) := by decide +kernel
theorem dd88_34 : decode cX3_choose 34 = .ok (.istore 5, 2) := by decide +kernel
theorem dd88_36 : decode cX3_choose 36 = .ok (.iload 5, 2) := by decide +kernel
theorem dd88_38 : decode cX3_choose 38 = .ok (.aload_n 0, 1) := by decide +kernel
theorem dd88_39 : decode cX3_choose 39 = .ok (.getfield 71, 3) := by decide +kernel
theorem dd88_42 : decode cX3_choose 42 = .ok (.if_icmp .ge 78, 3) := by decide +kernel
theorem dd88_45 : decode cX3_choose 45 = .ok (.aload_n 0, 1) := by decide +kernel
theorem dd88_46 : decode cX3_choose 46 = .ok (.getfield 11, 3) := by decide +kernel
theorem dd88_49 : decode cX3_choose 49 = .ok (.iload 5, 2) := by decide +kernel
theorem dd88_51 : decode cX3_choose 51 = .ok (.aaload, 1) := by decide +kernel
theorem dd88_52 : decode cX3_choose 52 = .ok (.astore 6, 2) := by decide +kernel
theorem dd88_54 : decode cX3_choose 54 = .ok (.aload 6, 2) := by decide +kernel
theorem dd88_56 : decode cX3_choose 56 = .ok (.getfield 177, 3) := by decide +kernel
theorem dd88_59 : decode cX3_choose 59 = .ok (.aload_n 3, 1) := by decide +kernel
theorem dd88_60 : decode cX3_choose 60 = .ok (.getfield 177, 3) := by decide +kernel
theorem dd88_63 : decode cX3_choose 63 = .ok (.if_icmp .lt 27, 3) := by decide +kernel
theorem dd88_66 : decode cX3_choose 66 = .ok (.aload 6, 2) := by decide +kernel
theorem dd88_68 : decode cX3_choose 68 = .ok (.getfield 177, 3) := by decide +kernel
theorem dd88_71 : decode cX3_choose 71 = .ok (.aload_n 3, 1) := by decide +kernel
theorem dd88_72 : decode cX3_choose 72 = .ok (.getfield 177, 3) := by decide +kernel
theorem dd88_75 : decode cX3_choose 75 = .ok (.if_icmp .ne 19, 3) := by decide +kernel
theorem dd88_78 : decode cX3_choose 78 = .ok (.aload 6, 2) := by decide +kernel
theorem dd88_80 : decode cX3_choose 80 = .ok (.getfield 180, 3) := by decide +kernel
theorem dd88_83 : decode cX3_choose 83 = .ok (.aload_n 3, 1) := by decide +kernel
theorem dd88_84 : decode cX3_choose 84 = .ok (.getfield 180, 3) := by decide +kernel
theorem dd88_87 : decode cX3_choose 87 = .ok (.if_icmp .ge 7, 3) := by decide +kernel
theorem dd88_90 : decode cX3_choose 90 = .ok (.iconst 1, 1) := by decide +kernel
theorem dd88_91 : decode cX3_choose 91 = .ok (.goto 4, 3) := by decide +kernel
theorem dd88_94 : decode cX3_choose 94 = .ok (.iconst 0, 1) := by decide +kernel
theorem dd88_95 : decode cX3_choose 95 = .ok (.istore 7, 2) := by decide +kernel
theorem dd88_97 : decode cX3_choose 97 = .ok (.aload 6, 2) := by decide +kernel
theorem dd88_99 : decode cX3_choose 99 = .ok (.getfield 123, 3) := by decide +kernel
theorem dd88_102 : decode cX3_choose 102 = .ok (.iconst 1, 1) := by decide +kernel
theorem dd88_103 : decode cX3_choose 103 = .ok (.if_icmp .ne 11, 3) := by decide +kernel
theorem dd88_106 : decode cX3_choose 106 = .ok (.iload 7, 2) := by decide +kernel
theorem dd88_108 : decode cX3_choose 108 = .ok (.ifCond .eq 6, 3) := by decide +kernel
theorem dd88_111 : decode cX3_choose 111 = .ok (.iinc 4 1, 3) := by decide +kernel
theorem dd88_114 : decode cX3_choose 114 = .ok (.iinc 5 1, 3) := by decide +kernel
theorem dd88_117 : decode cX3_choose 117 = .ok (.goto (-81), 3) := by decide +kernel
theorem dd88_120 : decode cX3_choose 120 = .ok (.iload 4, 2) := by decide +kernel
theorem dd88_122 : decode cX3_choose 122 = .ok (.aload_n 0, 1) := by decide +kernel
theorem dd88_123 : decode cX3_choose 123 = .ok (.getfield 75, 3) := by decide +kernel
theorem dd88_126 : decode cX3_choose 126 = .ok (.if_icmp .ge 14, 3) := by decide +kernel
theorem dd88_129 : decode cX3_choose 129 = .ok (.aload_n 0, 1) := by decide +kernel
theorem dd88_130 : decode cX3_choose 130 = .ok (.getfield 49, 3) := by decide +kernel
theorem dd88_133 : decode cX3_choose 133 = .ok (.iload 4, 2) := by decide +kernel
theorem dd88_135 : decode cX3_choose 135 = .ok (.iload_n 2, 1) := by decide +kernel
theorem dd88_136 : decode cX3_choose 136 = .ok (.iastore, 1) := by decide +kernel
theorem dd88_137 : decode cX3_choose 137 = .ok (.iinc 1 1, 3) := by decide +kernel
theorem dd88_140 : decode cX3_choose 140 = .ok (.iinc 2 1, 3) := by decide +kernel
theorem dd88_143 : decode cX3_choose 143 = .ok (.goto (-139), 3) := by decide +kernel
theorem dd88_146 : decode cX3_choose 146 = .ok (.iload_n 1, 1) := by decide +kernel
theorem dd88_147 : decode cX3_choose 147 = .ok (.ireturn, 1) := by decide +kernel
def f88_140 (n : Nat) (r4 : Int32 → Int32 → zσ → Option (Int32 × zσ)) (x1 : Int32) (x2 : Int32) (s : zσ) : Option (Int32 × zσ) :=
    r4 x1 (x2 + (1 : Int32)) s
set_option maxRecDepth 20000 in
theorem f88_140_ok {n d : Nat} {r4 : Int32 → Int32 → zσ → Option (Int32 × zσ)} {x1 : Int32} {x2 : Int32} {s : zσ} {v : Int32} {s2 : zσ} (hd : 0 ≤ d) (hr4 : ∀ (x1 : Int32) (x2 : Int32) (s : zσ) (v : Int32) (s2 : zσ), r4 x1 x2 s = some (v, s2) → ∀ {w : zσ} {fz : Bool} {L : Nat} {xs : Nat → Int32}, zGo (zX fz L xs) d q_88 (4, [(0, .ref 1007), (1, .int x1), (2, .int x2)], [], zmk s w, 0, 0) (some (.int v), zmk s2 w, 0, 0)) (h : f88_140 n r4 x1 x2 s = some (v, s2)) {w : zσ} {fz : Bool} {L : Nat} {xs : Nat → Int32} : zGo (zX fz L xs) d q_88 (140, [(0, .ref 1007), (1, .int x1), (2, .int x2)], [], zmk s w, 0, 0) (some (.int v), zmk s2 w, 0, 0) := by
  unfold f88_140 at h
  refine zGo_s (pc' := 143) (st' := []) (lv' := [(2, .int (x2 + (1 : Int32))), (0, .ref 1007), (1, .int x1)]) dd88_140 rfl ?_
  refine zGo_s (pc' := 4) (st' := []) dd88_143 rfl ?_
  exact zGo_lv (lv := [(0, .ref 1007), (1, .int x1), (2, .int (x2 + (1 : Int32)))]) ⟨by simp, by simp, by simp⟩ (hr4 _ _ _ _ _ h)
def f88_114 (n : Nat) (r4 : Int32 → Int32 → zσ → Option (Int32 × zσ)) (r36 : Int32 → Int32 → Nat → Int32 → Int32 → zσ → Option (Int32 × zσ)) (x1 : Int32) (x2 : Int32) (x3 : Nat) (x4 : Int32) (x5 : Int32) (s : zσ) : Option (Int32 × zσ) :=
    r36 x1 x2 x3 x4 (x5 + (1 : Int32)) s
set_option maxRecDepth 20000 in
theorem f88_114_ok {n d : Nat} {r4 : Int32 → Int32 → zσ → Option (Int32 × zσ)} {r36 : Int32 → Int32 → Nat → Int32 → Int32 → zσ → Option (Int32 × zσ)} {x1 : Int32} {x2 : Int32} {x3 : Nat} {x4 : Int32} {x5 : Int32} {s : zσ} {v : Int32} {s2 : zσ} (hd : 0 ≤ d) (hr4 : ∀ (x1 : Int32) (x2 : Int32) (s : zσ) (v : Int32) (s2 : zσ), r4 x1 x2 s = some (v, s2) → ∀ {w : zσ} {fz : Bool} {L : Nat} {xs : Nat → Int32}, zGo (zX fz L xs) d q_88 (4, [(0, .ref 1007), (1, .int x1), (2, .int x2)], [], zmk s w, 0, 0) (some (.int v), zmk s2 w, 0, 0)) (hr36 : ∀ (x1 : Int32) (x2 : Int32) (x3 : Nat) (x4 : Int32) (x5 : Int32) (s : zσ) (v : Int32) (s2 : zσ), zck 8 x3 = true → r36 x1 x2 x3 x4 x5 s = some (v, s2) → ∀ {w : zσ} {fz : Bool} {L : Nat} {xs : Nat → Int32}, zGo (zX fz L xs) d q_88 (36, [(0, .ref 1007), (1, .int x1), (2, .int x2), (3, .ref x3), (4, .int x4), (5, .int x5)], [], zmk s w, 0, 0) (some (.int v), zmk s2 w, 0, 0)) (hx3 : zck 8 x3 = true) (h : f88_114 n r4 r36 x1 x2 x3 x4 x5 s = some (v, s2)) {w : zσ} {fz : Bool} {L : Nat} {xs : Nat → Int32} : zGo (zX fz L xs) d q_88 (114, [(0, .ref 1007), (1, .int x1), (2, .int x2), (3, .ref x3), (4, .int x4), (5, .int x5)], [], zmk s w, 0, 0) (some (.int v), zmk s2 w, 0, 0) := by
  unfold f88_114 at h
  refine zGo_s (pc' := 117) (st' := []) (lv' := [(5, .int (x5 + (1 : Int32))), (0, .ref 1007), (1, .int x1), (2, .int x2), (3, .ref x3), (4, .int x4)]) dd88_114 rfl ?_
  refine zGo_s (pc' := 36) (st' := []) dd88_117 rfl ?_
  exact zGo_lv (lv := [(0, .ref 1007), (1, .int x1), (2, .int x2), (3, .ref x3), (4, .int x4), (5, .int (x5 + (1 : Int32)))]) ⟨by simp, by simp, by simp⟩ (hr36 _ _ _ _ _ _ _ _ hx3 h)
def f88_95 (n : Nat) (r4 : Int32 → Int32 → zσ → Option (Int32 × zσ)) (r36 : Int32 → Int32 → Nat → Int32 → Int32 → zσ → Option (Int32 × zσ)) (x1 : Int32) (x2 : Int32) (x3 : Nat) (x4 : Int32) (x5 : Int32) (x6 : Nat) (y0 : Int32) (s : zσ) : Option (Int32 × zσ) :=
    if (s.1 x6 3) = (1 : Int32) then
    if y0 = (0 : Int32) then
    f88_114 n r4 r36 x1 x2 x3 x4 x5 s
    else f88_114 n r4 r36 x1 x2 x3 (x4 + (1 : Int32)) x5 s
    else f88_114 n r4 r36 x1 x2 x3 x4 x5 s
set_option maxRecDepth 20000 in
theorem f88_95_ok {n d : Nat} {r4 : Int32 → Int32 → zσ → Option (Int32 × zσ)} {r36 : Int32 → Int32 → Nat → Int32 → Int32 → zσ → Option (Int32 × zσ)} {x1 : Int32} {x2 : Int32} {x3 : Nat} {x4 : Int32} {x5 : Int32} {x6 : Nat} {y0 : Int32} {s : zσ} {v : Int32} {s2 : zσ} (hd : 0 ≤ d) (hr4 : ∀ (x1 : Int32) (x2 : Int32) (s : zσ) (v : Int32) (s2 : zσ), r4 x1 x2 s = some (v, s2) → ∀ {w : zσ} {fz : Bool} {L : Nat} {xs : Nat → Int32}, zGo (zX fz L xs) d q_88 (4, [(0, .ref 1007), (1, .int x1), (2, .int x2)], [], zmk s w, 0, 0) (some (.int v), zmk s2 w, 0, 0)) (hr36 : ∀ (x1 : Int32) (x2 : Int32) (x3 : Nat) (x4 : Int32) (x5 : Int32) (s : zσ) (v : Int32) (s2 : zσ), zck 8 x3 = true → r36 x1 x2 x3 x4 x5 s = some (v, s2) → ∀ {w : zσ} {fz : Bool} {L : Nat} {xs : Nat → Int32}, zGo (zX fz L xs) d q_88 (36, [(0, .ref 1007), (1, .int x1), (2, .int x2), (3, .ref x3), (4, .int x4), (5, .int x5)], [], zmk s w, 0, 0) (some (.int v), zmk s2 w, 0, 0)) (hx3 : zck 8 x3 = true) (hx6 : zck 8 x6 = true) (h : f88_95 n r4 r36 x1 x2 x3 x4 x5 x6 y0 s = some (v, s2)) {w : zσ} {fz : Bool} {L : Nat} {xs : Nat → Int32} : zGo (zX fz L xs) d q_88 (95, [(0, .ref 1007), (1, .int x1), (2, .int x2), (3, .ref x3), (4, .int x4), (5, .int x5), (6, .ref x6)], [.int y0], zmk s w, 0, 0) (some (.int v), zmk s2 w, 0, 0) := by
  unfold f88_95 at h
  refine zGo_s (pc' := 97) (st' := []) (lv' := [(7, .int y0), (0, .ref 1007), (1, .int x1), (2, .int x2), (3, .ref x3), (4, .int x4), (5, .int x5), (6, .ref x6)]) dd88_95 rfl ?_
  refine zGo_s (pc' := 99) (st' := [.ref x6]) dd88_97 rfl ?_
  refine cGI dd88_99 rfl (ck8_s hx6).1 (ck8_s hx6).2 rfl ?_
  refine zGo_s (pc' := 103) (st' := [.int (1 : Int32), .int (s.1 x6 3)]) dd88_102 rfl ?_
  rcases oite h with ⟨hc, h⟩ | ⟨hc, h⟩
  · refine zIF dd88_103 (kNeF hc) ?_
    refine zGo_s (pc' := 108) (st' := [.int y0]) dd88_106 rfl ?_
    rcases oite h with ⟨hc, h⟩ | ⟨hc, h⟩
    · refine zUT dd88_108 rfl (kEqT hc) ?_
      exact zGo_lv (lv := [(0, .ref 1007), (1, .int x1), (2, .int x2), (3, .ref x3), (4, .int x4), (5, .int x5)]) ⟨by simp, by simp, by simp⟩ (f88_114_ok hd hr4 hr36 hx3 h)
    · refine zUF dd88_108 (kEqF hc) ?_
      refine zGo_s (pc' := 114) (st' := []) (lv' := [(4, .int (x4 + (1 : Int32))), (7, .int y0), (0, .ref 1007), (1, .int x1), (2, .int x2), (3, .ref x3), (5, .int x5), (6, .ref x6)]) dd88_111 rfl ?_
      exact zGo_lv (lv := [(0, .ref 1007), (1, .int x1), (2, .int x2), (3, .ref x3), (4, .int (x4 + (1 : Int32))), (5, .int x5)]) ⟨by simp, by simp, by simp⟩ (f88_114_ok hd hr4 hr36 hx3 h)
  · refine zIT dd88_103 rfl (kNeT hc) ?_
    exact zGo_lv (lv := [(0, .ref 1007), (1, .int x1), (2, .int x2), (3, .ref x3), (4, .int x4), (5, .int x5)]) ⟨by simp, by simp, by simp⟩ (f88_114_ok hd hr4 hr36 hx3 h)
def f88_94 (n : Nat) (r4 : Int32 → Int32 → zσ → Option (Int32 × zσ)) (r36 : Int32 → Int32 → Nat → Int32 → Int32 → zσ → Option (Int32 × zσ)) (x1 : Int32) (x2 : Int32) (x3 : Nat) (x4 : Int32) (x5 : Int32) (x6 : Nat) (s : zσ) : Option (Int32 × zσ) :=
    f88_95 n r4 r36 x1 x2 x3 x4 x5 x6 (0 : Int32) s
set_option maxRecDepth 20000 in
theorem f88_94_ok {n d : Nat} {r4 : Int32 → Int32 → zσ → Option (Int32 × zσ)} {r36 : Int32 → Int32 → Nat → Int32 → Int32 → zσ → Option (Int32 × zσ)} {x1 : Int32} {x2 : Int32} {x3 : Nat} {x4 : Int32} {x5 : Int32} {x6 : Nat} {s : zσ} {v : Int32} {s2 : zσ} (hd : 0 ≤ d) (hr4 : ∀ (x1 : Int32) (x2 : Int32) (s : zσ) (v : Int32) (s2 : zσ), r4 x1 x2 s = some (v, s2) → ∀ {w : zσ} {fz : Bool} {L : Nat} {xs : Nat → Int32}, zGo (zX fz L xs) d q_88 (4, [(0, .ref 1007), (1, .int x1), (2, .int x2)], [], zmk s w, 0, 0) (some (.int v), zmk s2 w, 0, 0)) (hr36 : ∀ (x1 : Int32) (x2 : Int32) (x3 : Nat) (x4 : Int32) (x5 : Int32) (s : zσ) (v : Int32) (s2 : zσ), zck 8 x3 = true → r36 x1 x2 x3 x4 x5 s = some (v, s2) → ∀ {w : zσ} {fz : Bool} {L : Nat} {xs : Nat → Int32}, zGo (zX fz L xs) d q_88 (36, [(0, .ref 1007), (1, .int x1), (2, .int x2), (3, .ref x3), (4, .int x4), (5, .int x5)], [], zmk s w, 0, 0) (some (.int v), zmk s2 w, 0, 0)) (hx3 : zck 8 x3 = true) (hx6 : zck 8 x6 = true) (h : f88_94 n r4 r36 x1 x2 x3 x4 x5 x6 s = some (v, s2)) {w : zσ} {fz : Bool} {L : Nat} {xs : Nat → Int32} : zGo (zX fz L xs) d q_88 (94, [(0, .ref 1007), (1, .int x1), (2, .int x2), (3, .ref x3), (4, .int x4), (5, .int x5), (6, .ref x6)], [], zmk s w, 0, 0) (some (.int v), zmk s2 w, 0, 0) := by
  unfold f88_94 at h
  refine zGo_s (pc' := 95) (st' := [.int (0 : Int32)]) dd88_94 rfl ?_
  exact f88_95_ok hd hr4 hr36 hx3 hx6 h
def f88_90 (n : Nat) (r4 : Int32 → Int32 → zσ → Option (Int32 × zσ)) (r36 : Int32 → Int32 → Nat → Int32 → Int32 → zσ → Option (Int32 × zσ)) (x1 : Int32) (x2 : Int32) (x3 : Nat) (x4 : Int32) (x5 : Int32) (x6 : Nat) (s : zσ) : Option (Int32 × zσ) :=
    f88_95 n r4 r36 x1 x2 x3 x4 x5 x6 (1 : Int32) s
set_option maxRecDepth 20000 in
theorem f88_90_ok {n d : Nat} {r4 : Int32 → Int32 → zσ → Option (Int32 × zσ)} {r36 : Int32 → Int32 → Nat → Int32 → Int32 → zσ → Option (Int32 × zσ)} {x1 : Int32} {x2 : Int32} {x3 : Nat} {x4 : Int32} {x5 : Int32} {x6 : Nat} {s : zσ} {v : Int32} {s2 : zσ} (hd : 0 ≤ d) (hr4 : ∀ (x1 : Int32) (x2 : Int32) (s : zσ) (v : Int32) (s2 : zσ), r4 x1 x2 s = some (v, s2) → ∀ {w : zσ} {fz : Bool} {L : Nat} {xs : Nat → Int32}, zGo (zX fz L xs) d q_88 (4, [(0, .ref 1007), (1, .int x1), (2, .int x2)], [], zmk s w, 0, 0) (some (.int v), zmk s2 w, 0, 0)) (hr36 : ∀ (x1 : Int32) (x2 : Int32) (x3 : Nat) (x4 : Int32) (x5 : Int32) (s : zσ) (v : Int32) (s2 : zσ), zck 8 x3 = true → r36 x1 x2 x3 x4 x5 s = some (v, s2) → ∀ {w : zσ} {fz : Bool} {L : Nat} {xs : Nat → Int32}, zGo (zX fz L xs) d q_88 (36, [(0, .ref 1007), (1, .int x1), (2, .int x2), (3, .ref x3), (4, .int x4), (5, .int x5)], [], zmk s w, 0, 0) (some (.int v), zmk s2 w, 0, 0)) (hx3 : zck 8 x3 = true) (hx6 : zck 8 x6 = true) (h : f88_90 n r4 r36 x1 x2 x3 x4 x5 x6 s = some (v, s2)) {w : zσ} {fz : Bool} {L : Nat} {xs : Nat → Int32} : zGo (zX fz L xs) d q_88 (90, [(0, .ref 1007), (1, .int x1), (2, .int x2), (3, .ref x3), (4, .int x4), (5, .int x5), (6, .ref x6)], [], zmk s w, 0, 0) (some (.int v), zmk s2 w, 0, 0) := by
  unfold f88_90 at h
  refine zGo_s (pc' := 91) (st' := [.int (1 : Int32)]) dd88_90 rfl ?_
  refine zGo_s (pc' := 95) (st' := [.int (1 : Int32)]) dd88_91 rfl ?_
  exact f88_95_ok hd hr4 hr36 hx3 hx6 h
def f88_36 (n : Nat) (r4 : Int32 → Int32 → zσ → Option (Int32 × zσ)) : Nat → Int32 → Int32 → Nat → Int32 → Int32 → zσ → Option (Int32 × zσ)
  | 0, _, _, _, _, _, _ => none
  | j + 1, x1, x2, x3, x4, x5, s =>
    if x5 < (s.1 1007 12) then
    if zin? x5 8 = true then
    zrd 8 (s.2.2 1008 (nx x5)) fun a2 =>
    if (s.1 a2 4) < (s.1 x3 4) then
    f88_90 n r4 (f88_36 n r4 j) x1 x2 x3 x4 x5 a2 s
    else if (s.1 a2 4) = (s.1 x3 4) then
    if (s.1 a2 11) < (s.1 x3 11) then
    f88_90 n r4 (f88_36 n r4 j) x1 x2 x3 x4 x5 a2 s
    else f88_94 n r4 (f88_36 n r4 j) x1 x2 x3 x4 x5 a2 s
    else f88_94 n r4 (f88_36 n r4 j) x1 x2 x3 x4 x5 a2 s
    else none
    else if x4 < (s.1 1007 13) then
    if zin? x4 8 = true then
    zlet (sI s 1034 (nx x4) x2) fun u1 =>
    f88_140 n r4 (x1 + (1 : Int32)) x2 u1
    else none
    else f88_140 n r4 x1 x2 s
set_option maxRecDepth 20000 in
theorem f88_36_ok {n d : Nat} {r4 : Int32 → Int32 → zσ → Option (Int32 × zσ)} (hd : 0 ≤ d) (hr4 : ∀ (x1 : Int32) (x2 : Int32) (s : zσ) (v : Int32) (s2 : zσ), r4 x1 x2 s = some (v, s2) → ∀ {w : zσ} {fz : Bool} {L : Nat} {xs : Nat → Int32}, zGo (zX fz L xs) d q_88 (4, [(0, .ref 1007), (1, .int x1), (2, .int x2)], [], zmk s w, 0, 0) (some (.int v), zmk s2 w, 0, 0)) : ∀ (j : Nat) (x1 : Int32) (x2 : Int32) (x3 : Nat) (x4 : Int32) (x5 : Int32) (s : zσ) (v : Int32) (s2 : zσ), zck 8 x3 = true → f88_36 n r4 j x1 x2 x3 x4 x5 s = some (v, s2) → ∀ {w : zσ} {fz : Bool} {L : Nat} {xs : Nat → Int32}, zGo (zX fz L xs) d q_88 (36, [(0, .ref 1007), (1, .int x1), (2, .int x2), (3, .ref x3), (4, .int x4), (5, .int x5)], [], zmk s w, 0, 0) (some (.int v), zmk s2 w, 0, 0) := by
  intro j
  induction j with
  | zero => intro x1 x2 x3 x4 x5 s v s2 hx3 h; cases h
  | succ j ih =>
    intro x1 x2 x3 x4 x5 s v s2 hx3 h w fz L xs
    rw [f88_36] at h
    refine zGo_s (pc' := 38) (st' := [.int x5]) dd88_36 rfl ?_
    refine zGo_s (pc' := 39) (st' := [.ref 1007, .int x5]) dd88_38 rfl ?_
    refine cGI dd88_39 rfl rfl rfl rfl ?_
    rcases oite h with ⟨hc, h⟩ | ⟨hc, h⟩
    · refine zIF dd88_42 (kGeF hc) ?_
      refine zGo_s (pc' := 46) (st' := [.ref 1007]) dd88_45 rfl ?_
      refine cGF (e := 1008) dd88_46 rfl rfl rfl rfl rfl ?_
      refine zGo_s (pc' := 51) (st' := [.int x5, .ref 1008]) dd88_49 rfl ?_
      obtain ⟨hi, h⟩ := ochk h
      obtain ⟨a2, e_a2, c_a2, h⟩ := ordd h
      refine cAA dd88_51 rfl rfl (Or.inl rfl) hi e_a2 ?_
      refine zGo_s (pc' := 54) (st' := []) (lv' := [(6, .ref a2), (0, .ref 1007), (1, .int x1), (2, .int x2), (3, .ref x3), (4, .int x4), (5, .int x5)]) dd88_52 rfl ?_
      refine zGo_s (pc' := 56) (st' := [.ref a2]) dd88_54 rfl ?_
      refine cGI dd88_56 rfl (ck8_s c_a2).1 (ck8_s c_a2).2 rfl ?_
      refine zGo_s (pc' := 60) (st' := [.ref x3, .int (s.1 a2 4)]) dd88_59 rfl ?_
      refine cGI dd88_60 rfl (ck8_s hx3).1 (ck8_s hx3).2 rfl ?_
      rcases oite h with ⟨hc, h⟩ | ⟨hc, h⟩
      · refine zIT dd88_63 rfl (kLtT hc) ?_
        exact zGo_lv (lv := [(0, .ref 1007), (1, .int x1), (2, .int x2), (3, .ref x3), (4, .int x4), (5, .int x5), (6, .ref a2)]) ⟨by simp, by simp, by simp⟩ (f88_90_ok hd hr4 ih hx3 c_a2 h)
      · refine zIF dd88_63 (kLtF hc) ?_
        refine zGo_s (pc' := 68) (st' := [.ref a2]) dd88_66 rfl ?_
        refine cGI dd88_68 rfl (ck8_s c_a2).1 (ck8_s c_a2).2 rfl ?_
        refine zGo_s (pc' := 72) (st' := [.ref x3, .int (s.1 a2 4)]) dd88_71 rfl ?_
        refine cGI dd88_72 rfl (ck8_s hx3).1 (ck8_s hx3).2 rfl ?_
        rcases oite h with ⟨hc, h⟩ | ⟨hc, h⟩
        · refine zIF dd88_75 (kNeF hc) ?_
          refine zGo_s (pc' := 80) (st' := [.ref a2]) dd88_78 rfl ?_
          refine cGI dd88_80 rfl (ck8_s c_a2).1 (ck8_s c_a2).2 rfl ?_
          refine zGo_s (pc' := 84) (st' := [.ref x3, .int (s.1 a2 11)]) dd88_83 rfl ?_
          refine cGI dd88_84 rfl (ck8_s hx3).1 (ck8_s hx3).2 rfl ?_
          rcases oite h with ⟨hc, h⟩ | ⟨hc, h⟩
          · refine zIF dd88_87 (kGeF hc) ?_
            exact zGo_lv (lv := [(0, .ref 1007), (1, .int x1), (2, .int x2), (3, .ref x3), (4, .int x4), (5, .int x5), (6, .ref a2)]) ⟨by simp, by simp, by simp⟩ (f88_90_ok hd hr4 ih hx3 c_a2 h)
          · refine zIT dd88_87 rfl (kGeT hc) ?_
            exact zGo_lv (lv := [(0, .ref 1007), (1, .int x1), (2, .int x2), (3, .ref x3), (4, .int x4), (5, .int x5), (6, .ref a2)]) ⟨by simp, by simp, by simp⟩ (f88_94_ok hd hr4 ih hx3 c_a2 h)
        · refine zIT dd88_75 rfl (kNeT hc) ?_
          exact zGo_lv (lv := [(0, .ref 1007), (1, .int x1), (2, .int x2), (3, .ref x3), (4, .int x4), (5, .int x5), (6, .ref a2)]) ⟨by simp, by simp, by simp⟩ (f88_94_ok hd hr4 ih hx3 c_a2 h)
    · refine zIT dd88_42 rfl (kGeT hc) ?_
      refine zGo_s (pc' := 122) (st' := [.int x4]) dd88_120 rfl ?_
      refine zGo_s (pc' := 123) (st' := [.ref 1007, .int x4]) dd88_122 rfl ?_
      refine cGI dd88_123 rfl rfl rfl rfl ?_
      rcases oite h with ⟨hc, h⟩ | ⟨hc, h⟩
      · refine zIF dd88_126 (kGeF hc) ?_
        refine zGo_s (pc' := 130) (st' := [.ref 1007]) dd88_129 rfl ?_
        refine cGF (e := 1034) dd88_130 rfl rfl rfl rfl rfl ?_
        refine zGo_s (pc' := 135) (st' := [.int x4, .ref 1034]) dd88_133 rfl ?_
        refine zGo_s (pc' := 136) (st' := [.int x2, .int x4, .ref 1034]) dd88_135 rfl ?_
        obtain ⟨hi, h⟩ := ochk h
        obtain ⟨u1, e_u1, h⟩ := olet h
        refine cIS dd88_136 rfl rfl hi e_u1 ?_
        refine zGo_s (pc' := 140) (st' := []) (lv' := [(1, .int (x1 + (1 : Int32))), (0, .ref 1007), (2, .int x2), (3, .ref x3), (4, .int x4), (5, .int x5)]) dd88_137 rfl ?_
        exact zGo_lv (lv := [(0, .ref 1007), (1, .int (x1 + (1 : Int32))), (2, .int x2)]) ⟨by simp, by simp, by simp⟩ (f88_140_ok hd hr4 h)
      · refine zIT dd88_126 rfl (kGeT hc) ?_
        exact zGo_lv (lv := [(0, .ref 1007), (1, .int x1), (2, .int x2)]) ⟨by simp, by simp, by simp⟩ (f88_140_ok hd hr4 h)
def f88_4 (n : Nat) : Nat → Int32 → Int32 → zσ → Option (Int32 × zσ)
  | 0, _, _, _ => none
  | j + 1, x1, x2, s =>
    if x2 < (s.1 1007 12) then
    if zin? x2 8 = true then
    zrd 8 (s.2.2 1008 (nx x2)) fun a1 =>
    if (s.1 a1 3) = (1 : Int32) then
    f88_36 n (f88_4 n j) n x1 x2 a1 (0 : Int32) (0 : Int32) s
    else f88_140 n (f88_4 n j) x1 x2 s
    else none
    else some (x1, s)
set_option maxRecDepth 20000 in
theorem f88_4_ok {n d : Nat} (hd : 0 ≤ d) : ∀ (j : Nat) (x1 : Int32) (x2 : Int32) (s : zσ) (v : Int32) (s2 : zσ), f88_4 n j x1 x2 s = some (v, s2) → ∀ {w : zσ} {fz : Bool} {L : Nat} {xs : Nat → Int32}, zGo (zX fz L xs) d q_88 (4, [(0, .ref 1007), (1, .int x1), (2, .int x2)], [], zmk s w, 0, 0) (some (.int v), zmk s2 w, 0, 0) := by
  intro j
  induction j with
  | zero => intro x1 x2 s v s2 h; cases h
  | succ j ih =>
    intro x1 x2 s v s2 h w fz L xs
    rw [f88_4] at h
    refine zGo_s (pc' := 5) (st' := [.int x2]) dd88_4 rfl ?_
    refine zGo_s (pc' := 6) (st' := [.ref 1007, .int x2]) dd88_5 rfl ?_
    refine cGI dd88_6 rfl rfl rfl rfl ?_
    rcases oite h with ⟨hc, h⟩ | ⟨hc, h⟩
    · refine zIF dd88_9 (kGeF hc) ?_
      refine zGo_s (pc' := 13) (st' := [.ref 1007]) dd88_12 rfl ?_
      refine cGF (e := 1008) dd88_13 rfl rfl rfl rfl rfl ?_
      refine zGo_s (pc' := 17) (st' := [.int x2, .ref 1008]) dd88_16 rfl ?_
      obtain ⟨hi, h⟩ := ochk h
      obtain ⟨a1, e_a1, c_a1, h⟩ := ordd h
      refine cAA dd88_17 rfl rfl (Or.inl rfl) hi e_a1 ?_
      refine zGo_s (pc' := 19) (st' := []) (lv' := [(3, .ref a1), (0, .ref 1007), (1, .int x1), (2, .int x2)]) dd88_18 rfl ?_
      refine zGo_s (pc' := 20) (st' := [.ref a1]) dd88_19 rfl ?_
      refine cGI dd88_20 rfl (ck8_s c_a1).1 (ck8_s c_a1).2 rfl ?_
      refine zGo_s (pc' := 24) (st' := [.int (1 : Int32), .int (s.1 a1 3)]) dd88_23 rfl ?_
      rcases oite h with ⟨hc, h⟩ | ⟨hc, h⟩
      · refine zIT dd88_24 rfl (kEqT hc) ?_
        refine zGo_s (pc' := 31) (st' := [.int (0 : Int32)]) dd88_30 rfl ?_
        refine zGo_s (pc' := 33) (st' := []) (lv' := [(4, .int (0 : Int32)), (3, .ref a1), (0, .ref 1007), (1, .int x1), (2, .int x2)]) dd88_31 rfl ?_
        refine zGo_s (pc' := 34) (st' := [.int (0 : Int32)]) dd88_33 rfl ?_
        refine zGo_s (pc' := 36) (st' := []) (lv' := [(5, .int (0 : Int32)), (4, .int (0 : Int32)), (3, .ref a1), (0, .ref 1007), (1, .int x1), (2, .int x2)]) dd88_34 rfl ?_
        exact zGo_lv (lv := [(0, .ref 1007), (1, .int x1), (2, .int x2), (3, .ref a1), (4, .int (0 : Int32)), (5, .int (0 : Int32))]) ⟨by simp, by simp, by simp⟩ (f88_36_ok hd ih _ _ _ _ _ _ _ _ _ c_a1 h)
      · refine zIF dd88_24 (kEqF hc) ?_
        refine zGo_s (pc' := 140) (st' := []) dd88_27 rfl ?_
        exact zGo_lv (lv := [(0, .ref 1007), (1, .int x1), (2, .int x2)]) ⟨by simp, by simp, by simp⟩ (f88_140_ok hd ih h)
    · refine zIT dd88_9 rfl (kGeT hc) ?_
      refine zGo_s (pc' := 147) (st' := [.int x1]) dd88_146 rfl ?_
      obtain ⟨rfl, rfl⟩ := oret h
      exact zGo_ret dd88_147 rfl rfl
def f88 (n : Nat) (s : zσ) : Option (Int32 × zσ) :=
    f88_4 n n (0 : Int32) (0 : Int32) s
set_option maxRecDepth 20000 in
theorem f88_ok {n d : Nat} {s : zσ} {v : Int32} {s2 : zσ} (hd : 0 ≤ d) (h : f88 n s = some (v, s2)) {w : zσ} {fz : Bool} {L : Nat} {xs : Nat → Int32} : zGo (zX fz L xs) d q_88 (0, [(0, .ref 1007)], [], zmk s w, 0, 0) (some (.int v), zmk s2 w, 0, 0) := by
  unfold f88 at h
  refine zGo_s (pc' := 1) (st' := [.int (0 : Int32)]) dd88_0 rfl ?_
  refine zGo_s (pc' := 2) (st' := []) (lv' := [(1, .int (0 : Int32)), (0, .ref 1007)]) dd88_1 rfl ?_
  refine zGo_s (pc' := 3) (st' := [.int (0 : Int32)]) dd88_2 rfl ?_
  refine zGo_s (pc' := 4) (st' := []) (lv' := [(2, .int (0 : Int32)), (1, .int (0 : Int32)), (0, .ref 1007)]) dd88_3 rfl ?_
  exact zGo_lv (lv := [(0, .ref 1007), (1, .int (0 : Int32)), (2, .int (0 : Int32))]) ⟨by simp, by simp, by simp⟩ (f88_4_ok hd _ _ _ _ _ _ h)
/-! PH$Store.sizeOf(I)I -/
theorem dd92_0 : decode cX7_sizeOf 0 = .ok (.aload_n 0, 1) := by decide +kernel
theorem dd92_1 : decode cX7_sizeOf 1 = .ok (.getfield 15, 3) := by decide +kernel
theorem dd92_4 : decode cX7_sizeOf 4 = .ok (.iload_n 1, 1) := by decide +kernel
theorem dd92_5 : decode cX7_sizeOf 5 = .ok (.iaload, 1) := by decide +kernel
theorem dd92_6 : decode cX7_sizeOf 6 = .ok (.iconst (-1), 1) := by decide +kernel
theorem dd92_7 : decode cX7_sizeOf 7 = .ok (.if_icmp .ne 7, 3) := by decide +kernel
theorem dd92_10 : decode cX7_sizeOf 10 = .ok (.iconst (-1), 1) := by decide +kernel
theorem dd92_11 : decode cX7_sizeOf 11 = .ok (.goto 14, 3) := by decide +kernel
theorem dd92_14 : decode cX7_sizeOf 14 = .ok (.aload_n 0, 1) := by decide +kernel
theorem dd92_15 : decode cX7_sizeOf 15 = .ok (.getfield 18, 3) := by decide +kernel
theorem dd92_18 : decode cX7_sizeOf 18 = .ok (.aload_n 0, 1) := by decide +kernel
theorem dd92_19 : decode cX7_sizeOf 19 = .ok (.getfield 15, 3) := by decide +kernel
theorem dd92_22 : decode cX7_sizeOf 22 = .ok (.iload_n 1, 1) := by decide +kernel
theorem dd92_23 : decode cX7_sizeOf 23 = .ok (.iaload, 1) := by decide +kernel
theorem dd92_24 : decode cX7_sizeOf 24 = .ok (.iaload, 1) := by decide +kernel
theorem dd92_25 : decode cX7_sizeOf 25 = .ok (.ireturn, 1) := by decide +kernel
def f92 (n : Nat) (x1 : Int32) (s : zσ) : Option (Int32 × zσ) :=
    if zin? x1 4 = true then
    if (s.1 1011 (nx x1)) = (-1 : Int32) then
    some ((-1 : Int32), s)
    else if zin? x1 4 = true then
    if zin? (s.1 1011 (nx x1)) 4 = true then
    some ((s.1 1012 (nx (s.1 1011 (nx x1)))), s)
    else none
    else none
    else none
set_option maxRecDepth 20000 in
theorem f92_ok {n d : Nat} {x1 : Int32} {s : zσ} {v : Int32} {s2 : zσ} (hd : 0 ≤ d) (h : f92 n x1 s = some (v, s2)) {w : zσ} {fz : Bool} {L : Nat} {xs : Nat → Int32} : zGo (zX fz L xs) d q_92 (0, [(0, .ref 1009), (1, .int x1)], [], zmk s w, 0, 0) (some (.int v), zmk s2 w, 0, 0) := by
  unfold f92 at h
  refine zGo_s (pc' := 1) (st' := [.ref 1009]) dd92_0 rfl ?_
  refine cGF (e := 1011) dd92_1 rfl rfl rfl rfl rfl ?_
  refine zGo_s (pc' := 5) (st' := [.int x1, .ref 1011]) dd92_4 rfl ?_
  obtain ⟨hi, h⟩ := ochk h
  refine cIA dd92_5 rfl rfl hi ?_
  refine zGo_s (pc' := 7) (st' := [.int (-1 : Int32), .int (s.1 1011 (nx x1))]) dd92_6 rfl ?_
  rcases oite h with ⟨hc, h⟩ | ⟨hc, h⟩
  · refine zIF dd92_7 (kNeF hc) ?_
    refine zGo_s (pc' := 11) (st' := [.int (-1 : Int32)]) dd92_10 rfl ?_
    refine zGo_s (pc' := 25) (st' := [.int (-1 : Int32)]) dd92_11 rfl ?_
    obtain ⟨rfl, rfl⟩ := oret h
    exact zGo_ret dd92_25 rfl rfl
  · refine zIT dd92_7 rfl (kNeT hc) ?_
    refine zGo_s (pc' := 15) (st' := [.ref 1009]) dd92_14 rfl ?_
    refine cGF (e := 1012) dd92_15 rfl rfl rfl rfl rfl ?_
    refine zGo_s (pc' := 19) (st' := [.ref 1009, .ref 1012]) dd92_18 rfl ?_
    refine cGF (e := 1011) dd92_19 rfl rfl rfl rfl rfl ?_
    refine zGo_s (pc' := 23) (st' := [.int x1, .ref 1011, .ref 1012]) dd92_22 rfl ?_
    obtain ⟨hi, h⟩ := ochk h
    refine cIA dd92_23 rfl rfl hi ?_
    obtain ⟨hi, h⟩ := ochk h
    refine cIA dd92_24 rfl rfl hi ?_
    obtain ⟨rfl, rfl⟩ := oret h
    exact zGo_ret dd92_25 rfl rfl
/-! PH$Machine.pop()I -/
theorem dd93_0 : decode cX3_pop 0 = .ok (.aload_n 0, 1) := by decide +kernel
theorem dd93_1 : decode cX3_pop 1 = .ok (.getfield 84, 3) := by decide +kernel
theorem dd93_4 : decode cX3_pop 4 = .ok (.ifCond .le 13, 3) := by decide +kernel
theorem dd93_7 : decode cX3_pop 7 = .ok (.aload_n 0, 1) := by decide +kernel
theorem dd93_8 : decode cX3_pop 8 = .ok (.dup, 1) := by decide +kernel
theorem dd93_9 : decode cX3_pop 9 = .ok (.getfield 84, 3) := by decide +kernel
theorem dd93_12 : decode cX3_pop 12 = .ok (.iconst 1, 1) := by decide +kernel
theorem dd93_13 : decode cX3_pop 13 = .ok (.isub, 1) := by decide +kernel
theorem dd93_14 : decode cX3_pop 14 = .ok (.putfield 84, 3) := by decide +kernel
theorem dd93_17 : decode cX3_pop 17 = .ok (.aload_n 0, 1) := by decide +kernel
theorem dd93_18 : decode cX3_pop 18 = .ok (.getfield 45, 3) := by decide +kernel
theorem dd93_21 : decode cX3_pop 21 = .ok (.aload_n 0, 1) := by decide +kernel
theorem dd93_22 : decode cX3_pop 22 = .ok (.getfield 84, 3) := by decide +kernel
theorem dd93_25 : decode cX3_pop 25 = .ok (.iaload, 1) := by decide +kernel
theorem dd93_26 : decode cX3_pop 26 = .ok (.ireturn, 1) := by decide +kernel
def f93_17 (n : Nat) (s : zσ) : Option (Int32 × zσ) :=
    if zin? (s.1 1007 16) 64 = true then
    some ((s.1 1033 (nx (s.1 1007 16))), s)
    else none
set_option maxRecDepth 20000 in
theorem f93_17_ok {n d : Nat} {s : zσ} {v : Int32} {s2 : zσ} (hd : 0 ≤ d) (h : f93_17 n s = some (v, s2)) {w : zσ} {fz : Bool} {L : Nat} {xs : Nat → Int32} : zGo (zX fz L xs) d q_93 (17, [(0, .ref 1007)], [], zmk s w, 0, 0) (some (.int v), zmk s2 w, 0, 0) := by
  unfold f93_17 at h
  refine zGo_s (pc' := 18) (st' := [.ref 1007]) dd93_17 rfl ?_
  refine cGF (e := 1033) dd93_18 rfl rfl rfl rfl rfl ?_
  refine zGo_s (pc' := 22) (st' := [.ref 1007, .ref 1033]) dd93_21 rfl ?_
  refine cGI dd93_22 rfl rfl rfl rfl ?_
  obtain ⟨hi, h⟩ := ochk h
  refine cIA dd93_25 rfl rfl hi ?_
  obtain ⟨rfl, rfl⟩ := oret h
  exact zGo_ret dd93_26 rfl rfl
def f93 (n : Nat) (s : zσ) : Option (Int32 × zσ) :=
    if (0 : Int32) < (s.1 1007 16) then
    zlet (sI s 1007 16 ((s.1 1007 16) - (1 : Int32))) fun u1 =>
    f93_17 n u1
    else f93_17 n s
set_option maxRecDepth 20000 in
theorem f93_ok {n d : Nat} {s : zσ} {v : Int32} {s2 : zσ} (hd : 0 ≤ d) (h : f93 n s = some (v, s2)) {w : zσ} {fz : Bool} {L : Nat} {xs : Nat → Int32} : zGo (zX fz L xs) d q_93 (0, [(0, .ref 1007)], [], zmk s w, 0, 0) (some (.int v), zmk s2 w, 0, 0) := by
  unfold f93 at h
  refine zGo_s (pc' := 1) (st' := [.ref 1007]) dd93_0 rfl ?_
  refine cGI dd93_1 rfl rfl rfl rfl ?_
  rcases oite h with ⟨hc, h⟩ | ⟨hc, h⟩
  · refine zUF dd93_4 (kLeF hc) ?_
    refine zGo_s (pc' := 8) (st' := [.ref 1007]) dd93_7 rfl ?_
    refine zGo_s (pc' := 9) (st' := [.ref 1007, .ref 1007]) dd93_8 rfl ?_
    refine cGI dd93_9 rfl rfl rfl rfl ?_
    refine zGo_s (pc' := 13) (st' := [.int (1 : Int32), .int (s.1 1007 16), .ref 1007]) dd93_12 rfl ?_
    refine zGo_s (pc' := 14) (st' := [.int ((s.1 1007 16) - (1 : Int32)), .ref 1007]) dd93_13 rfl ?_
    obtain ⟨u1, e_u1, h⟩ := olet h
    refine cPI dd93_14 rfl rfl rfl rfl rfl rfl e_u1 ?_
    exact f93_17_ok hd h
  · refine zUT dd93_4 rfl (kLeT hc) ?_
    exact f93_17_ok hd h
/-! PH$Store.lookAt(II)I -/
theorem dd94_0 : decode cX7_lookAt 0 = .ok (.aload_n 0, 1) := by decide +kernel
theorem dd94_1 : decode cX7_lookAt 1 = .ok (.getfield 15, 3) := by decide +kernel
theorem dd94_4 : decode cX7_lookAt 4 = .ok (.iload_n 1, 1) := by decide +kernel
theorem dd94_5 : decode cX7_lookAt 5 = .ok (.iaload, 1) := by decide +kernel
theorem dd94_6 : decode cX7_lookAt 6 = .ok (.iconst (-1), 1) := by decide +kernel
theorem dd94_7 : decode cX7_lookAt 7 = .ok (.if_icmp .ne 5, 3) := by decide +kernel
theorem dd94_10 : decode cX7_lookAt 10 = .ok (.iconst 1, 1) := by decide +kernel
theorem dd94_11 : decode cX7_lookAt 11 = .ok (.ireturn, 1) := by decide +kernel
theorem dd94_12 : decode cX7_lookAt 12 = .ok (.iload_n 2, 1) := by decide +kernel
theorem dd94_13 : decode cX7_lookAt 13 = .ok (.ifCond .lt 18, 3) := by decide +kernel
theorem dd94_16 : decode cX7_lookAt 16 = .ok (.iload_n 2, 1) := by decide +kernel
theorem dd94_17 : decode cX7_lookAt 17 = .ok (.aload_n 0, 1) := by decide +kernel
theorem dd94_18 : decode cX7_lookAt 18 = .ok (.getfield 18, 3) := by decide +kernel
theorem dd94_21 : decode cX7_lookAt 21 = .ok (.aload_n 0, 1) := by decide +kernel
theorem dd94_22 : decode cX7_lookAt 22 = .ok (.getfield 15, 3) := by decide +kernel
theorem dd94_25 : decode cX7_lookAt 25 = .ok (.iload_n 1, 1) := by decide +kernel
theorem dd94_26 : decode cX7_lookAt 26 = .ok (.iaload, 1) := by decide +kernel
theorem dd94_27 : decode cX7_lookAt 27 = .ok (.iaload, 1) := by decide +kernel
theorem dd94_28 : decode cX7_lookAt 28 = .ok (.if_icmp .lt 7, 3) := by decide +kernel
theorem dd94_31 : decode cX7_lookAt 31 = .ok (.iconst 2, 1) := by decide +kernel
theorem dd94_32 : decode cX7_lookAt 32 = .ok (.goto 4, 3) := by decide +kernel
theorem dd94_35 : decode cX7_lookAt 35 = .ok (.iconst 0, 1) := by decide +kernel
theorem dd94_36 : decode cX7_lookAt 36 = .ok (.ireturn, 1) := by decide +kernel
def f94_31 (n : Nat) (s : zσ) : Option (Int32 × zσ) :=
    some ((2 : Int32), s)
set_option maxRecDepth 20000 in
theorem f94_31_ok {n d : Nat} {s : zσ} {v : Int32} {s2 : zσ} (hd : 0 ≤ d) (h : f94_31 n s = some (v, s2)) {w : zσ} {fz : Bool} {L : Nat} {xs : Nat → Int32} : zGo (zX fz L xs) d q_94 (31, [], [], zmk s w, 0, 0) (some (.int v), zmk s2 w, 0, 0) := by
  unfold f94_31 at h
  refine zGo_s (pc' := 32) (st' := [.int (2 : Int32)]) dd94_31 rfl ?_
  refine zGo_s (pc' := 36) (st' := [.int (2 : Int32)]) dd94_32 rfl ?_
  obtain ⟨rfl, rfl⟩ := oret h
  exact zGo_ret dd94_36 rfl rfl
def f94 (n : Nat) (x1 : Int32) (x2 : Int32) (s : zσ) : Option (Int32 × zσ) :=
    if zin? x1 4 = true then
    if (s.1 1011 (nx x1)) = (-1 : Int32) then
    some ((1 : Int32), s)
    else if x2 < (0 : Int32) then
    f94_31 n s
    else if zin? x1 4 = true then
    if zin? (s.1 1011 (nx x1)) 4 = true then
    if x2 < (s.1 1012 (nx (s.1 1011 (nx x1)))) then
    some ((0 : Int32), s)
    else f94_31 n s
    else none
    else none
    else none
set_option maxRecDepth 20000 in
theorem f94_ok {n d : Nat} {x1 : Int32} {x2 : Int32} {s : zσ} {v : Int32} {s2 : zσ} (hd : 0 ≤ d) (h : f94 n x1 x2 s = some (v, s2)) {w : zσ} {fz : Bool} {L : Nat} {xs : Nat → Int32} : zGo (zX fz L xs) d q_94 (0, [(0, .ref 1009), (1, .int x1), (2, .int x2)], [], zmk s w, 0, 0) (some (.int v), zmk s2 w, 0, 0) := by
  unfold f94 at h
  refine zGo_s (pc' := 1) (st' := [.ref 1009]) dd94_0 rfl ?_
  refine cGF (e := 1011) dd94_1 rfl rfl rfl rfl rfl ?_
  refine zGo_s (pc' := 5) (st' := [.int x1, .ref 1011]) dd94_4 rfl ?_
  obtain ⟨hi, h⟩ := ochk h
  refine cIA dd94_5 rfl rfl hi ?_
  refine zGo_s (pc' := 7) (st' := [.int (-1 : Int32), .int (s.1 1011 (nx x1))]) dd94_6 rfl ?_
  rcases oite h with ⟨hc, h⟩ | ⟨hc, h⟩
  · refine zIF dd94_7 (kNeF hc) ?_
    refine zGo_s (pc' := 11) (st' := [.int (1 : Int32)]) dd94_10 rfl ?_
    obtain ⟨rfl, rfl⟩ := oret h
    exact zGo_ret dd94_11 rfl rfl
  · refine zIT dd94_7 rfl (kNeT hc) ?_
    refine zGo_s (pc' := 13) (st' := [.int x2]) dd94_12 rfl ?_
    rcases oite h with ⟨hc, h⟩ | ⟨hc, h⟩
    · refine zUT dd94_13 rfl (kLtT hc) ?_
      exact zGo_lv (lv := []) ⟨by simp, by simp, by simp⟩ (f94_31_ok hd h)
    · refine zUF dd94_13 (kLtF hc) ?_
      refine zGo_s (pc' := 17) (st' := [.int x2]) dd94_16 rfl ?_
      refine zGo_s (pc' := 18) (st' := [.ref 1009, .int x2]) dd94_17 rfl ?_
      refine cGF (e := 1012) dd94_18 rfl rfl rfl rfl rfl ?_
      refine zGo_s (pc' := 22) (st' := [.ref 1009, .ref 1012, .int x2]) dd94_21 rfl ?_
      refine cGF (e := 1011) dd94_22 rfl rfl rfl rfl rfl ?_
      refine zGo_s (pc' := 26) (st' := [.int x1, .ref 1011, .ref 1012, .int x2]) dd94_25 rfl ?_
      obtain ⟨hi, h⟩ := ochk h
      refine cIA dd94_26 rfl rfl hi ?_
      obtain ⟨hi, h⟩ := ochk h
      refine cIA dd94_27 rfl rfl hi ?_
      rcases oite h with ⟨hc, h⟩ | ⟨hc, h⟩
      · refine zIT dd94_28 rfl (kLtT hc) ?_
        refine zGo_s (pc' := 36) (st' := [.int (0 : Int32)]) dd94_35 rfl ?_
        obtain ⟨rfl, rfl⟩ := oret h
        exact zGo_ret dd94_36 rfl rfl
      · refine zIF dd94_28 (kLtF hc) ?_
        exact zGo_lv (lv := []) ⟨by simp, by simp, by simp⟩ (f94_31_ok hd h)
/-! PH$Store.itemOf(II)I -/
theorem dd95_0 : decode cX7_itemOf 0 = .ok (.aload_n 0, 1) := by decide +kernel
theorem dd95_1 : decode cX7_itemOf 1 = .ok (.getfield 21, 3) := by decide +kernel
theorem dd95_4 : decode cX7_itemOf 4 = .ok (.aload_n 0, 1) := by decide +kernel
theorem dd95_5 : decode cX7_itemOf 5 = .ok (.getfield 15, 3) := by decide +kernel
theorem dd95_8 : decode cX7_itemOf 8 = .ok (.iload_n 1, 1) := by decide +kernel
theorem dd95_9 : decode cX7_itemOf 9 = .ok (.iaload, 1) := by decide +kernel
theorem dd95_10 : decode cX7_itemOf 10 = .ok (.bipush 20, 2) := by decide +kernel
theorem dd95_12 : decode cX7_itemOf 12 = .ok (.imul, 1) := by decide +kernel
theorem dd95_13 : decode cX7_itemOf 13 = .ok (.iload_n 2, 1) := by decide +kernel
theorem dd95_14 : decode cX7_itemOf 14 = .ok (.iadd, 1) := by decide +kernel
theorem dd95_15 : decode cX7_itemOf 15 = .ok (.iaload, 1) := by decide +kernel
theorem dd95_16 : decode cX7_itemOf 16 = .ok (.ireturn, 1) := by decide +kernel
def f95 (n : Nat) (x1 : Int32) (x2 : Int32) (s : zσ) : Option (Int32 × zσ) :=
    if zin? x1 4 = true then
    if zin? (((s.1 1011 (nx x1)) * (20 : Int32)) + x2) 80 = true then
    some ((s.1 1013 (nx (((s.1 1011 (nx x1)) * (20 : Int32)) + x2))), s)
    else none
    else none
set_option maxRecDepth 20000 in
theorem f95_ok {n d : Nat} {x1 : Int32} {x2 : Int32} {s : zσ} {v : Int32} {s2 : zσ} (hd : 0 ≤ d) (h : f95 n x1 x2 s = some (v, s2)) {w : zσ} {fz : Bool} {L : Nat} {xs : Nat → Int32} : zGo (zX fz L xs) d q_95 (0, [(0, .ref 1009), (1, .int x1), (2, .int x2)], [], zmk s w, 0, 0) (some (.int v), zmk s2 w, 0, 0) := by
  unfold f95 at h
  refine zGo_s (pc' := 1) (st' := [.ref 1009]) dd95_0 rfl ?_
  refine cGF (e := 1013) dd95_1 rfl rfl rfl rfl rfl ?_
  refine zGo_s (pc' := 5) (st' := [.ref 1009, .ref 1013]) dd95_4 rfl ?_
  refine cGF (e := 1011) dd95_5 rfl rfl rfl rfl rfl ?_
  refine zGo_s (pc' := 9) (st' := [.int x1, .ref 1011, .ref 1013]) dd95_8 rfl ?_
  obtain ⟨hi, h⟩ := ochk h
  refine cIA dd95_9 rfl rfl hi ?_
  refine zGo_s (pc' := 12) (st' := [.int (20 : Int32), .int (s.1 1011 (nx x1)), .ref 1013]) dd95_10 rfl ?_
  refine zGo_s (pc' := 13) (st' := [.int ((s.1 1011 (nx x1)) * (20 : Int32)), .ref 1013]) dd95_12 rfl ?_
  refine zGo_s (pc' := 14) (st' := [.int x2, .int ((s.1 1011 (nx x1)) * (20 : Int32)), .ref 1013]) dd95_13 rfl ?_
  refine zGo_s (pc' := 15) (st' := [.int (((s.1 1011 (nx x1)) * (20 : Int32)) + x2), .ref 1013]) dd95_14 rfl ?_
  obtain ⟨hi, h⟩ := ochk h
  refine cIA dd95_15 rfl rfl hi ?_
  obtain ⟨rfl, rfl⟩ := oret h
  exact zGo_ret dd95_16 rfl rfl
