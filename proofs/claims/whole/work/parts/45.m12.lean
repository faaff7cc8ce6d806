/-! PH$Machine.grain()I -/
theorem dd83_0 : decode cX3_grain 0 = .ok (.aload_n 0, 1) := by decide +kernel
theorem dd83_1 : decode cX3_grain 1 = .ok (.invokevirtual 154, 3) := by decide +kernel
theorem dd83_4 : decode cX3_grain 4 = .ok (.aload_n 0, 1) := by decide +kernel
theorem dd83_5 : decode cX3_grain 5 = .ok (.invokevirtual 157, 3) := by decide +kernel
theorem dd83_8 : decode cX3_grain 8 = .ok (.istore_n 1, 1) := by decide +kernel
theorem dd83_9 : decode cX3_grain 9 = .ok (.iload_n 1, 1) := by decide +kernel
theorem dd83_10 : decode cX3_grain 10 = .ok (.ifCond .ne 50, 3) := by decide +kernel
theorem dd83_13 : decode cX3_grain 13 = .ok (.aload_n 0, 1) := by decide +kernel
theorem dd83_14 : decode cX3_grain 14 = .ok (.getfield 34, 3) := by decide +kernel
theorem dd83_17 : decode cX3_grain 17 = .ok (.invokevirtual 160, 3) := by decide +kernel
theorem dd83_20 : decode cX3_grain 20 = .ok (.istore_n 2, 1) := by decide +kernel
theorem dd83_21 : decode cX3_grain 21 = .ok (.iload_n 2, 1) := by decide +kernel
theorem dd83_22 : decode cX3_grain 22 = .ok (.iconst (-1), 1) := by decide +kernel
theorem dd83_23 : decode cX3_grain 23 = .ok (.if_icmp .ne 21, 3) := by decide +kernel
theorem dd83_26 : decode cX3_grain 26 = .ok (.aload_n 0, 1) := by decide +kernel
theorem dd83_27 : decode cX3_grain 27 = .ok (.iconst 0, 1) := by decide +kernel
theorem dd83_28 : decode cX3_grain 28 = .ok (.invokevirtual 144, 3) := by decide +kernel
theorem dd83_31 : decode cX3_grain 31 = .ok (.aload_n 0, 1) := by decide +kernel
theorem dd83_32 : decode cX3_grain 32 = .ok (.getfield 71, 3) := by decide +kernel
theorem dd83_35 : decode cX3_grain 35 = .ok (.if_icmp .ne 7, 3) := by decide +kernel
theorem dd83_38 : decode cX3_grain 38 = .ok (.iconst 2, 1) := by decide +kernel
theorem dd83_39 : decode cX3_grain 39 = .ok (.goto 4, 3) := by decide +kernel
theorem dd83_42 : decode cX3_grain 42 = .ok (.iconst 0, 1) := by decide +kernel
theorem dd83_43 : decode cX3_grain 43 = .ok (.ireturn, 1) := by decide +kernel
theorem dd83_44 : decode cX3_grain 44 = .ok (.aload_n 0, 1) := by decide +kernel
theorem dd83_45 : decode cX3_grain 45 = .ok (.aload_n 0, 1) := by decide +kernel
theorem dd83_46 : decode cX3_grain 46 = .ok (.getfield 34, 3) := by decide +kernel
theorem dd83_49 : decode cX3_grain 49 = .ok (.getfield 163, 3) := by decide +kernel
theorem dd83_52 : decode cX3_grain 52 = .ok (.iload_n 2, 1) := by decide +kernel
theorem dd83_53 : decode cX3_grain 53 = .ok (.iaload, 1) := by decide +kernel
theorem dd83_54 : decode cX3_grain 54 = .ok (.putfield 78, 3) := by decide +kernel
theorem dd83_57 : decode cX3_grain 57 = .ok (.goto 55, 3) := by decide +kernel
theorem dd83_60 : decode cX3_grain 60 = .ok (.iconst 0, 1) := by decide +kernel
theorem dd83_61 : decode cX3_grain 61 = .ok (.istore_n 2, 1) := by decide +kernel
theorem dd83_62 : decode cX3_grain 62 = .ok (.iload_n 2, 1) := by decide +kernel
theorem dd83_63 : decode cX3_grain 63 = .ok (.iload_n 1, 1) := by decide +kernel
theorem dd83_64 : decode cX3_grain 64 = .ok (.if_icmp .ge 38, 3) := by decide +kernel
theorem dd83_67 : decode cX3_grain 67 = .ok (.aload_n 0, 1) := by decide +kernel
theorem dd83_68 : decode cX3_grain 68 = .ok (.getfield 11, 3) := by decide +kernel
theorem dd83_71 : decode cX3_grain 71 = .ok (.aload_n 0, 1) := by decide +kernel
theorem dd83_72 : decode cX3_grain 72 = .ok (.getfield 49, 3) := by decide +kernel
theorem dd83_75 : decode cX3_grain 75 = .ok (.iload_n 2, 1) := by decide +kernel
theorem dd83_76 : decode cX3_grain 76 = .ok (.iaload, 1) := by decide +kernel
theorem dd83_77 : decode cX3_grain 77 = .ok (.aaload, 1) := by decide +kernel
theorem dd83_78 : decode cX3_grain 78 = .ok (.astore_n 3, 1) := by decide +kernel
theorem dd83_79 : decode cX3_grain 79 = .ok (.aload_n 3, 1) := by decide +kernel
theorem dd83_80 : decode cX3_grain 80 = .ok (.getfield 123, 3) := by decide +kernel
theorem dd83_83 : decode cX3_grain 83 = .ok (.iconst 1, 1) := by decide +kernel
theorem dd83_84 : decode cX3_grain 84 = .ok (.if_icmp .ne 12, 3) := by decide +kernel
theorem dd83_87 : decode cX3_grain 87 = .ok (.aload_n 0, 1) := by decide +kernel
theorem dd83_88 : decode cX3_grain 88 = .ok (.aload_n 3, 1) := by decide +kernel
theorem dd83_89 : decode cX3_grain 89 = .ok (.invokevirtual 165, 3) := by decide +kernel
theorem dd83_92 : decode cX3_grain 92 = .ok (.aload_n 0, 1) := by decide +kernel
theorem dd83_93 : decode cX3_grain 93 = .ok (.invokevirtual 168, 3) := by decide +kernel
theorem dd83_96 : decode cX3_grain 96 = .ok (.iinc 2 1, 3) := by decide +kernel
theorem dd83_99 : decode cX3_grain 99 = .ok (.goto (-37), 3) := by decide +kernel
theorem dd83_102 : decode cX3_grain 102 = .ok (.aload_n 0, 1) := by decide +kernel
theorem dd83_103 : decode cX3_grain 103 = .ok (.dup, 1) := by decide +kernel
theorem dd83_104 : decode cX3_grain 104 = .ok (.getfield 78, 3) := by decide +kernel
theorem dd83_107 : decode cX3_grain 107 = .ok (.iconst 1, 1) := by decide +kernel
theorem dd83_108 : decode cX3_grain 108 = .ok (.iadd, 1) := by decide +kernel
theorem dd83_109 : decode cX3_grain 109 = .ok (.putfield 78, 3) := by decide +kernel
theorem dd83_112 : decode cX3_grain 112 = .ok (.aload_n 0, 1) := by decide +kernel
theorem dd83_113 : decode cX3_grain 113 = .ok (.getfield 41, 3) := by decide +kernel
theorem dd83_116 : decode cX3_grain 116 = .ok (.dup, 1) := by decide +kernel
theorem dd83_117 : decode cX3_grain 117 = .ok (.getfield 126, 3) := by decide +kernel
theorem dd83_120 : decode cX3_grain 120 = .ok (.iconst 1, 1) := by decide +kernel
theorem dd83_121 : decode cX3_grain 121 = .ok (.iadd, 1) := by decide +kernel
theorem dd83_122 : decode cX3_grain 122 = .ok (.putfield 126, 3) := by decide +kernel
theorem dd83_125 : decode cX3_grain 125 = .ok (.iconst 1, 1) := by decide +kernel
theorem dd83_126 : decode cX3_grain 126 = .ok (.ireturn, 1) := by decide +kernel
def f83_112 (n : Nat) (s : zσ) : Option (Int32 × zσ) :=
    zlet (sI s 1030 6 ((s.1 1030 6) + (1 : Int32))) fun u1 =>
    some ((1 : Int32), u1)
set_option maxRecDepth 20000 in
theorem f83_112_ok {n d : Nat} {s : zσ} {v : Int32} {s2 : zσ} (hd : 6 ≤ d) (h : f83_112 n s = some (v, s2)) {w : zσ} {fz : Bool} {L : Nat} {xs : Nat → Int32} : zGo (zX fz L xs) d q_83 (112, [(0, .ref 1007)], [], zmk s w, 0, 0) (some (.int v), zmk s2 w, 0, 0) := by
  obtain ⟨d, rfl⟩ : ∃ d0, d = d0 + 1 := ⟨d - 1, by omega⟩
  unfold f83_112 at h
  refine zGo_s (pc' := 113) (st' := [.ref 1007]) dd83_112 rfl ?_
  refine cGF (e := 1030) dd83_113 rfl rfl rfl rfl rfl ?_
  refine zGo_s (pc' := 117) (st' := [.ref 1030, .ref 1030]) dd83_116 rfl ?_
  refine cGI dd83_117 rfl rfl rfl rfl ?_
  refine zGo_s (pc' := 121) (st' := [.int (1 : Int32), .int (s.1 1030 6), .ref 1030]) dd83_120 rfl ?_
  refine zGo_s (pc' := 122) (st' := [.int ((s.1 1030 6) + (1 : Int32)), .ref 1030]) dd83_121 rfl ?_
  obtain ⟨u1, e_u1, h⟩ := olet h
  refine cPI dd83_122 rfl rfl rfl rfl rfl rfl e_u1 ?_
  refine zGo_s (pc' := 126) (st' := [.int (1 : Int32)]) dd83_125 rfl ?_
  obtain ⟨rfl, rfl⟩ := oret h
  exact zGo_ret dd83_126 rfl rfl
def f83_96 (n : Nat) (r62 : Int32 → Int32 → zσ → Option (Int32 × zσ)) (x1 : Int32) (x2 : Int32) (s : zσ) : Option (Int32 × zσ) :=
    r62 x1 (x2 + (1 : Int32)) s
set_option maxRecDepth 20000 in
theorem f83_96_ok {n d : Nat} {r62 : Int32 → Int32 → zσ → Option (Int32 × zσ)} {x1 : Int32} {x2 : Int32} {s : zσ} {v : Int32} {s2 : zσ} (hd : 6 ≤ d) (hr62 : ∀ (x1 : Int32) (x2 : Int32) (s : zσ) (v : Int32) (s2 : zσ), r62 x1 x2 s = some (v, s2) → ∀ {w : zσ} {fz : Bool} {L : Nat} {xs : Nat → Int32}, zGo (zX fz L xs) d q_83 (62, [(0, .ref 1007), (1, .int x1), (2, .int x2)], [], zmk s w, 0, 0) (some (.int v), zmk s2 w, 0, 0)) (h : f83_96 n r62 x1 x2 s = some (v, s2)) {w : zσ} {fz : Bool} {L : Nat} {xs : Nat → Int32} : zGo (zX fz L xs) d q_83 (96, [(0, .ref 1007), (1, .int x1), (2, .int x2)], [], zmk s w, 0, 0) (some (.int v), zmk s2 w, 0, 0) := by
  obtain ⟨d, rfl⟩ : ∃ d0, d = d0 + 1 := ⟨d - 1, by omega⟩
  unfold f83_96 at h
  refine zGo_s (pc' := 99) (st' := []) (lv' := [(2, .int (x2 + (1 : Int32))), (0, .ref 1007), (1, .int x1)]) dd83_96 rfl ?_
  refine zGo_s (pc' := 62) (st' := []) dd83_99 rfl ?_
  exact zGo_lv (lv := [(0, .ref 1007), (1, .int x1), (2, .int (x2 + (1 : Int32)))]) ⟨by simp, by simp, by simp⟩ (hr62 _ _ _ _ _ h)
def f83_62 (n : Nat) : Nat → Int32 → Int32 → zσ → Option (Int32 × zσ)
  | 0, _, _, _ => none
  | j + 1, x1, x2, s =>
    if x2 < x1 then
    if zin? x2 8 = true then
    if zin? (s.1 1034 (nx x2)) 8 = true then
    zrd 8 (s.2.2 1008 (nx (s.1 1034 (nx x2)))) fun a2 =>
    if (s.1 a2 3) = (1 : Int32) then
    yb0 (f89 n a2 s) fun u3 =>
    yb0 (f132 n u3) fun u4 =>
    f83_96 n (f83_62 n j) x1 x2 u4
    else f83_96 n (f83_62 n j) x1 x2 s
    else none
    else none
    else zlet (sI s 1007 14 ((s.1 1007 14) + (1 : Int32))) fun u1 =>
    f83_112 n u1
set_option maxRecDepth 20000 in
theorem f83_62_ok {n d : Nat} (hd : 6 ≤ d) : ∀ (j : Nat) (x1 : Int32) (x2 : Int32) (s : zσ) (v : Int32) (s2 : zσ), f83_62 n j x1 x2 s = some (v, s2) → ∀ {w : zσ} {fz : Bool} {L : Nat} {xs : Nat → Int32}, zGo (zX fz L xs) d q_83 (62, [(0, .ref 1007), (1, .int x1), (2, .int x2)], [], zmk s w, 0, 0) (some (.int v), zmk s2 w, 0, 0) := by
  obtain ⟨d, rfl⟩ : ∃ d0, d = d0 + 1 := ⟨d - 1, by omega⟩
  intro j
  induction j with
  | zero => intro x1 x2 s v s2 h; cases h
  | succ j ih =>
    intro x1 x2 s v s2 h w fz L xs
    rw [f83_62] at h
    refine zGo_s (pc' := 63) (st' := [.int x2]) dd83_62 rfl ?_
    refine zGo_s (pc' := 64) (st' := [.int x1, .int x2]) dd83_63 rfl ?_
    rcases oite h with ⟨hc, h⟩ | ⟨hc, h⟩
    · refine zIF dd83_64 (kGeF hc) ?_
      refine zGo_s (pc' := 68) (st' := [.ref 1007]) dd83_67 rfl ?_
      refine cGF (e := 1008) dd83_68 rfl rfl rfl rfl rfl ?_
      refine zGo_s (pc' := 72) (st' := [.ref 1007, .ref 1008]) dd83_71 rfl ?_
      refine cGF (e := 1034) dd83_72 rfl rfl rfl rfl rfl ?_
      refine zGo_s (pc' := 76) (st' := [.int x2, .ref 1034, .ref 1008]) dd83_75 rfl ?_
      obtain ⟨hi, h⟩ := ochk h
      refine cIA dd83_76 rfl rfl hi ?_
      obtain ⟨hi, h⟩ := ochk h
      obtain ⟨a2, e_a2, c_a2, h⟩ := ordd h
      refine cAA dd83_77 rfl rfl (Or.inl rfl) hi e_a2 ?_
      refine zGo_s (pc' := 79) (st' := []) (lv' := [(3, .ref a2), (0, .ref 1007), (1, .int x1), (2, .int x2)]) dd83_78 rfl ?_
      refine zGo_s (pc' := 80) (st' := [.ref a2]) dd83_79 rfl ?_
      refine cGI dd83_80 rfl (ck8_s c_a2).1 (ck8_s c_a2).2 rfl ?_
      refine zGo_s (pc' := 84) (st' := [.int (1 : Int32), .int (s.1 a2 3)]) dd83_83 rfl ?_
      rcases oite h with ⟨hc, h⟩ | ⟨hc, h⟩
      · refine zIF dd83_84 (kNeF hc) ?_
        refine zGo_s (pc' := 88) (st' := [.ref 1007]) dd83_87 rfl ?_
        refine zGo_s (pc' := 89) (st' := [.ref a2, .ref 1007]) dd83_88 rfl ?_
        obtain ⟨u3, hq, h⟩ := obn0 h
        refine zCV0 (As := [.ref a2]) (rest := []) (b := 1007) (q' := q_89) dd83_89 rfl rfl (rcv_c rfl rfl (by decide)) rfl rfl rfl (f89_ok (d := d) (by omega) c_a2 hq) ?_
        refine zGo_s (pc' := 93) (st' := [.ref 1007]) dd83_92 rfl ?_
        obtain ⟨u4, hq, h⟩ := obn0 h
        refine zCV0 (As := []) (rest := []) (b := 1007) (q' := q_132) dd83_93 rfl rfl (rcv_c rfl rfl (by decide)) rfl rfl rfl (f132_ok (d := d) (by omega)  hq) ?_
        exact zGo_lv (lv := [(0, .ref 1007), (1, .int x1), (2, .int x2)]) ⟨by simp, by simp, by simp⟩ (f83_96_ok hd ih h)
      · refine zIT dd83_84 rfl (kNeT hc) ?_
        exact zGo_lv (lv := [(0, .ref 1007), (1, .int x1), (2, .int x2)]) ⟨by simp, by simp, by simp⟩ (f83_96_ok hd ih h)
    · refine zIT dd83_64 rfl (kGeT hc) ?_
      refine zGo_s (pc' := 103) (st' := [.ref 1007]) dd83_102 rfl ?_
      refine zGo_s (pc' := 104) (st' := [.ref 1007, .ref 1007]) dd83_103 rfl ?_
      refine cGI dd83_104 rfl rfl rfl rfl ?_
      refine zGo_s (pc' := 108) (st' := [.int (1 : Int32), .int (s.1 1007 14), .ref 1007]) dd83_107 rfl ?_
      refine zGo_s (pc' := 109) (st' := [.int ((s.1 1007 14) + (1 : Int32)), .ref 1007]) dd83_108 rfl ?_
      obtain ⟨u1, e_u1, h⟩ := olet h
      refine cPI dd83_109 rfl rfl rfl rfl rfl rfl e_u1 ?_
      exact zGo_lv (lv := [(0, .ref 1007)]) ⟨by simp, by simp, by simp⟩ (f83_112_ok hd h)
def f83 (n : Nat) (s : zσ) : Option (Int32 × zσ) :=
    yb0 (f84 n s) fun u1 =>
    yb1 (f88 n u1) fun v3 u2 =>
    if v3 = (0 : Int32) then
    yb1 (f85 n u2) fun v5 u4 =>
    if v5 = (-1 : Int32) then
    yb1 (f81 n (0 : Int32) u4) fun v8 u7 =>
    if v8 = (u7.1 1007 12) then
    some ((2 : Int32), u7)
    else some ((0 : Int32), u7)
    else if zin? v5 16 = true then
    zlet (sI u4 1007 14 (u4.1 1023 (nx v5))) fun u6 =>
    f83_112 n u6
    else none
    else f83_62 n n v3 (0 : Int32) u2
set_option maxRecDepth 20000 in
theorem f83_ok {n d : Nat} {s : zσ} {v : Int32} {s2 : zσ} (hd : 6 ≤ d) (h : f83 n s = some (v, s2)) {w : zσ} {fz : Bool} {L : Nat} {xs : Nat → Int32} : zGo (zX fz L xs) d q_83 (0, [(0, .ref 1007)], [], zmk s w, 0, 0) (some (.int v), zmk s2 w, 0, 0) := by
  obtain ⟨d, rfl⟩ : ∃ d0, d = d0 + 1 := ⟨d - 1, by omega⟩
  unfold f83 at h
  refine zGo_s (pc' := 1) (st' := [.ref 1007]) dd83_0 rfl ?_
  obtain ⟨u1, hq, h⟩ := obn0 h
  refine zCV0 (As := []) (rest := []) (b := 1007) (q' := q_84) dd83_1 rfl rfl (rcv_c rfl rfl (by decide)) rfl rfl rfl (f84_ok (d := d) (by omega)  hq) ?_
  refine zGo_s (pc' := 5) (st' := [.ref 1007]) dd83_4 rfl ?_
  obtain ⟨v3, u2, hq, h⟩ := obnd h
  refine zCV1 (As := []) (rest := []) (b := 1007) (q' := q_88) dd83_5 rfl rfl (rcv_c rfl rfl (by decide)) rfl rfl rfl (f88_ok (d := d) (by omega)  hq) ?_
  refine zGo_s (pc' := 9) (st' := []) (lv' := [(1, .int v3), (0, .ref 1007)]) dd83_8 rfl ?_
  refine zGo_s (pc' := 10) (st' := [.int v3]) dd83_9 rfl ?_
  rcases oite h with ⟨hc, h⟩ | ⟨hc, h⟩
  · refine zUF dd83_10 (kNeF hc) ?_
    refine zGo_s (pc' := 14) (st' := [.ref 1007]) dd83_13 rfl ?_
    refine cGF (e := 1022) dd83_14 rfl rfl rfl rfl rfl ?_
    obtain ⟨v5, u4, hq, h⟩ := obnd h
    refine zCV1 (As := []) (rest := []) (b := 1022) (q' := q_85) dd83_17 rfl rfl (rcv_c rfl rfl (by decide)) rfl rfl rfl (f85_ok (d := d) (by omega)  hq) ?_
    refine zGo_s (pc' := 21) (st' := []) (lv' := [(2, .int v5), (1, .int v3), (0, .ref 1007)]) dd83_20 rfl ?_
    refine zGo_s (pc' := 22) (st' := [.int v5]) dd83_21 rfl ?_
    refine zGo_s (pc' := 23) (st' := [.int (-1 : Int32), .int v5]) dd83_22 rfl ?_
    rcases oite h with ⟨hc, h⟩ | ⟨hc, h⟩
    · refine zIF dd83_23 (kNeF hc) ?_
      refine zGo_s (pc' := 27) (st' := [.ref 1007]) dd83_26 rfl ?_
      refine zGo_s (pc' := 28) (st' := [.int (0 : Int32), .ref 1007]) dd83_27 rfl ?_
      obtain ⟨v8, u7, hq, h⟩ := obnd h
      refine zCV1 (As := [.int (0 : Int32)]) (rest := []) (b := 1007) (q' := q_81) dd83_28 rfl rfl (rcv_c rfl rfl (by decide)) rfl rfl rfl (f81_ok (d := d) (by omega)  hq) ?_
      refine zGo_s (pc' := 32) (st' := [.ref 1007, .int v8]) dd83_31 rfl ?_
      refine cGI dd83_32 rfl rfl rfl rfl ?_
      rcases oite h with ⟨hc, h⟩ | ⟨hc, h⟩
      · refine zIF dd83_35 (kNeF hc) ?_
        refine zGo_s (pc' := 39) (st' := [.int (2 : Int32)]) dd83_38 rfl ?_
        refine zGo_s (pc' := 43) (st' := [.int (2 : Int32)]) dd83_39 rfl ?_
        obtain ⟨rfl, rfl⟩ := oret h
        exact zGo_ret dd83_43 rfl rfl
      · refine zIT dd83_35 rfl (kNeT hc) ?_
        refine zGo_s (pc' := 43) (st' := [.int (0 : Int32)]) dd83_42 rfl ?_
        obtain ⟨rfl, rfl⟩ := oret h
        exact zGo_ret dd83_43 rfl rfl
    · refine zIT dd83_23 rfl (kNeT hc) ?_
      refine zGo_s (pc' := 45) (st' := [.ref 1007]) dd83_44 rfl ?_
      refine zGo_s (pc' := 46) (st' := [.ref 1007, .ref 1007]) dd83_45 rfl ?_
      refine cGF (e := 1022) dd83_46 rfl rfl rfl rfl rfl ?_
      refine cGF (e := 1023) dd83_49 rfl rfl rfl rfl rfl ?_
      refine zGo_s (pc' := 53) (st' := [.int v5, .ref 1023, .ref 1007]) dd83_52 rfl ?_
      obtain ⟨hi, h⟩ := ochk h
      refine cIA dd83_53 rfl rfl hi ?_
      obtain ⟨u6, e_u6, h⟩ := olet h
      refine cPI dd83_54 rfl rfl rfl rfl rfl rfl e_u6 ?_
      refine zGo_s (pc' := 112) (st' := []) dd83_57 rfl ?_
      exact zGo_lv (lv := [(0, .ref 1007)]) ⟨by simp, by simp, by simp⟩ (f83_112_ok hd h)
  · refine zUT dd83_10 rfl (kNeT hc) ?_
    refine zGo_s (pc' := 61) (st' := [.int (0 : Int32)]) dd83_60 rfl ?_
    refine zGo_s (pc' := 62) (st' := []) (lv' := [(2, .int (0 : Int32)), (1, .int v3), (0, .ref 1007)]) dd83_61 rfl ?_
    exact zGo_lv (lv := [(0, .ref 1007), (1, .int v3), (2, .int (0 : Int32))]) ⟨by simp, by simp, by simp⟩ (f83_62_ok hd _ _ _ _ _ _ h)
/-! PH.run(I)I -/
theorem dd82_0 : decode cX11_run 0 = .ok (.iload_n 1, 1) := by decide +kernel
theorem dd82_1 : decode cX11_run 1 = .ok (.iconst 1, 1) := by decide +kernel
theorem dd82_2 : decode cX11_run 2 = .ok (.if_icmp .lt 10, 3) := by decide +kernel
theorem dd82_5 : decode cX11_run 5 = .ok (.iload_n 1, 1) := by decide +kernel
theorem dd82_6 : decode cX11_run 6 = .ok (.sipush 500, 3) := by decide +kernel
theorem dd82_9 : decode cX11_run 9 = .ok (.if_icmp .le 6, 3) := by decide +kernel
theorem dd82_12 : decode cX11_run 12 = .ok (.bipush (-2), 2) := by decide +kernel
theorem dd82_14 : decode cX11_run 14 = .ok (.ireturn, 1) := by decide +kernel
theorem dd82_15 : decode cX11_run 15 = .ok (.aload_n 0, 1) := by decide +kernel
theorem dd82_16 : decode cX11_run 16 = .ok (.getfield 28, 3) := by decide +kernel
theorem dd82_19 : decode cX11_run 19 = .ok (.getfield 67, 3) := by decide +kernel
theorem dd82_22 : decode cX11_run 22 = .ok (.ifCond .ne 6, 3) := by decide +kernel
theorem dd82_25 : decode cX11_run 25 = .ok (.bipush (-3), 2) := by decide +kernel
theorem dd82_27 : decode cX11_run 27 = .ok (.ireturn, 1) := by decide +kernel
theorem dd82_28 : decode cX11_run 28 = .ok (.iconst 0, 1) := by decide +kernel
theorem dd82_29 : decode cX11_run 29 = .ok (.istore_n 2, 1) := by decide +kernel
theorem dd82_30 : decode cX11_run 30 = .ok (.iload_n 2, 1) := by decide +kernel
theorem dd82_31 : decode cX11_run 31 = .ok (.iload_n 1, 1) := by decide +kernel
theorem dd82_32 : decode cX11_run 32 = .ok (.if_icmp .ge 43, 3) := by decide +kernel
theorem dd82_35 : decode cX11_run 35 = .ok (.aload_n 0, 1) := by decide +kernel
theorem dd82_36 : decode cX11_run 36 = .ok (.getfield 28, 3) := by decide +kernel
theorem dd82_39 : decode cX11_run 39 = .ok (.getfield 98, 3) := by decide +kernel
theorem dd82_42 : decode cX11_run 42 = .ok (.getfield 102, 3) := by decide +kernel
theorem dd82_45 : decode cX11_run 45 = .ok (.sipush 4000, 3) := by decide +kernel
theorem dd82_48 : decode cX11_run 48 = .ok (.if_icmp .lt 6, 3) := by decide +kernel
theorem dd82_51 : decode cX11_run 51 = .ok (.bipush (-4), 2) := by decide +kernel
theorem dd82_53 : decode cX11_run 53 = .ok (.ireturn, 1) := by decide +kernel
theorem dd82_54 : decode cX11_run 54 = .ok (.aload_n 0, 1) := by decide +kernel
theorem dd82_55 : decode cX11_run 55 = .ok (.getfield 28, 3) := by decide +kernel
theorem dd82_58 : decode cX11_run 58 = .ok (.invokevirtual 107, 3) := by decide +kernel
theorem dd82_61 : decode cX11_run 61 = .ok (.istore_n 3, 1) := by decide +kernel
theorem dd82_62 : decode cX11_run 62 = .ok (.iload_n 3, 1) := by decide +kernel
theorem dd82_63 : decode cX11_run 63 = .ok (.iconst 1, 1) := by decide +kernel
theorem dd82_64 : decode cX11_run 64 = .ok (.if_icmp .eq 5, 3) := by decide +kernel
theorem dd82_67 : decode cX11_run 67 = .ok (.iload_n 3, 1) := by decide +kernel
theorem dd82_68 : decode cX11_run 68 = .ok (.ireturn, 1) := by decide +kernel
theorem dd82_69 : decode cX11_run 69 = .ok (.iinc 2 1, 3) := by decide +kernel
theorem dd82_72 : decode cX11_run 72 = .ok (.goto (-42), 3) := by decide +kernel
theorem dd82_75 : decode cX11_run 75 = .ok (.iconst 1, 1) := by decide +kernel
theorem dd82_76 : decode cX11_run 76 = .ok (.ireturn, 1) := by decide +kernel
def f82_30 (n : Nat) : Nat → Int32 → Int32 → zσ → Option (Int32 × zσ)
  | 0, _, _, _ => none
  | j + 1, x1, x2, s =>
    if x2 < x1 then
    if (s.1 1030 4) < (4000 : Int32) then
    yb1 (f83 n s) fun v2 u1 =>
    if v2 = (1 : Int32) then
    f82_30 n j x1 (x2 + (1 : Int32)) u1
    else some (v2, u1)
    else some ((-4 : Int32), s)
    else some ((1 : Int32), s)
set_option maxRecDepth 20000 in
theorem f82_30_ok {n d : Nat} (hd : 7 ≤ d) : ∀ (j : Nat) (x1 : Int32) (x2 : Int32) (s : zσ) (v : Int32) (s2 : zσ), f82_30 n j x1 x2 s = some (v, s2) → ∀ {w : zσ} {fz : Bool} {L : Nat} {xs : Nat → Int32}, zGo (zX fz L xs) d q_82 (30, [(0, .ref 1000), (1, .int x1), (2, .int x2)], [], zmk s w, 0, 0) (some (.int v), zmk s2 w, 0, 0) := by
  obtain ⟨d, rfl⟩ : ∃ d0, d = d0 + 1 := ⟨d - 1, by omega⟩
  intro j
  induction j with
  | zero => intro x1 x2 s v s2 h; cases h
  | succ j ih =>
    intro x1 x2 s v s2 h w fz L xs
    rw [f82_30] at h
    refine zGo_s (pc' := 31) (st' := [.int x2]) dd82_30 rfl ?_
    refine zGo_s (pc' := 32) (st' := [.int x1, .int x2]) dd82_31 rfl ?_
    rcases oite h with ⟨hc, h⟩ | ⟨hc, h⟩
    · refine zIF dd82_32 (kGeF hc) ?_
      refine zGo_s (pc' := 36) (st' := [.ref 1000]) dd82_35 rfl ?_
      refine cGF (e := 1007) dd82_36 rfl rfl rfl rfl rfl ?_
      refine cGF (e := 1030) dd82_39 rfl rfl rfl rfl rfl ?_
      refine cGI dd82_42 rfl rfl rfl rfl ?_
      refine zGo_s (pc' := 48) (st' := [.int (4000 : Int32), .int (s.1 1030 4)]) dd82_45 rfl ?_
      rcases oite h with ⟨hc, h⟩ | ⟨hc, h⟩
      · refine zIT dd82_48 rfl (kLtT hc) ?_
        refine zGo_s (pc' := 55) (st' := [.ref 1000]) dd82_54 rfl ?_
        refine cGF (e := 1007) dd82_55 rfl rfl rfl rfl rfl ?_
        obtain ⟨v2, u1, hq, h⟩ := obnd h
        refine zCV1 (As := []) (rest := []) (b := 1007) (q' := q_83) dd82_58 rfl rfl (rcv_c rfl rfl (by decide)) rfl rfl rfl (f83_ok (d := d) (by omega)  hq) ?_
        refine zGo_s (pc' := 62) (st' := []) (lv' := [(3, .int v2), (0, .ref 1000), (1, .int x1), (2, .int x2)]) dd82_61 rfl ?_
        refine zGo_s (pc' := 63) (st' := [.int v2]) dd82_62 rfl ?_
        refine zGo_s (pc' := 64) (st' := [.int (1 : Int32), .int v2]) dd82_63 rfl ?_
        rcases oite h with ⟨hc, h⟩ | ⟨hc, h⟩
        · refine zIT dd82_64 rfl (kEqT hc) ?_
          refine zGo_s (pc' := 72) (st' := []) (lv' := [(2, .int (x2 + (1 : Int32))), (3, .int v2), (0, .ref 1000), (1, .int x1)]) dd82_69 rfl ?_
          refine zGo_s (pc' := 30) (st' := []) dd82_72 rfl ?_
          exact zGo_lv (lv := [(0, .ref 1000), (1, .int x1), (2, .int (x2 + (1 : Int32)))]) ⟨by simp, by simp, by simp⟩ (ih _ _ _ _ _ h)
        · refine zIF dd82_64 (kEqF hc) ?_
          refine zGo_s (pc' := 68) (st' := [.int v2]) dd82_67 rfl ?_
          obtain ⟨rfl, rfl⟩ := oret h
          exact zGo_ret dd82_68 rfl rfl
      · refine zIF dd82_48 (kLtF hc) ?_
        refine zGo_s (pc' := 53) (st' := [.int (-4 : Int32)]) dd82_51 rfl ?_
        obtain ⟨rfl, rfl⟩ := oret h
        exact zGo_ret dd82_53 rfl rfl
    · refine zIT dd82_32 rfl (kGeT hc) ?_
      refine zGo_s (pc' := 76) (st' := [.int (1 : Int32)]) dd82_75 rfl ?_
      obtain ⟨rfl, rfl⟩ := oret h
      exact zGo_ret dd82_76 rfl rfl
def f82 (n : Nat) (x1 : Int32) (s : zσ) : Option (Int32 × zσ) :=
    if x1 < (1 : Int32) then
    some ((-2 : Int32), s)
    else if (500 : Int32) < x1 then
    some ((-2 : Int32), s)
    else if (s.1 1007 11) = (0 : Int32) then
    some ((-3 : Int32), s)
    else f82_30 n n x1 (0 : Int32) s
set_option maxRecDepth 20000 in
theorem f82_ok {n d : Nat} {x1 : Int32} {s : zσ} {v : Int32} {s2 : zσ} (hd : 7 ≤ d) (h : f82 n x1 s = some (v, s2)) {w : zσ} {fz : Bool} {L : Nat} {xs : Nat → Int32} : zGo (zX fz L xs) d q_82 (0, [(0, .ref 1000), (1, .int x1)], [], zmk s w, 0, 0) (some (.int v), zmk s2 w, 0, 0) := by
  obtain ⟨d, rfl⟩ : ∃ d0, d = d0 + 1 := ⟨d - 1, by omega⟩
  unfold f82 at h
  refine zGo_s (pc' := 1) (st' := [.int x1]) dd82_0 rfl ?_
  refine zGo_s (pc' := 2) (st' := [.int (1 : Int32), .int x1]) dd82_1 rfl ?_
  rcases oite h with ⟨hc, h⟩ | ⟨hc, h⟩
  · refine zIT dd82_2 rfl (kLtT hc) ?_
    refine zGo_s (pc' := 14) (st' := [.int (-2 : Int32)]) dd82_12 rfl ?_
    obtain ⟨rfl, rfl⟩ := oret h
    exact zGo_ret dd82_14 rfl rfl
  · refine zIF dd82_2 (kLtF hc) ?_
    refine zGo_s (pc' := 6) (st' := [.int x1]) dd82_5 rfl ?_
    refine zGo_s (pc' := 9) (st' := [.int (500 : Int32), .int x1]) dd82_6 rfl ?_
    rcases oite h with ⟨hc, h⟩ | ⟨hc, h⟩
    · refine zIF dd82_9 (kLeF hc) ?_
      refine zGo_s (pc' := 14) (st' := [.int (-2 : Int32)]) dd82_12 rfl ?_
      obtain ⟨rfl, rfl⟩ := oret h
      exact zGo_ret dd82_14 rfl rfl
    · refine zIT dd82_9 rfl (kLeT hc) ?_
      refine zGo_s (pc' := 16) (st' := [.ref 1000]) dd82_15 rfl ?_
      refine cGF (e := 1007) dd82_16 rfl rfl rfl rfl rfl ?_
      refine cGI dd82_19 rfl rfl rfl rfl ?_
      rcases oite h with ⟨hc, h⟩ | ⟨hc, h⟩
      · refine zUF dd82_22 (kNeF hc) ?_
        refine zGo_s (pc' := 27) (st' := [.int (-3 : Int32)]) dd82_25 rfl ?_
        obtain ⟨rfl, rfl⟩ := oret h
        exact zGo_ret dd82_27 rfl rfl
      · refine zUT dd82_22 rfl (kNeT hc) ?_
        refine zGo_s (pc' := 29) (st' := [.int (0 : Int32)]) dd82_28 rfl ?_
        refine zGo_s (pc' := 30) (st' := []) (lv' := [(2, .int (0 : Int32)), (0, .ref 1000), (1, .int x1)]) dd82_29 rfl ?_
        exact zGo_lv (lv := [(0, .ref 1000), (1, .int x1), (2, .int (0 : Int32))]) ⟨by simp, by simp, by simp⟩ (f82_30_ok hd _ _ _ _ _ _ h)
/-! PH$Text.has(II)Z -/
theorem dd134_0 : decode cX9_has 0 = .ok (.iload_n 2, 1) := by decide +kernel
theorem dd134_1 : decode cX9_has 1 = .ok (.ifCond .lt 17, 3) := by decide +kernel
theorem dd134_4 : decode cX9_has 4 = .ok (.iload_n 2, 1) := by decide +kernel
theorem dd134_5 : decode cX9_has 5 = .ok (.aload_n 0, 1) := by decide +kernel
theorem dd134_6 : decode cX9_has 6 = .ok (.getfield 16, 3) := by decide +kernel
theorem dd134_9 : decode cX9_has 9 = .ok (.iload_n 1, 1) := by decide +kernel
theorem dd134_10 : decode cX9_has 10 = .ok (.iaload, 1) := by decide +kernel
theorem dd134_11 : decode cX9_has 11 = .ok (.if_icmp .ge 7, 3) := by decide +kernel
theorem dd134_14 : decode cX9_has 14 = .ok (.iconst 1, 1) := by decide +kernel
theorem dd134_15 : decode cX9_has 15 = .ok (.goto 4, 3) := by decide +kernel
theorem dd134_18 : decode cX9_has 18 = .ok (.iconst 0, 1) := by decide +kernel
theorem dd134_19 : decode cX9_has 19 = .ok (.ireturn, 1) := by decide +kernel
def f134 (n : Nat) (x0 : Nat) (x1 : Int32) (x2 : Int32) (s : zσ) : Option (Int32 × zσ) :=
    if x2 < (0 : Int32) then
    some ((0 : Int32), s)
    else if zin? x1 9 = true then
    if x2 < (s.1 (x0 + 11) (nx x1)) then
    some ((1 : Int32), s)
    else some ((0 : Int32), s)
    else none
set_option maxRecDepth 20000 in
theorem f134_ok {n d : Nat} {x0 : Nat} {x1 : Int32} {x2 : Int32} {s : zσ} {v : Int32} {s2 : zσ} (hd : 0 ≤ d) (hx0 : zck 9 x0 = true) (h : f134 n x0 x1 x2 s = some (v, s2)) {w : zσ} {fz : Bool} {L : Nat} {xs : Nat → Int32} : zGo (zX fz L xs) d q_134 (0, [(0, .ref x0), (1, .int x1), (2, .int x2)], [], zmk s w, 0, 0) (some (.int v), zmk s2 w, 0, 0) := by
  unfold f134 at h
  refine zGo_s (pc' := 1) (st' := [.int x2]) dd134_0 rfl ?_
  rcases oite h with ⟨hc, h⟩ | ⟨hc, h⟩
  · refine zUT dd134_1 rfl (kLtT hc) ?_
    refine zGo_s (pc' := 19) (st' := [.int (0 : Int32)]) dd134_18 rfl ?_
    obtain ⟨rfl, rfl⟩ := oret h
    exact zGo_ret dd134_19 rfl rfl
  · refine zUF dd134_1 (kLtF hc) ?_
    refine zGo_s (pc' := 5) (st' := [.int x2]) dd134_4 rfl ?_
    refine zGo_s (pc' := 6) (st' := [.ref x0, .int x2]) dd134_5 rfl ?_
    refine cGF (e := (x0 + 11)) dd134_6 rfl (ck9_s hx0).1 (ck9_s hx0).2 rfl (cf9_1 hx0).1 ?_
    refine zGo_s (pc' := 10) (st' := [.int x1, .ref (x0 + 11), .int x2]) dd134_9 rfl ?_
    obtain ⟨hi, h⟩ := ochk h
    refine cIA dd134_10 (cf9_1 hx0).2.1 (cf9_1 hx0).2.2 hi ?_
    rcases oite h with ⟨hc, h⟩ | ⟨hc, h⟩
    · refine zIF dd134_11 (kGeF hc) ?_
      refine zGo_s (pc' := 15) (st' := [.int (1 : Int32)]) dd134_14 rfl ?_
      refine zGo_s (pc' := 19) (st' := [.int (1 : Int32)]) dd134_15 rfl ?_
      obtain ⟨rfl, rfl⟩ := oret h
      exact zGo_ret dd134_19 rfl rfl
    · refine zIT dd134_11 rfl (kGeT hc) ?_
      refine zGo_s (pc' := 19) (st' := [.int (0 : Int32)]) dd134_18 rfl ?_
      obtain ⟨rfl, rfl⟩ := oret h
      exact zGo_ret dd134_19 rfl rfl
/-! PH.trigger(I)I -/
theorem dd133_0 : decode cX11_trigger 0 = .ok (.aload_n 0, 1) := by decide +kernel
theorem dd133_1 : decode cX11_trigger 1 = .ok (.getfield 28, 3) := by decide +kernel
theorem dd133_4 : decode cX11_trigger 4 = .ok (.getfield 67, 3) := by decide +kernel
theorem dd133_7 : decode cX11_trigger 7 = .ok (.ifCond .ne 6, 3) := by decide +kernel
theorem dd133_10 : decode cX11_trigger 10 = .ok (.bipush (-3), 2) := by decide +kernel
theorem dd133_12 : decode cX11_trigger 12 = .ok (.ireturn, 1) := by decide +kernel
theorem dd133_13 : decode cX11_trigger 13 = .ok (.aload_n 0, 1) := by decide +kernel
theorem dd133_14 : decode cX11_trigger 14 = .ok (.getfield 35, 3) := by decide +kernel
theorem dd133_17 : decode cX11_trigger 17 = .ok (.iconst 4, 1) := by decide +kernel
theorem dd133_18 : decode cX11_trigger 18 = .ok (.iload_n 1, 1) := by decide +kernel
theorem dd133_19 : decode cX11_trigger 19 = .ok (.invokevirtual 111, 3) := by decide +kernel
theorem dd133_22 : decode cX11_trigger 22 = .ok (.ifCond .ne 5, 3) := by decide +kernel
theorem dd133_25 : decode cX11_trigger 25 = .ok (.iconst (-1), 1) := by decide +kernel
theorem dd133_26 : decode cX11_trigger 26 = .ok (.ireturn, 1) := by decide +kernel
theorem dd133_27 : decode cX11_trigger 27 = .ok (.aload_n 0, 1) := by decide +kernel
theorem dd133_28 : decode cX11_trigger 28 = .ok (.getfield 28, 3) := by decide +kernel
theorem dd133_31 : decode cX11_trigger 31 = .ok (.iload_n 1, 1) := by decide +kernel
theorem dd133_32 : decode cX11_trigger 32 = .ok (.invokevirtual 115, 3) := by decide +kernel
theorem dd133_35 : decode cX11_trigger 35 = .ok (.ireturn, 1) := by decide +kernel
def f133 (n : Nat) (x1 : Int32) (s : zσ) : Option (Int32 × zσ) :=
    if (s.1 1007 11) = (0 : Int32) then
    some ((-3 : Int32), s)
    else zrd 9 (s.2.2 1000 3) fun a1 =>
    yb1 (f134 n a1 (4 : Int32) x1 s) fun v3 u2 =>
    if v3 = (0 : Int32) then
    some ((-1 : Int32), u2)
    else yb1 (f121 n x1 u2) fun v5 u4 =>
    some (v5, u4)
set_option maxRecDepth 20000 in
theorem f133_ok {n d : Nat} {x1 : Int32} {s : zσ} {v : Int32} {s2 : zσ} (hd : 3 ≤ d) (h : f133 n x1 s = some (v, s2)) {w : zσ} {fz : Bool} {L : Nat} {xs : Nat → Int32} : zGo (zX fz L xs) d q_133 (0, [(0, .ref 1000), (1, .int x1)], [], zmk s w, 0, 0) (some (.int v), zmk s2 w, 0, 0) := by
  obtain ⟨d, rfl⟩ : ∃ d0, d = d0 + 1 := ⟨d - 1, by omega⟩
  unfold f133 at h
  refine zGo_s (pc' := 1) (st' := [.ref 1000]) dd133_0 rfl ?_
  refine cGF (e := 1007) dd133_1 rfl rfl rfl rfl rfl ?_
  refine cGI dd133_4 rfl rfl rfl rfl ?_
  rcases oite h with ⟨hc, h⟩ | ⟨hc, h⟩
  · refine zUF dd133_7 (kNeF hc) ?_
    refine zGo_s (pc' := 12) (st' := [.int (-3 : Int32)]) dd133_10 rfl ?_
    obtain ⟨rfl, rfl⟩ := oret h
    exact zGo_ret dd133_12 rfl rfl
  · refine zUT dd133_7 rfl (kNeT hc) ?_
    refine zGo_s (pc' := 14) (st' := [.ref 1000]) dd133_13 rfl ?_
    obtain ⟨a1, e_a1, c_a1, h⟩ := ordd h
    refine cGR dd133_14 rfl rfl rfl rfl e_a1 ?_
    refine zGo_s (pc' := 18) (st' := [.int (4 : Int32), .ref a1]) dd133_17 rfl ?_
    refine zGo_s (pc' := 19) (st' := [.int x1, .int (4 : Int32), .ref a1]) dd133_18 rfl ?_
    obtain ⟨v3, u2, hq, h⟩ := obnd h
    refine zCV1 (As := [.int (4 : Int32), .int x1]) (rest := []) (b := a1) (q' := q_134) dd133_19 rfl rfl (rcv_c (ck9_s c_a1).1 (ck9_s c_a1).2 (by decide)) rfl rfl rfl (f134_ok (d := d) (by omega) c_a1 hq) ?_
    rcases oite h with ⟨hc, h⟩ | ⟨hc, h⟩
    · refine zUF dd133_22 (kNeF hc) ?_
      refine zGo_s (pc' := 26) (st' := [.int (-1 : Int32)]) dd133_25 rfl ?_
      obtain ⟨rfl, rfl⟩ := oret h
      exact zGo_ret dd133_26 rfl rfl
    · refine zUT dd133_22 rfl (kNeT hc) ?_
      refine zGo_s (pc' := 28) (st' := [.ref 1000]) dd133_27 rfl ?_
      refine cGF (e := 1007) dd133_28 rfl rfl rfl rfl rfl ?_
      refine zGo_s (pc' := 32) (st' := [.int x1, .ref 1007]) dd133_31 rfl ?_
      obtain ⟨v5, u4, hq, h⟩ := obnd h
      refine zCV1 (As := [.int x1]) (rest := []) (b := 1007) (q' := q_121) dd133_32 rfl rfl (rcv_c rfl rfl (by decide)) rfl rfl rfl (f121_ok (d := d) (by omega)  hq) ?_
      obtain ⟨rfl, rfl⟩ := oret h
      exact zGo_ret dd133_35 rfl rfl
/-! PH$Gates.receive(II)V -/
theorem dd136_0 : decode cX2_receive 0 = .ok (.aload_n 0, 1) := by decide +kernel
theorem dd136_1 : decode cX2_receive 1 = .ok (.getfield 24, 3) := by decide +kernel
theorem dd136_4 : decode cX2_receive 4 = .ok (.iload_n 1, 1) := by decide +kernel
theorem dd136_5 : decode cX2_receive 5 = .ok (.iaload, 1) := by decide +kernel
theorem dd136_6 : decode cX2_receive 6 = .ok (.bipush 20, 2) := by decide +kernel
theorem dd136_8 : decode cX2_receive 8 = .ok (.if_icmp .ge 30, 3) := by decide +kernel
theorem dd136_11 : decode cX2_receive 11 = .ok (.aload_n 0, 1) := by decide +kernel
theorem dd136_12 : decode cX2_receive 12 = .ok (.getfield 21, 3) := by decide +kernel
theorem dd136_15 : decode cX2_receive 15 = .ok (.iload_n 1, 1) := by decide +kernel
theorem dd136_16 : decode cX2_receive 16 = .ok (.bipush 20, 2) := by decide +kernel
theorem dd136_18 : decode cX2_receive 18 = .ok (.imul, 1) := by decide +kernel
theorem dd136_19 : decode cX2_receive 19 = .ok (.aload_n 0, 1) := by decide +kernel
theorem dd136_20 : decode cX2_receive 20 = .ok (.getfield 24, 3) := by decide +kernel
theorem dd136_23 : decode cX2_receive 23 = .ok (.iload_n 1, 1) := by decide +kernel
theorem dd136_24 : decode cX2_receive 24 = .ok (.iaload, 1) := by decide +kernel
theorem dd136_25 : decode cX2_receive 25 = .ok (.iadd, 1) := by decide +kernel
theorem dd136_26 : decode cX2_receive 26 = .ok (.iload_n 2, 1) := by decide +kernel
theorem dd136_27 : decode cX2_receive 27 = .ok (.iastore, 1) := by decide +kernel
theorem dd136_28 : decode cX2_receive 28 = .ok (.aload_n 0, 1) := by decide +kernel
theorem dd136_29 : decode cX2_receive 29 = .ok (.getfield 24, 3) := by decide +kernel
theorem dd136_32 : decode cX2_receive 32 = .ok (.iload_n 1, 1) := by decide +kernel
theorem dd136_33 : decode cX2_receive 33 = .ok (.dup2, 1) := by decide +kernel
theorem dd136_34 : decode cX2_receive 34 = .ok (.iaload, 1) := by decide +kernel
theorem dd136_35 : decode cX2_receive 35 = .ok (.iconst 1, 1) := by decide +kernel
theorem dd136_36 : decode cX2_receive 36 = .ok (.iadd, 1) := by decide +kernel
theorem dd136_37 : decode cX2_receive 37 = .ok (.iastore, 1) := by decide +kernel
theorem dd136_38 : decode cX2_receive 38 = .ok (.return_, 1) := by decide +kernel
def f136 (n : Nat) (x1 : Int32) (x2 : Int32) (s : zσ) : Option zσ :=
    if zin? x1 4 = true then
    if (s.1 1019 (nx x1)) < (20 : Int32) then
    if zin? x1 4 = true then
    if zin? ((x1 * (20 : Int32)) + (s.1 1019 (nx x1))) 80 = true then
    zlet (sI s 1018 (nx ((x1 * (20 : Int32)) + (s.1 1019 (nx x1)))) x2) fun u1 =>
    if zin? x1 4 = true then
    if zin? x1 4 = true then
    zlet (sI u1 1019 (nx x1) ((u1.1 1019 (nx x1)) + (1 : Int32))) fun u2 =>
    some u2
    else none
    else none
    else none
    else none
    else some s
    else none
set_option maxRecDepth 20000 in
theorem f136_ok {n d : Nat} {x1 : Int32} {x2 : Int32} {s : zσ} {s2 : zσ} (hd : 0 ≤ d) (h : f136 n x1 x2 s = some s2) {w : zσ} {fz : Bool} {L : Nat} {xs : Nat → Int32} : zGo (zX fz L xs) d q_136 (0, [(0, .ref 1014), (1, .int x1), (2, .int x2)], [], zmk s w, 0, 0) (none, zmk s2 w, 0, 0) := by
  unfold f136 at h
  refine zGo_s (pc' := 1) (st' := [.ref 1014]) dd136_0 rfl ?_
  refine cGF (e := 1019) dd136_1 rfl rfl rfl rfl rfl ?_
  refine zGo_s (pc' := 5) (st' := [.int x1, .ref 1019]) dd136_4 rfl ?_
  obtain ⟨hi, h⟩ := ochk h
  refine cIA dd136_5 rfl rfl hi ?_
  refine zGo_s (pc' := 8) (st' := [.int (20 : Int32), .int (s.1 1019 (nx x1))]) dd136_6 rfl ?_
  rcases oite h with ⟨hc, h⟩ | ⟨hc, h⟩
  · refine zIF dd136_8 (kGeF hc) ?_
    refine zGo_s (pc' := 12) (st' := [.ref 1014]) dd136_11 rfl ?_
    refine cGF (e := 1018) dd136_12 rfl rfl rfl rfl rfl ?_
    refine zGo_s (pc' := 16) (st' := [.int x1, .ref 1018]) dd136_15 rfl ?_
    refine zGo_s (pc' := 18) (st' := [.int (20 : Int32), .int x1, .ref 1018]) dd136_16 rfl ?_
    refine zGo_s (pc' := 19) (st' := [.int (x1 * (20 : Int32)), .ref 1018]) dd136_18 rfl ?_
    refine zGo_s (pc' := 20) (st' := [.ref 1014, .int (x1 * (20 : Int32)), .ref 1018]) dd136_19 rfl ?_
    refine cGF (e := 1019) dd136_20 rfl rfl rfl rfl rfl ?_
    refine zGo_s (pc' := 24) (st' := [.int x1, .ref 1019, .int (x1 * (20 : Int32)), .ref 1018]) dd136_23 rfl ?_
    obtain ⟨hi, h⟩ := ochk h
    refine cIA dd136_24 rfl rfl hi ?_
    refine zGo_s (pc' := 26) (st' := [.int ((x1 * (20 : Int32)) + (s.1 1019 (nx x1))), .ref 1018]) dd136_25 rfl ?_
    refine zGo_s (pc' := 27) (st' := [.int x2, .int ((x1 * (20 : Int32)) + (s.1 1019 (nx x1))), .ref 1018]) dd136_26 rfl ?_
    obtain ⟨hi, h⟩ := ochk h
    obtain ⟨u1, e_u1, h⟩ := olet h
    refine cIS dd136_27 rfl rfl hi e_u1 ?_
    refine zGo_s (pc' := 29) (st' := [.ref 1014]) dd136_28 rfl ?_
    refine cGF (e := 1019) dd136_29 rfl rfl rfl rfl rfl ?_
    refine zGo_s (pc' := 33) (st' := [.int x1, .ref 1019]) dd136_32 rfl ?_
    refine zGo_s (pc' := 34) (st' := [.int x1, .ref 1019, .int x1, .ref 1019]) dd136_33 rfl ?_
    obtain ⟨hi, h⟩ := ochk h
    refine cIA dd136_34 rfl rfl hi ?_
    refine zGo_s (pc' := 36) (st' := [.int (1 : Int32), .int (u1.1 1019 (nx x1)), .int x1, .ref 1019]) dd136_35 rfl ?_
    refine zGo_s (pc' := 37) (st' := [.int ((u1.1 1019 (nx x1)) + (1 : Int32)), .int x1, .ref 1019]) dd136_36 rfl ?_
    obtain ⟨hi, h⟩ := ochk h
    obtain ⟨u2, e_u2, h⟩ := olet h
    refine cIS dd136_37 rfl rfl hi e_u2 ?_
    obtain rfl := ore0 h
    exact zGo_ret dd136_38 rfl rfl
  · refine zIT dd136_8 rfl (kGeT hc) ?_
    obtain rfl := ore0 h
    exact zGo_ret dd136_38 rfl rfl
/-! PH.send(II)I -/
theorem dd135_0 : decode cX11_send 0 = .ok (.aload_n 0, 1) := by decide +kernel
theorem dd135_1 : decode cX11_send 1 = .ok (.getfield 28, 3) := by decide +kernel
theorem dd135_4 : decode cX11_send 4 = .ok (.getfield 67, 3) := by decide +kernel
theorem dd135_7 : decode cX11_send 7 = .ok (.ifCond .ne 6, 3) := by decide +kernel
theorem dd135_10 : decode cX11_send 10 = .ok (.bipush (-3), 2) := by decide +kernel
theorem dd135_12 : decode cX11_send 12 = .ok (.ireturn, 1) := by decide +kernel
theorem dd135_13 : decode cX11_send 13 = .ok (.aload_n 0, 1) := by decide +kernel
theorem dd135_14 : decode cX11_send 14 = .ok (.getfield 35, 3) := by decide +kernel
theorem dd135_17 : decode cX11_send 17 = .ok (.iconst 5, 1) := by decide +kernel
theorem dd135_18 : decode cX11_send 18 = .ok (.iload_n 1, 1) := by decide +kernel
theorem dd135_19 : decode cX11_send 19 = .ok (.invokevirtual 111, 3) := by decide +kernel
theorem dd135_22 : decode cX11_send 22 = .ok (.ifCond .ne 5, 3) := by decide +kernel
theorem dd135_25 : decode cX11_send 25 = .ok (.iconst (-1), 1) := by decide +kernel
theorem dd135_26 : decode cX11_send 26 = .ok (.ireturn, 1) := by decide +kernel
theorem dd135_27 : decode cX11_send 27 = .ok (.aload_n 0, 1) := by decide +kernel
theorem dd135_28 : decode cX11_send 28 = .ok (.getfield 28, 3) := by decide +kernel
theorem dd135_31 : decode cX11_send 31 = .ok (.getfield 118, 3) := by decide +kernel
theorem dd135_34 : decode cX11_send 34 = .ok (.getfield 122, 3) := by decide +kernel
theorem dd135_37 : decode cX11_send 37 = .ok (.iload_n 1, 1) := by decide +kernel
theorem dd135_38 : decode cX11_send 38 = .ok (.iaload, 1) := by decide +kernel
theorem dd135_39 : decode cX11_send 39 = .ok (.bipush 20, 2) := by decide +kernel
theorem dd135_41 : decode cX11_send 41 = .ok (.if_icmp .lt 6, 3) := by decide +kernel
theorem dd135_44 : decode cX11_send 44 = .ok (.bipush (-4), 2) := by decide +kernel
theorem dd135_46 : decode cX11_send 46 = .ok (.ireturn, 1) := by decide +kernel
theorem dd135_47 : decode cX11_send 47 = .ok (.aload_n 0, 1) := by decide +kernel
theorem dd135_48 : decode cX11_send 48 = .ok (.getfield 28, 3) := by decide +kernel
theorem dd135_51 : decode cX11_send 51 = .ok (.getfield 118, 3) := by decide +kernel
theorem dd135_54 : decode cX11_send 54 = .ok (.iload_n 1, 1) := by decide +kernel
theorem dd135_55 : decode cX11_send 55 = .ok (.iload_n 2, 1) := by decide +kernel
theorem dd135_56 : decode cX11_send 56 = .ok (.invokevirtual 127, 3) := by decide +kernel
theorem dd135_59 : decode cX11_send 59 = .ok (.aload_n 0, 1) := by decide +kernel
theorem dd135_60 : decode cX11_send 60 = .ok (.getfield 28, 3) := by decide +kernel
theorem dd135_63 : decode cX11_send 63 = .ok (.invokevirtual 131, 3) := by decide +kernel
theorem dd135_66 : decode cX11_send 66 = .ok (.aload_n 0, 1) := by decide +kernel
theorem dd135_67 : decode cX11_send 67 = .ok (.getfield 28, 3) := by decide +kernel
theorem dd135_70 : decode cX11_send 70 = .ok (.getfield 118, 3) := by decide +kernel
theorem dd135_73 : decode cX11_send 73 = .ok (.getfield 122, 3) := by decide +kernel
theorem dd135_76 : decode cX11_send 76 = .ok (.iload_n 1, 1) := by decide +kernel
theorem dd135_77 : decode cX11_send 77 = .ok (.iaload, 1) := by decide +kernel
theorem dd135_78 : decode cX11_send 78 = .ok (.ireturn, 1) := by decide +kernel
def f135 (n : Nat) (x1 : Int32) (x2 : Int32) (s : zσ) : Option (Int32 × zσ) :=
    if (s.1 1007 11) = (0 : Int32) then
    some ((-3 : Int32), s)
    else zrd 9 (s.2.2 1000 3) fun a1 =>
    yb1 (f134 n a1 (5 : Int32) x1 s) fun v3 u2 =>
    if v3 = (0 : Int32) then
    some ((-1 : Int32), u2)
    else if zin? x1 4 = true then
    if (u2.1 1019 (nx x1)) < (20 : Int32) then
    yb0 (f136 n x1 x2 u2) fun u4 =>
    yb0 (f132 n u4) fun u5 =>
    if zin? x1 4 = true then
    some ((u5.1 1019 (nx x1)), u5)
    else none
    else some ((-4 : Int32), u2)
    else none
set_option maxRecDepth 20000 in
theorem f135_ok {n d : Nat} {x1 : Int32} {x2 : Int32} {s : zσ} {v : Int32} {s2 : zσ} (hd : 5 ≤ d) (h : f135 n x1 x2 s = some (v, s2)) {w : zσ} {fz : Bool} {L : Nat} {xs : Nat → Int32} : zGo (zX fz L xs) d q_135 (0, [(0, .ref 1000), (1, .int x1), (2, .int x2)], [], zmk s w, 0, 0) (some (.int v), zmk s2 w, 0, 0) := by
  obtain ⟨d, rfl⟩ : ∃ d0, d = d0 + 1 := ⟨d - 1, by omega⟩
  unfold f135 at h
  refine zGo_s (pc' := 1) (st' := [.ref 1000]) dd135_0 rfl ?_
  refine cGF (e := 1007) dd135_1 rfl rfl rfl rfl rfl ?_
  refine cGI dd135_4 rfl rfl rfl rfl ?_
  rcases oite h with ⟨hc, h⟩ | ⟨hc, h⟩
  · refine zUF dd135_7 (kNeF hc) ?_
    refine zGo_s (pc' := 12) (st' := [.int (-3 : Int32)]) dd135_10 rfl ?_
    obtain ⟨rfl, rfl⟩ := oret h
    exact zGo_ret dd135_12 rfl rfl
  · refine zUT dd135_7 rfl (kNeT hc) ?_
    refine zGo_s (pc' := 14) (st' := [.ref 1000]) dd135_13 rfl ?_
    obtain ⟨a1, e_a1, c_a1, h⟩ := ordd h
    refine cGR dd135_14 rfl rfl rfl rfl e_a1 ?_
    refine zGo_s (pc' := 18) (st' := [.int (5 : Int32), .ref a1]) dd135_17 rfl ?_
    refine zGo_s (pc' := 19) (st' := [.int x1, .int (5 : Int32), .ref a1]) dd135_18 rfl ?_
    obtain ⟨v3, u2, hq, h⟩ := obnd h
    refine zCV1 (As := [.int (5 : Int32), .int x1]) (rest := []) (b := a1) (q' := q_134) dd135_19 rfl rfl (rcv_c (ck9_s c_a1).1 (ck9_s c_a1).2 (by decide)) rfl rfl rfl (f134_ok (d := d) (by omega) c_a1 hq) ?_
    rcases oite h with ⟨hc, h⟩ | ⟨hc, h⟩
    · refine zUF dd135_22 (kNeF hc) ?_
      refine zGo_s (pc' := 26) (st' := [.int (-1 : Int32)]) dd135_25 rfl ?_
      obtain ⟨rfl, rfl⟩ := oret h
      exact zGo_ret dd135_26 rfl rfl
    · refine zUT dd135_22 rfl (kNeT hc) ?_
      refine zGo_s (pc' := 28) (st' := [.ref 1000]) dd135_27 rfl ?_
      refine cGF (e := 1007) dd135_28 rfl rfl rfl rfl rfl ?_
      refine cGF (e := 1014) dd135_31 rfl rfl rfl rfl rfl ?_
      refine cGF (e := 1019) dd135_34 rfl rfl rfl rfl rfl ?_
      refine zGo_s (pc' := 38) (st' := [.int x1, .ref 1019]) dd135_37 rfl ?_
      obtain ⟨hi, h⟩ := ochk h
      refine cIA dd135_38 rfl rfl hi ?_
      refine zGo_s (pc' := 41) (st' := [.int (20 : Int32), .int (u2.1 1019 (nx x1))]) dd135_39 rfl ?_
      rcases oite h with ⟨hc, h⟩ | ⟨hc, h⟩
      · refine zIT dd135_41 rfl (kLtT hc) ?_
        refine zGo_s (pc' := 48) (st' := [.ref 1000]) dd135_47 rfl ?_
        refine cGF (e := 1007) dd135_48 rfl rfl rfl rfl rfl ?_
        refine cGF (e := 1014) dd135_51 rfl rfl rfl rfl rfl ?_
        refine zGo_s (pc' := 55) (st' := [.int x1, .ref 1014]) dd135_54 rfl ?_
        refine zGo_s (pc' := 56) (st' := [.int x2, .int x1, .ref 1014]) dd135_55 rfl ?_
        obtain ⟨u4, hq, h⟩ := obn0 h
        refine zCV0 (As := [.int x1, .int x2]) (rest := []) (b := 1014) (q' := q_136) dd135_56 rfl rfl (rcv_c rfl rfl (by decide)) rfl rfl rfl (f136_ok (d := d) (by omega)  hq) ?_
        refine zGo_s (pc' := 60) (st' := [.ref 1000]) dd135_59 rfl ?_
        refine cGF (e := 1007) dd135_60 rfl rfl rfl rfl rfl ?_
        obtain ⟨u5, hq, h⟩ := obn0 h
        refine zCV0 (As := []) (rest := []) (b := 1007) (q' := q_132) dd135_63 rfl rfl (rcv_c rfl rfl (by decide)) rfl rfl rfl (f132_ok (d := d) (by omega)  hq) ?_
        refine zGo_s (pc' := 67) (st' := [.ref 1000]) dd135_66 rfl ?_
        refine cGF (e := 1007) dd135_67 rfl rfl rfl rfl rfl ?_
        refine cGF (e := 1014) dd135_70 rfl rfl rfl rfl rfl ?_
        refine cGF (e := 1019) dd135_73 rfl rfl rfl rfl rfl ?_
        refine zGo_s (pc' := 77) (st' := [.int x1, .ref 1019]) dd135_76 rfl ?_
        obtain ⟨hi, h⟩ := ochk h
        refine cIA dd135_77 rfl rfl hi ?_
        obtain ⟨rfl, rfl⟩ := oret h
        exact zGo_ret dd135_78 rfl rfl
      · refine zIF dd135_41 (kLtF hc) ?_
        refine zGo_s (pc' := 46) (st' := [.int (-4 : Int32)]) dd135_44 rfl ?_
        obtain ⟨rfl, rfl⟩ := oret h
        exact zGo_ret dd135_46 rfl rfl
/-! PH$Task.tell(I)I -/
theorem dd138_0 : decode cX8_tell 0 = .ok (.iload_n 1, 1) := by decide +kernel
theorem dd138_1 : decode cX8_tell 1 = .ok (.tableswitch 123 0 8 #[51, 56, 72, 93, 98, 103, 108, 113, 118], 51) := by decide +kernel
theorem dd138_52 : decode cX8_tell 52 = .ok (.aload_n 0, 1) := by decide +kernel
theorem dd138_53 : decode cX8_tell 53 = .ok (.getfield 18, 3) := by decide +kernel
theorem dd138_56 : decode cX8_tell 56 = .ok (.ireturn, 1) := by decide +kernel
theorem dd138_57 : decode cX8_tell 57 = .ok (.aload_n 0, 1) := by decide +kernel
theorem dd138_58 : decode cX8_tell 58 = .ok (.getfield 18, 3) := by decide +kernel
theorem dd138_61 : decode cX8_tell 61 = .ok (.ifCond .ne 7, 3) := by decide +kernel
theorem dd138_64 : decode cX8_tell 64 = .ok (.iconst 0, 1) := by decide +kernel
theorem dd138_65 : decode cX8_tell 65 = .ok (.goto 7, 3) := by decide +kernel
theorem dd138_68 : decode cX8_tell 68 = .ok (.aload_n 0, 1) := by decide +kernel
theorem dd138_69 : decode cX8_tell 69 = .ok (.getfield 22, 3) := by decide +kernel
theorem dd138_72 : decode cX8_tell 72 = .ok (.ireturn, 1) := by decide +kernel
theorem dd138_73 : decode cX8_tell 73 = .ok (.aload_n 0, 1) := by decide +kernel
theorem dd138_74 : decode cX8_tell 74 = .ok (.getfield 18, 3) := by decide +kernel
theorem dd138_77 : decode cX8_tell 77 = .ok (.ifCond .ne 7, 3) := by decide +kernel
theorem dd138_80 : decode cX8_tell 80 = .ok (.iconst (-1), 1) := by decide +kernel
theorem dd138_81 : decode cX8_tell 81 = .ok (.goto 12, 3) := by decide +kernel
theorem dd138_84 : decode cX8_tell 84 = .ok (.aload_n 0, 1) := by decide +kernel
theorem dd138_85 : decode cX8_tell 85 = .ok (.getfield 9, 3) := by decide +kernel
theorem dd138_88 : decode cX8_tell 88 = .ok (.aload_n 0, 1) := by decide +kernel
theorem dd138_89 : decode cX8_tell 89 = .ok (.getfield 40, 3) := by decide +kernel
theorem dd138_92 : decode cX8_tell 92 = .ok (.iaload, 1) := by decide +kernel
theorem dd138_93 : decode cX8_tell 93 = .ok (.ireturn, 1) := by decide +kernel
theorem dd138_94 : decode cX8_tell 94 = .ok (.aload_n 0, 1) := by decide +kernel
theorem dd138_95 : decode cX8_tell 95 = .ok (.getfield 25, 3) := by decide +kernel
theorem dd138_98 : decode cX8_tell 98 = .ok (.ireturn, 1) := by decide +kernel
theorem dd138_99 : decode cX8_tell 99 = .ok (.aload_n 0, 1) := by decide +kernel
theorem dd138_100 : decode cX8_tell 100 = .ok (.getfield 28, 3) := by decide +kernel
theorem dd138_103 : decode cX8_tell 103 = .ok (.ireturn, 1) := by decide +kernel
theorem dd138_104 : decode cX8_tell 104 = .ok (.aload_n 0, 1) := by decide +kernel
theorem dd138_105 : decode cX8_tell 105 = .ok (.getfield 31, 3) := by decide +kernel
theorem dd138_108 : decode cX8_tell 108 = .ok (.ireturn, 1) := by decide +kernel
theorem dd138_109 : decode cX8_tell 109 = .ok (.aload_n 0, 1) := by decide +kernel
theorem dd138_110 : decode cX8_tell 110 = .ok (.getfield 34, 3) := by decide +kernel
theorem dd138_113 : decode cX8_tell 113 = .ok (.ireturn, 1) := by decide +kernel
theorem dd138_114 : decode cX8_tell 114 = .ok (.aload_n 0, 1) := by decide +kernel
theorem dd138_115 : decode cX8_tell 115 = .ok (.getfield 37, 3) := by decide +kernel
theorem dd138_118 : decode cX8_tell 118 = .ok (.ireturn, 1) := by decide +kernel
theorem dd138_119 : decode cX8_tell 119 = .ok (.aload_n 0, 1) := by decide +kernel
theorem dd138_120 : decode cX8_tell 120 = .ok (.getfield 40, 3) := by decide +kernel
theorem dd138_123 : decode cX8_tell 123 = .ok (.ireturn, 1) := by decide +kernel
theorem dd138_124 : decode cX8_tell 124 = .ok (.bipush (-2), 2) := by decide +kernel
theorem dd138_126 : decode cX8_tell 126 = .ok (.ireturn, 1) := by decide +kernel
def f138 (n : Nat) (x0 : Nat) (x1 : Int32) (s : zσ) : Option (Int32 × zσ) :=
    if x1 = (0 : Int32) then
    some ((s.1 x0 3), s)
    else if x1 = (1 : Int32) then
    if (s.1 x0 3) = (0 : Int32) then
    some ((0 : Int32), s)
    else some ((s.1 x0 4), s)
    else if x1 = (2 : Int32) then
    if (s.1 x0 3) = (0 : Int32) then
    some ((-1 : Int32), s)
    else if zin? (s.1 x0 10) 9 = true then
    some ((s.1 (x0 + 1) (nx (s.1 x0 10))), s)
    else none
    else if x1 = (3 : Int32) then
    some ((s.1 x0 5), s)
    else if x1 = (4 : Int32) then
    some ((s.1 x0 6), s)
    else if x1 = (5 : Int32) then
    some ((s.1 x0 7), s)
    else if x1 = (6 : Int32) then
    some ((s.1 x0 8), s)
    else if x1 = (7 : Int32) then
    some ((s.1 x0 9), s)
    else if x1 = (8 : Int32) then
    some ((s.1 x0 10), s)
    else some ((-2 : Int32), s)
set_option maxRecDepth 20000 in
theorem f138_ok {n d : Nat} {x0 : Nat} {x1 : Int32} {s : zσ} {v : Int32} {s2 : zσ} (hd : 0 ≤ d) (hx0 : zck 8 x0 = true) (h : f138 n x0 x1 s = some (v, s2)) {w : zσ} {fz : Bool} {L : Nat} {xs : Nat → Int32} : zGo (zX fz L xs) d q_138 (0, [(0, .ref x0), (1, .int x1)], [], zmk s w, 0, 0) (some (.int v), zmk s2 w, 0, 0) := by
  unfold f138 at h
  refine zGo_s (pc' := 1) (st' := [.int x1]) dd138_0 rfl ?_
  rcases oite h with ⟨hc, h⟩ | ⟨hn0, h⟩
  · refine zGo_sw dd138_1 (o := 51) (by rw [hc]; decide +kernel) rfl ?_
    refine zGo_s (pc' := 53) (st' := [.ref x0]) dd138_52 rfl ?_
    refine cGI dd138_53 rfl (ck8_s hx0).1 (ck8_s hx0).2 rfl ?_
    obtain ⟨rfl, rfl⟩ := oret h
    exact zGo_ret dd138_56 rfl rfl
  rcases oite h with ⟨hc, h⟩ | ⟨hn1, h⟩
  · refine zGo_sw dd138_1 (o := 56) (by rw [hc]; decide +kernel) rfl ?_
    refine zGo_s (pc' := 58) (st' := [.ref x0]) dd138_57 rfl ?_
    refine cGI dd138_58 rfl (ck8_s hx0).1 (ck8_s hx0).2 rfl ?_
    rcases oite h with ⟨hc, h⟩ | ⟨hc, h⟩
    · refine zUF dd138_61 (kNeF hc) ?_
      refine zGo_s (pc' := 65) (st' := [.int (0 : Int32)]) dd138_64 rfl ?_
      refine zGo_s (pc' := 72) (st' := [.int (0 : Int32)]) dd138_65 rfl ?_
      obtain ⟨rfl, rfl⟩ := oret h
      exact zGo_ret dd138_72 rfl rfl
    · refine zUT dd138_61 rfl (kNeT hc) ?_
      refine zGo_s (pc' := 69) (st' := [.ref x0]) dd138_68 rfl ?_
      refine cGI dd138_69 rfl (ck8_s hx0).1 (ck8_s hx0).2 rfl ?_
      obtain ⟨rfl, rfl⟩ := oret h
      exact zGo_ret dd138_72 rfl rfl
  rcases oite h with ⟨hc, h⟩ | ⟨hn2, h⟩
  · refine zGo_sw dd138_1 (o := 72) (by rw [hc]; decide +kernel) rfl ?_
    refine zGo_s (pc' := 74) (st' := [.ref x0]) dd138_73 rfl ?_
    refine cGI dd138_74 rfl (ck8_s hx0).1 (ck8_s hx0).2 rfl ?_
    rcases oite h with ⟨hc, h⟩ | ⟨hc, h⟩
    · refine zUF dd138_77 (kNeF hc) ?_
      refine zGo_s (pc' := 81) (st' := [.int (-1 : Int32)]) dd138_80 rfl ?_
      refine zGo_s (pc' := 93) (st' := [.int (-1 : Int32)]) dd138_81 rfl ?_
      obtain ⟨rfl, rfl⟩ := oret h
      exact zGo_ret dd138_93 rfl rfl
    · refine zUT dd138_77 rfl (kNeT hc) ?_
      refine zGo_s (pc' := 85) (st' := [.ref x0]) dd138_84 rfl ?_
      refine cGF (e := (x0 + 1)) dd138_85 rfl (ck8_s hx0).1 (ck8_s hx0).2 rfl (cf8_1 hx0).1 ?_
      refine zGo_s (pc' := 89) (st' := [.ref x0, .ref (x0 + 1)]) dd138_88 rfl ?_
      refine cGI dd138_89 rfl (ck8_s hx0).1 (ck8_s hx0).2 rfl ?_
      obtain ⟨hi, h⟩ := ochk h
      refine cIA dd138_92 (cf8_1 hx0).2.1 (cf8_1 hx0).2.2 hi ?_
      obtain ⟨rfl, rfl⟩ := oret h
      exact zGo_ret dd138_93 rfl rfl
  rcases oite h with ⟨hc, h⟩ | ⟨hn3, h⟩
  · refine zGo_sw dd138_1 (o := 93) (by rw [hc]; decide +kernel) rfl ?_
    refine zGo_s (pc' := 95) (st' := [.ref x0]) dd138_94 rfl ?_
    refine cGI dd138_95 rfl (ck8_s hx0).1 (ck8_s hx0).2 rfl ?_
    obtain ⟨rfl, rfl⟩ := oret h
    exact zGo_ret dd138_98 rfl rfl
  rcases oite h with ⟨hc, h⟩ | ⟨hn4, h⟩
  · refine zGo_sw dd138_1 (o := 98) (by rw [hc]; decide +kernel) rfl ?_
    refine zGo_s (pc' := 100) (st' := [.ref x0]) dd138_99 rfl ?_
    refine cGI dd138_100 rfl (ck8_s hx0).1 (ck8_s hx0).2 rfl ?_
    obtain ⟨rfl, rfl⟩ := oret h
    exact zGo_ret dd138_103 rfl rfl
  rcases oite h with ⟨hc, h⟩ | ⟨hn5, h⟩
  · refine zGo_sw dd138_1 (o := 103) (by rw [hc]; decide +kernel) rfl ?_
    refine zGo_s (pc' := 105) (st' := [.ref x0]) dd138_104 rfl ?_
    refine cGI dd138_105 rfl (ck8_s hx0).1 (ck8_s hx0).2 rfl ?_
    obtain ⟨rfl, rfl⟩ := oret h
    exact zGo_ret dd138_108 rfl rfl
  rcases oite h with ⟨hc, h⟩ | ⟨hn6, h⟩
  · refine zGo_sw dd138_1 (o := 108) (by rw [hc]; decide +kernel) rfl ?_
    refine zGo_s (pc' := 110) (st' := [.ref x0]) dd138_109 rfl ?_
    refine cGI dd138_110 rfl (ck8_s hx0).1 (ck8_s hx0).2 rfl ?_
    obtain ⟨rfl, rfl⟩ := oret h
    exact zGo_ret dd138_113 rfl rfl
  rcases oite h with ⟨hc, h⟩ | ⟨hn7, h⟩
  · refine zGo_sw dd138_1 (o := 113) (by rw [hc]; decide +kernel) rfl ?_
    refine zGo_s (pc' := 115) (st' := [.ref x0]) dd138_114 rfl ?_
    refine cGI dd138_115 rfl (ck8_s hx0).1 (ck8_s hx0).2 rfl ?_
    obtain ⟨rfl, rfl⟩ := oret h
    exact zGo_ret dd138_118 rfl rfl
  rcases oite h with ⟨hc, h⟩ | ⟨hn8, h⟩
  · refine zGo_sw dd138_1 (o := 118) (by rw [hc]; decide +kernel) rfl ?_
    refine zGo_s (pc' := 120) (st' := [.ref x0]) dd138_119 rfl ?_
    refine cGI dd138_120 rfl (ck8_s hx0).1 (ck8_s hx0).2 rfl ?_
    obtain ⟨rfl, rfl⟩ := oret h
    exact zGo_ret dd138_123 rfl rfl
  refine zGo_sw dd138_1 (o := 123) (zto_d (by decide) (by decide) fun k hk => ?_) rfl ?_
  · have hk2 : k = 0 ∨ k = 1 ∨ k = 2 ∨ k = 3 ∨ k = 4 ∨ k = 5 ∨ k = 6 ∨ k = 7 ∨ k = 8 := by omega
    rcases hk2 with rfl | rfl | rfl | rfl | rfl | rfl | rfl | rfl | rfl
    · exact Or.inr hn0
    · exact Or.inr hn1
    · exact Or.inr hn2
    · exact Or.inr hn3
    · exact Or.inr hn4
    · exact Or.inr hn5
    · exact Or.inr hn6
    · exact Or.inr hn7
    · exact Or.inr hn8
  refine zGo_s (pc' := 126) (st' := [.int (-2 : Int32)]) dd138_124 rfl ?_
  obtain ⟨rfl, rfl⟩ := oret h
  exact zGo_ret dd138_126 rfl rfl
/-! PH.task(II)I -/
theorem dd137_0 : decode cX11_task 0 = .ok (.aload_n 0, 1) := by decide +kernel
theorem dd137_1 : decode cX11_task 1 = .ok (.getfield 28, 3) := by decide +kernel
theorem dd137_4 : decode cX11_task 4 = .ok (.getfield 67, 3) := by decide +kernel
theorem dd137_7 : decode cX11_task 7 = .ok (.ifCond .ne 6, 3) := by decide +kernel
theorem dd137_10 : decode cX11_task 10 = .ok (.bipush (-3), 2) := by decide +kernel
theorem dd137_12 : decode cX11_task 12 = .ok (.ireturn, 1) := by decide +kernel
theorem dd137_13 : decode cX11_task 13 = .ok (.aload_n 0, 1) := by decide +kernel
theorem dd137_14 : decode cX11_task 14 = .ok (.getfield 35, 3) := by decide +kernel
theorem dd137_17 : decode cX11_task 17 = .ok (.bipush 8, 2) := by decide +kernel
theorem dd137_19 : decode cX11_task 19 = .ok (.iload_n 1, 1) := by decide +kernel
theorem dd137_20 : decode cX11_task 20 = .ok (.invokevirtual 111, 3) := by decide +kernel
theorem dd137_23 : decode cX11_task 23 = .ok (.ifCond .ne 5, 3) := by decide +kernel
theorem dd137_26 : decode cX11_task 26 = .ok (.iconst (-1), 1) := by decide +kernel
theorem dd137_27 : decode cX11_task 27 = .ok (.ireturn, 1) := by decide +kernel
theorem dd137_28 : decode cX11_task 28 = .ok (.aload_n 0, 1) := by decide +kernel
theorem dd137_29 : decode cX11_task 29 = .ok (.getfield 28, 3) := by decide +kernel
theorem dd137_32 : decode cX11_task 32 = .ok (.getfield 134, 3) := by decide +kernel
theorem dd137_35 : decode cX11_task 35 = .ok (.iload_n 1, 1) := by decide +kernel
theorem dd137_36 : decode cX11_task 36 = .ok (.aaload, 1) := by decide +kernel
theorem dd137_37 : decode cX11_task 37 = .ok (.iload_n 2, 1) := by decide +kernel
theorem dd137_38 : decode cX11_task 38 = .ok (.invokevirtual 138, 3) := by decide +kernel
theorem dd137_41 : decode cX11_task 41 = .ok (.ireturn, 1) := by decide +kernel
def f137 (n : Nat) (x1 : Int32) (x2 : Int32) (s : zσ) : Option (Int32 × zσ) :=
    if (s.1 1007 11) = (0 : Int32) then
    some ((-3 : Int32), s)
    else zrd 9 (s.2.2 1000 3) fun a1 =>
    yb1 (f134 n a1 (8 : Int32) x1 s) fun v3 u2 =>
    if v3 = (0 : Int32) then
    some ((-1 : Int32), u2)
    else if zin? x1 8 = true then
    zrd 8 (u2.2.2 1008 (nx x1)) fun a4 =>
    yb1 (f138 n a4 x2 u2) fun v6 u5 =>
    some (v6, u5)
    else none
set_option maxRecDepth 20000 in
theorem f137_ok {n d : Nat} {x1 : Int32} {x2 : Int32} {s : zσ} {v : Int32} {s2 : zσ} (hd : 1 ≤ d) (h : f137 n x1 x2 s = some (v, s2)) {w : zσ} {fz : Bool} {L : Nat} {xs : Nat → Int32} : zGo (zX fz L xs) d q_137 (0, [(0, .ref 1000), (1, .int x1), (2, .int x2)], [], zmk s w, 0, 0) (some (.int v), zmk s2 w, 0, 0) := by
  obtain ⟨d, rfl⟩ : ∃ d0, d = d0 + 1 := ⟨d - 1, by omega⟩
  unfold f137 at h
  refine zGo_s (pc' := 1) (st' := [.ref 1000]) dd137_0 rfl ?_
  refine cGF (e := 1007) dd137_1 rfl rfl rfl rfl rfl ?_
  refine cGI dd137_4 rfl rfl rfl rfl ?_
  rcases oite h with ⟨hc, h⟩ | ⟨hc, h⟩
  · refine zUF dd137_7 (kNeF hc) ?_
    refine zGo_s (pc' := 12) (st' := [.int (-3 : Int32)]) dd137_10 rfl ?_
    obtain ⟨rfl, rfl⟩ := oret h
    exact zGo_ret dd137_12 rfl rfl
  · refine zUT dd137_7 rfl (kNeT hc) ?_
    refine zGo_s (pc' := 14) (st' := [.ref 1000]) dd137_13 rfl ?_
    obtain ⟨a1, e_a1, c_a1, h⟩ := ordd h
    refine cGR dd137_14 rfl rfl rfl rfl e_a1 ?_
    refine zGo_s (pc' := 19) (st' := [.int (8 : Int32), .ref a1]) dd137_17 rfl ?_
    refine zGo_s (pc' := 20) (st' := [.int x1, .int (8 : Int32), .ref a1]) dd137_19 rfl ?_
    obtain ⟨v3, u2, hq, h⟩ := obnd h
    refine zCV1 (As := [.int (8 : Int32), .int x1]) (rest := []) (b := a1) (q' := q_134) dd137_20 rfl rfl (rcv_c (ck9_s c_a1).1 (ck9_s c_a1).2 (by decide)) rfl rfl rfl (f134_ok (d := d) (by omega) c_a1 hq) ?_
    rcases oite h with ⟨hc, h⟩ | ⟨hc, h⟩
    · refine zUF dd137_23 (kNeF hc) ?_
      refine zGo_s (pc' := 27) (st' := [.int (-1 : Int32)]) dd137_26 rfl ?_
      obtain ⟨rfl, rfl⟩ := oret h
      exact zGo_ret dd137_27 rfl rfl
    · refine zUT dd137_23 rfl (kNeT hc) ?_
      refine zGo_s (pc' := 29) (st' := [.ref 1000]) dd137_28 rfl ?_
      refine cGF (e := 1007) dd137_29 rfl rfl rfl rfl rfl ?_
      refine cGF (e := 1008) dd137_32 rfl rfl rfl rfl rfl ?_
      refine zGo_s (pc' := 36) (st' := [.int x1, .ref 1008]) dd137_35 rfl ?_
      obtain ⟨hi, h⟩ := ochk h
      obtain ⟨a4, e_a4, c_a4, h⟩ := ordd h
      refine cAA dd137_36 rfl rfl (Or.inl rfl) hi e_a4 ?_
      refine zGo_s (pc' := 38) (st' := [.int x2, .ref a4]) dd137_37 rfl ?_
      obtain ⟨v6, u5, hq, h⟩ := obnd h
      refine zCV1 (As := [.int x2]) (rest := []) (b := a4) (q' := q_138) dd137_38 rfl rfl (rcv_c (ck8_s c_a4).1 (ck8_s c_a4).2 (by decide)) rfl rfl rfl (f138_ok (d := d) (by omega) c_a4 hq) ?_
      obtain ⟨rfl, rfl⟩ := oret h
      exact zGo_ret dd137_41 rfl rfl
/-! PH.value(I)I -/
theorem dd139_0 : decode cX11_value 0 = .ok (.aload_n 0, 1) := by decide +kernel
theorem dd139_1 : decode cX11_value 1 = .ok (.getfield 28, 3) := by decide +kernel
theorem dd139_4 : decode cX11_value 4 = .ok (.getfield 67, 3) := by decide +kernel
theorem dd139_7 : decode cX11_value 7 = .ok (.ifCond .eq 30, 3) := by decide +kernel
theorem dd139_10 : decode cX11_value 10 = .ok (.aload_n 0, 1) := by decide +kernel
theorem dd139_11 : decode cX11_value 11 = .ok (.getfield 35, 3) := by decide +kernel
theorem dd139_14 : decode cX11_value 14 = .ok (.iconst 0, 1) := by decide +kernel
theorem dd139_15 : decode cX11_value 15 = .ok (.iload_n 1, 1) := by decide +kernel
theorem dd139_16 : decode cX11_value 16 = .ok (.invokevirtual 111, 3) := by decide +kernel
theorem dd139_19 : decode cX11_value 19 = .ok (.ifCond .eq 18, 3) := by decide +kernel
theorem dd139_22 : decode cX11_value 22 = .ok (.aload_n 0, 1) := by decide +kernel
theorem dd139_23 : decode cX11_value 23 = .ok (.getfield 28, 3) := by decide +kernel
theorem dd139_26 : decode cX11_value 26 = .ok (.getfield 143, 3) := by decide +kernel
theorem dd139_29 : decode cX11_value 29 = .ok (.getfield 147, 3) := by decide +kernel
theorem dd139_32 : decode cX11_value 32 = .ok (.iload_n 1, 1) := by decide +kernel
theorem dd139_33 : decode cX11_value 33 = .ok (.iaload, 1) := by decide +kernel
theorem dd139_34 : decode cX11_value 34 = .ok (.goto 4, 3) := by decide +kernel
theorem dd139_37 : decode cX11_value 37 = .ok (.iconst 0, 1) := by decide +kernel
theorem dd139_38 : decode cX11_value 38 = .ok (.ireturn, 1) := by decide +kernel
def f139 (n : Nat) (x1 : Int32) (s : zσ) : Option (Int32 × zσ) :=
    if (s.1 1007 11) = (0 : Int32) then
    some ((0 : Int32), s)
    else zrd 9 (s.2.2 1000 3) fun a1 =>
    yb1 (f134 n a1 (0 : Int32) x1 s) fun v3 u2 =>
    if v3 = (0 : Int32) then
    some ((0 : Int32), u2)
    else if zin? x1 8 = true then
    some ((u2.1 1010 (nx x1)), u2)
    else none
set_option maxRecDepth 20000 in
theorem f139_ok {n d : Nat} {x1 : Int32} {s : zσ} {v : Int32} {s2 : zσ} (hd : 1 ≤ d) (h : f139 n x1 s = some (v, s2)) {w : zσ} {fz : Bool} {L : Nat} {xs : Nat → Int32} : zGo (zX fz L xs) d q_139 (0, [(0, .ref 1000), (1, .int x1)], [], zmk s w, 0, 0) (some (.int v), zmk s2 w, 0, 0) := by
  obtain ⟨d, rfl⟩ : ∃ d0, d = d0 + 1 := ⟨d - 1, by omega⟩
  unfold f139 at h
  refine zGo_s (pc' := 1) (st' := [.ref 1000]) dd139_0 rfl ?_
  refine cGF (e := 1007) dd139_1 rfl rfl rfl rfl rfl ?_
  refine cGI dd139_4 rfl rfl rfl rfl ?_
  rcases oite h with ⟨hc, h⟩ | ⟨hc, h⟩
  · refine zUT dd139_7 rfl (kEqT hc) ?_
    refine zGo_s (pc' := 38) (st' := [.int (0 : Int32)]) dd139_37 rfl ?_
    obtain ⟨rfl, rfl⟩ := oret h
    exact zGo_ret dd139_38 rfl rfl
  · refine zUF dd139_7 (kEqF hc) ?_
    refine zGo_s (pc' := 11) (st' := [.ref 1000]) dd139_10 rfl ?_
    obtain ⟨a1, e_a1, c_a1, h⟩ := ordd h
    refine cGR dd139_11 rfl rfl rfl rfl e_a1 ?_
    refine zGo_s (pc' := 15) (st' := [.int (0 : Int32), .ref a1]) dd139_14 rfl ?_
    refine zGo_s (pc' := 16) (st' := [.int x1, .int (0 : Int32), .ref a1]) dd139_15 rfl ?_
    obtain ⟨v3, u2, hq, h⟩ := obnd h
    refine zCV1 (As := [.int (0 : Int32), .int x1]) (rest := []) (b := a1) (q' := q_134) dd139_16 rfl rfl (rcv_c (ck9_s c_a1).1 (ck9_s c_a1).2 (by decide)) rfl rfl rfl (f134_ok (d := d) (by omega) c_a1 hq) ?_
    rcases oite h with ⟨hc, h⟩ | ⟨hc, h⟩
    · refine zUT dd139_19 rfl (kEqT hc) ?_
      refine zGo_s (pc' := 38) (st' := [.int (0 : Int32)]) dd139_37 rfl ?_
      obtain ⟨rfl, rfl⟩ := oret h
      exact zGo_ret dd139_38 rfl rfl
    · refine zUF dd139_19 (kEqF hc) ?_
      refine zGo_s (pc' := 23) (st' := [.ref 1000]) dd139_22 rfl ?_
      refine cGF (e := 1007) dd139_23 rfl rfl rfl rfl rfl ?_
      refine cGF (e := 1009) dd139_26 rfl rfl rfl rfl rfl ?_
      refine cGF (e := 1010) dd139_29 rfl rfl rfl rfl rfl ?_
      refine zGo_s (pc' := 33) (st' := [.int x1, .ref 1010]) dd139_32 rfl ?_
      obtain ⟨hi, h⟩ := ochk h
      refine cIA dd139_33 rfl rfl hi ?_
      refine zGo_s (pc' := 38) (st' := [.int (u2.1 1010 (nx x1))]) dd139_34 rfl ?_
      obtain ⟨rfl, rfl⟩ := oret h
      exact zGo_ret dd139_38 rfl rfl
/-! PH.item(II)I -/
theorem dd140_0 : decode cX11_item 0 = .ok (.aload_n 0, 1) := by decide +kernel
theorem dd140_1 : decode cX11_item 1 = .ok (.getfield 28, 3) := by decide +kernel
theorem dd140_4 : decode cX11_item 4 = .ok (.getfield 67, 3) := by decide +kernel
theorem dd140_7 : decode cX11_item 7 = .ok (.ifCond .eq 15, 3) := by decide +kernel
theorem dd140_10 : decode cX11_item 10 = .ok (.aload_n 0, 1) := by decide +kernel
theorem dd140_11 : decode cX11_item 11 = .ok (.getfield 35, 3) := by decide +kernel
theorem dd140_14 : decode cX11_item 14 = .ok (.iconst 1, 1) := by decide +kernel
theorem dd140_15 : decode cX11_item 15 = .ok (.iload_n 1, 1) := by decide +kernel
theorem dd140_16 : decode cX11_item 16 = .ok (.invokevirtual 111, 3) := by decide +kernel
theorem dd140_19 : decode cX11_item 19 = .ok (.ifCond .ne 5, 3) := by decide +kernel
theorem dd140_22 : decode cX11_item 22 = .ok (.iconst 0, 1) := by decide +kernel
theorem dd140_23 : decode cX11_item 23 = .ok (.ireturn, 1) := by decide +kernel
theorem dd140_24 : decode cX11_item 24 = .ok (.aload_n 0, 1) := by decide +kernel
theorem dd140_25 : decode cX11_item 25 = .ok (.getfield 28, 3) := by decide +kernel
theorem dd140_28 : decode cX11_item 28 = .ok (.getfield 143, 3) := by decide +kernel
theorem dd140_31 : decode cX11_item 31 = .ok (.iload_n 1, 1) := by decide +kernel
theorem dd140_32 : decode cX11_item 32 = .ok (.invokevirtual 152, 3) := by decide +kernel
theorem dd140_35 : decode cX11_item 35 = .ok (.istore_n 3, 1) := by decide +kernel
theorem dd140_36 : decode cX11_item 36 = .ok (.iload_n 2, 1) := by decide +kernel
theorem dd140_37 : decode cX11_item 37 = .ok (.iconst (-1), 1) := by decide +kernel
theorem dd140_38 : decode cX11_item 38 = .ok (.if_icmp .ne 5, 3) := by decide +kernel
theorem dd140_41 : decode cX11_item 41 = .ok (.iload_n 3, 1) := by decide +kernel
theorem dd140_42 : decode cX11_item 42 = .ok (.ireturn, 1) := by decide +kernel
theorem dd140_43 : decode cX11_item 43 = .ok (.iload_n 2, 1) := by decide +kernel
theorem dd140_44 : decode cX11_item 44 = .ok (.ifCond .lt 23, 3) := by decide +kernel
theorem dd140_47 : decode cX11_item 47 = .ok (.iload_n 2, 1) := by decide +kernel
theorem dd140_48 : decode cX11_item 48 = .ok (.iload_n 3, 1) := by decide +kernel
theorem dd140_49 : decode cX11_item 49 = .ok (.if_icmp .ge 18, 3) := by decide +kernel
theorem dd140_52 : decode cX11_item 52 = .ok (.aload_n 0, 1) := by decide +kernel
theorem dd140_53 : decode cX11_item 53 = .ok (.getfield 28, 3) := by decide +kernel
theorem dd140_56 : decode cX11_item 56 = .ok (.getfield 143, 3) := by decide +kernel
theorem dd140_59 : decode cX11_item 59 = .ok (.iload_n 1, 1) := by decide +kernel
theorem dd140_60 : decode cX11_item 60 = .ok (.iload_n 2, 1) := by decide +kernel
theorem dd140_61 : decode cX11_item 61 = .ok (.invokevirtual 155, 3) := by decide +kernel
theorem dd140_64 : decode cX11_item 64 = .ok (.goto 4, 3) := by decide +kernel
theorem dd140_67 : decode cX11_item 67 = .ok (.iconst 0, 1) := by decide +kernel
theorem dd140_68 : decode cX11_item 68 = .ok (.ireturn, 1) := by decide +kernel
def f140 (n : Nat) (x1 : Int32) (x2 : Int32) (s : zσ) : Option (Int32 × zσ) :=
    if (s.1 1007 11) = (0 : Int32) then
    some ((0 : Int32), s)
    else zrd 9 (s.2.2 1000 3) fun a1 =>
    yb1 (f134 n a1 (1 : Int32) x1 s) fun v3 u2 =>
    if v3 = (0 : Int32) then
    some ((0 : Int32), u2)
    else yb1 (f92 n x1 u2) fun v5 u4 =>
    if x2 = (-1 : Int32) then
    some (v5, u4)
    else if x2 < (0 : Int32) then
    some ((0 : Int32), u4)
    else if x2 < v5 then
    yb1 (f95 n x1 x2 u4) fun v7 u6 =>
    some (v7, u6)
    else some ((0 : Int32), u4)
set_option maxRecDepth 20000 in
theorem f140_ok {n d : Nat} {x1 : Int32} {x2 : Int32} {s : zσ} {v : Int32} {s2 : zσ} (hd : 1 ≤ d) (h : f140 n x1 x2 s = some (v, s2)) {w : zσ} {fz : Bool} {L : Nat} {xs : Nat → Int32} : zGo (zX fz L xs) d q_140 (0, [(0, .ref 1000), (1, .int x1), (2, .int x2)], [], zmk s w, 0, 0) (some (.int v), zmk s2 w, 0, 0) := by
  obtain ⟨d, rfl⟩ : ∃ d0, d = d0 + 1 := ⟨d - 1, by omega⟩
  unfold f140 at h
  refine zGo_s (pc' := 1) (st' := [.ref 1000]) dd140_0 rfl ?_
  refine cGF (e := 1007) dd140_1 rfl rfl rfl rfl rfl ?_
  refine cGI dd140_4 rfl rfl rfl rfl ?_
  rcases oite h with ⟨hc, h⟩ | ⟨hc, h⟩
  · refine zUT dd140_7 rfl (kEqT hc) ?_
    refine zGo_s (pc' := 23) (st' := [.int (0 : Int32)]) dd140_22 rfl ?_
    obtain ⟨rfl, rfl⟩ := oret h
    exact zGo_ret dd140_23 rfl rfl
  · refine zUF dd140_7 (kEqF hc) ?_
    refine zGo_s (pc' := 11) (st' := [.ref 1000]) dd140_10 rfl ?_
    obtain ⟨a1, e_a1, c_a1, h⟩ := ordd h
    refine cGR dd140_11 rfl rfl rfl rfl e_a1 ?_
    refine zGo_s (pc' := 15) (st' := [.int (1 : Int32), .ref a1]) dd140_14 rfl ?_
    refine zGo_s (pc' := 16) (st' := [.int x1, .int (1 : Int32), .ref a1]) dd140_15 rfl ?_
    obtain ⟨v3, u2, hq, h⟩ := obnd h
    refine zCV1 (As := [.int (1 : Int32), .int x1]) (rest := []) (b := a1) (q' := q_134) dd140_16 rfl rfl (rcv_c (ck9_s c_a1).1 (ck9_s c_a1).2 (by decide)) rfl rfl rfl (f134_ok (d := d) (by omega) c_a1 hq) ?_
    rcases oite h with ⟨hc, h⟩ | ⟨hc, h⟩
    · refine zUF dd140_19 (kNeF hc) ?_
      refine zGo_s (pc' := 23) (st' := [.int (0 : Int32)]) dd140_22 rfl ?_
      obtain ⟨rfl, rfl⟩ := oret h
      exact zGo_ret dd140_23 rfl rfl
    · refine zUT dd140_19 rfl (kNeT hc) ?_
      refine zGo_s (pc' := 25) (st' := [.ref 1000]) dd140_24 rfl ?_
      refine cGF (e := 1007) dd140_25 rfl rfl rfl rfl rfl ?_
      refine cGF (e := 1009) dd140_28 rfl rfl rfl rfl rfl ?_
      refine zGo_s (pc' := 32) (st' := [.int x1, .ref 1009]) dd140_31 rfl ?_
      obtain ⟨v5, u4, hq, h⟩ := obnd h
      refine zCV1 (As := [.int x1]) (rest := []) (b := 1009) (q' := q_92) dd140_32 rfl rfl (rcv_c rfl rfl (by decide)) rfl rfl rfl (f92_ok (d := d) (by omega)  hq) ?_
      refine zGo_s (pc' := 36) (st' := []) (lv' := [(3, .int v5), (0, .ref 1000), (1, .int x1), (2, .int x2)]) dd140_35 rfl ?_
      refine zGo_s (pc' := 37) (st' := [.int x2]) dd140_36 rfl ?_
      refine zGo_s (pc' := 38) (st' := [.int (-1 : Int32), .int x2]) dd140_37 rfl ?_
      rcases oite h with ⟨hc, h⟩ | ⟨hc, h⟩
      · refine zIF dd140_38 (kNeF hc) ?_
        refine zGo_s (pc' := 42) (st' := [.int v5]) dd140_41 rfl ?_
        obtain ⟨rfl, rfl⟩ := oret h
        exact zGo_ret dd140_42 rfl rfl
      · refine zIT dd140_38 rfl (kNeT hc) ?_
        refine zGo_s (pc' := 44) (st' := [.int x2]) dd140_43 rfl ?_
        rcases oite h with ⟨hc, h⟩ | ⟨hc, h⟩
        · refine zUT dd140_44 rfl (kLtT hc) ?_
          refine zGo_s (pc' := 68) (st' := [.int (0 : Int32)]) dd140_67 rfl ?_
          obtain ⟨rfl, rfl⟩ := oret h
          exact zGo_ret dd140_68 rfl rfl
        · refine zUF dd140_44 (kLtF hc) ?_
          refine zGo_s (pc' := 48) (st' := [.int x2]) dd140_47 rfl ?_
          refine zGo_s (pc' := 49) (st' := [.int v5, .int x2]) dd140_48 rfl ?_
          rcases oite h with ⟨hc, h⟩ | ⟨hc, h⟩
          · refine zIF dd140_49 (kGeF hc) ?_
            refine zGo_s (pc' := 53) (st' := [.ref 1000]) dd140_52 rfl ?_
            refine cGF (e := 1007) dd140_53 rfl rfl rfl rfl rfl ?_
            refine cGF (e := 1009) dd140_56 rfl rfl rfl rfl rfl ?_
            refine zGo_s (pc' := 60) (st' := [.int x1, .ref 1009]) dd140_59 rfl ?_
            refine zGo_s (pc' := 61) (st' := [.int x2, .int x1, .ref 1009]) dd140_60 rfl ?_
            obtain ⟨v7, u6, hq, h⟩ := obnd h
            refine zCV1 (As := [.int x1, .int x2]) (rest := []) (b := 1009) (q' := q_95) dd140_61 rfl rfl (rcv_c rfl rfl (by decide)) rfl rfl rfl (f95_ok (d := d) (by omega)  hq) ?_
            refine zGo_s (pc' := 68) (st' := [.int v7]) dd140_64 rfl ?_
            obtain ⟨rfl, rfl⟩ := oret h
            exact zGo_ret dd140_68 rfl rfl
          · refine zIT dd140_49 rfl (kGeT hc) ?_
            refine zGo_s (pc' := 68) (st' := [.int (0 : Int32)]) dd140_67 rfl ?_
            obtain ⟨rfl, rfl⟩ := oret h
            exact zGo_ret dd140_68 rfl rfl
/-! PH.one(II)I -/
theorem dd141_0 : decode cX11_one 0 = .ok (.aload_n 0, 1) := by decide +kernel
theorem dd141_1 : decode cX11_one 1 = .ok (.getfield 28, 3) := by decide +kernel
theorem dd141_4 : decode cX11_one 4 = .ok (.getfield 67, 3) := by decide +kernel
theorem dd141_7 : decode cX11_one 7 = .ok (.ifCond .ne 6, 3) := by decide +kernel
theorem dd141_10 : decode cX11_one 10 = .ok (.bipush (-3), 2) := by decide +kernel
theorem dd141_12 : decode cX11_one 12 = .ok (.ireturn, 1) := by decide +kernel
theorem dd141_13 : decode cX11_one 13 = .ok (.aload_n 0, 1) := by decide +kernel
theorem dd141_14 : decode cX11_one 14 = .ok (.getfield 35, 3) := by decide +kernel
theorem dd141_17 : decode cX11_one 17 = .ok (.iconst 1, 1) := by decide +kernel
theorem dd141_18 : decode cX11_one 18 = .ok (.iload_n 1, 1) := by decide +kernel
theorem dd141_19 : decode cX11_one 19 = .ok (.invokevirtual 111, 3) := by decide +kernel
theorem dd141_22 : decode cX11_one 22 = .ok (.ifCond .eq 15, 3) := by decide +kernel
theorem dd141_25 : decode cX11_one 25 = .ok (.aload_n 0, 1) := by decide +kernel
theorem dd141_26 : decode cX11_one 26 = .ok (.getfield 35, 3) := by decide +kernel
theorem dd141_29 : decode cX11_one 29 = .ok (.iconst 1, 1) := by decide +kernel
theorem dd141_30 : decode cX11_one 30 = .ok (.iload_n 2, 1) := by decide +kernel
theorem dd141_31 : decode cX11_one 31 = .ok (.invokevirtual 111, 3) := by decide +kernel
theorem dd141_34 : decode cX11_one 34 = .ok (.ifCond .ne 5, 3) := by decide +kernel
theorem dd141_37 : decode cX11_one 37 = .ok (.iconst (-1), 1) := by decide +kernel
theorem dd141_38 : decode cX11_one 38 = .ok (.ireturn, 1) := by decide +kernel
theorem dd141_39 : decode cX11_one 39 = .ok (.aload_n 0, 1) := by decide +kernel
theorem dd141_40 : decode cX11_one 40 = .ok (.getfield 28, 3) := by decide +kernel
theorem dd141_43 : decode cX11_one 43 = .ok (.getfield 143, 3) := by decide +kernel
theorem dd141_46 : decode cX11_one 46 = .ok (.getfield 159, 3) := by decide +kernel
theorem dd141_49 : decode cX11_one 49 = .ok (.iload_n 1, 1) := by decide +kernel
theorem dd141_50 : decode cX11_one 50 = .ok (.iaload, 1) := by decide +kernel
theorem dd141_51 : decode cX11_one 51 = .ok (.aload_n 0, 1) := by decide +kernel
theorem dd141_52 : decode cX11_one 52 = .ok (.getfield 28, 3) := by decide +kernel
theorem dd141_55 : decode cX11_one 55 = .ok (.getfield 143, 3) := by decide +kernel
theorem dd141_58 : decode cX11_one 58 = .ok (.getfield 159, 3) := by decide +kernel
theorem dd141_61 : decode cX11_one 61 = .ok (.iload_n 2, 1) := by decide +kernel
theorem dd141_62 : decode cX11_one 62 = .ok (.iaload, 1) := by decide +kernel
theorem dd141_63 : decode cX11_one 63 = .ok (.if_icmp .ne 7, 3) := by decide +kernel
theorem dd141_66 : decode cX11_one 66 = .ok (.iconst 1, 1) := by decide +kernel
theorem dd141_67 : decode cX11_one 67 = .ok (.goto 4, 3) := by decide +kernel
theorem dd141_70 : decode cX11_one 70 = .ok (.iconst 0, 1) := by decide +kernel
theorem dd141_71 : decode cX11_one 71 = .ok (.ireturn, 1) := by decide +kernel
def f141 (n : Nat) (x1 : Int32) (x2 : Int32) (s : zσ) : Option (Int32 × zσ) :=
    if (s.1 1007 11) = (0 : Int32) then
    some ((-3 : Int32), s)
    else zrd 9 (s.2.2 1000 3) fun a1 =>
    yb1 (f134 n a1 (1 : Int32) x1 s) fun v3 u2 =>
    if v3 = (0 : Int32) then
    some ((-1 : Int32), u2)
    else zrd 9 (u2.2.2 1000 3) fun a4 =>
    yb1 (f134 n a4 (1 : Int32) x2 u2) fun v6 u5 =>
    if v6 = (0 : Int32) then
    some ((-1 : Int32), u5)
    else if zin? x1 4 = true then
    if zin? x2 4 = true then
    if (u5.1 1011 (nx x1)) = (u5.1 1011 (nx x2)) then
    some ((1 : Int32), u5)
    else some ((0 : Int32), u5)
    else none
    else none
set_option maxRecDepth 20000 in
theorem f141_ok {n d : Nat} {x1 : Int32} {x2 : Int32} {s : zσ} {v : Int32} {s2 : zσ} (hd : 1 ≤ d) (h : f141 n x1 x2 s = some (v, s2)) {w : zσ} {fz : Bool} {L : Nat} {xs : Nat → Int32} : zGo (zX fz L xs) d q_141 (0, [(0, .ref 1000), (1, .int x1), (2, .int x2)], [], zmk s w, 0, 0) (some (.int v), zmk s2 w, 0, 0) := by
  obtain ⟨d, rfl⟩ : ∃ d0, d = d0 + 1 := ⟨d - 1, by omega⟩
  unfold f141 at h
  refine zGo_s (pc' := 1) (st' := [.ref 1000]) dd141_0 rfl ?_
  refine cGF (e := 1007) dd141_1 rfl rfl rfl rfl rfl ?_
  refine cGI dd141_4 rfl rfl rfl rfl ?_
  rcases oite h with ⟨hc, h⟩ | ⟨hc, h⟩
  · refine zUF dd141_7 (kNeF hc) ?_
    refine zGo_s (pc' := 12) (st' := [.int (-3 : Int32)]) dd141_10 rfl ?_
    obtain ⟨rfl, rfl⟩ := oret h
    exact zGo_ret dd141_12 rfl rfl
  · refine zUT dd141_7 rfl (kNeT hc) ?_
    refine zGo_s (pc' := 14) (st' := [.ref 1000]) dd141_13 rfl ?_
    obtain ⟨a1, e_a1, c_a1, h⟩ := ordd h
    refine cGR dd141_14 rfl rfl rfl rfl e_a1 ?_
    refine zGo_s (pc' := 18) (st' := [.int (1 : Int32), .ref a1]) dd141_17 rfl ?_
    refine zGo_s (pc' := 19) (st' := [.int x1, .int (1 : Int32), .ref a1]) dd141_18 rfl ?_
    obtain ⟨v3, u2, hq, h⟩ := obnd h
    refine zCV1 (As := [.int (1 : Int32), .int x1]) (rest := []) (b := a1) (q' := q_134) dd141_19 rfl rfl (rcv_c (ck9_s c_a1).1 (ck9_s c_a1).2 (by decide)) rfl rfl rfl (f134_ok (d := d) (by omega) c_a1 hq) ?_
    rcases oite h with ⟨hc, h⟩ | ⟨hc, h⟩
    · refine zUT dd141_22 rfl (kEqT hc) ?_
      refine zGo_s (pc' := 38) (st' := [.int (-1 : Int32)]) dd141_37 rfl ?_
      obtain ⟨rfl, rfl⟩ := oret h
      exact zGo_ret dd141_38 rfl rfl
    · refine zUF dd141_22 (kEqF hc) ?_
      refine zGo_s (pc' := 26) (st' := [.ref 1000]) dd141_25 rfl ?_
      obtain ⟨a4, e_a4, c_a4, h⟩ := ordd h
      refine cGR dd141_26 rfl rfl rfl rfl e_a4 ?_
      refine zGo_s (pc' := 30) (st' := [.int (1 : Int32), .ref a4]) dd141_29 rfl ?_
      refine zGo_s (pc' := 31) (st' := [.int x2, .int (1 : Int32), .ref a4]) dd141_30 rfl ?_
      obtain ⟨v6, u5, hq, h⟩ := obnd h
      refine zCV1 (As := [.int (1 : Int32), .int x2]) (rest := []) (b := a4) (q' := q_134) dd141_31 rfl rfl (rcv_c (ck9_s c_a4).1 (ck9_s c_a4).2 (by decide)) rfl rfl rfl (f134_ok (d := d) (by omega) c_a4 hq) ?_
      rcases oite h with ⟨hc, h⟩ | ⟨hc, h⟩
      · refine zUF dd141_34 (kNeF hc) ?_
        refine zGo_s (pc' := 38) (st' := [.int (-1 : Int32)]) dd141_37 rfl ?_
        obtain ⟨rfl, rfl⟩ := oret h
        exact zGo_ret dd141_38 rfl rfl
      · refine zUT dd141_34 rfl (kNeT hc) ?_
        refine zGo_s (pc' := 40) (st' := [.ref 1000]) dd141_39 rfl ?_
        refine cGF (e := 1007) dd141_40 rfl rfl rfl rfl rfl ?_
        refine cGF (e := 1009) dd141_43 rfl rfl rfl rfl rfl ?_
        refine cGF (e := 1011) dd141_46 rfl rfl rfl rfl rfl ?_
        refine zGo_s (pc' := 50) (st' := [.int x1, .ref 1011]) dd141_49 rfl ?_
        obtain ⟨hi, h⟩ := ochk h
        refine cIA dd141_50 rfl rfl hi ?_
        refine zGo_s (pc' := 52) (st' := [.ref 1000, .int (u5.1 1011 (nx x1))]) dd141_51 rfl ?_
        refine cGF (e := 1007) dd141_52 rfl rfl rfl rfl rfl ?_
        refine cGF (e := 1009) dd141_55 rfl rfl rfl rfl rfl ?_
        refine cGF (e := 1011) dd141_58 rfl rfl rfl rfl rfl ?_
        refine zGo_s (pc' := 62) (st' := [.int x2, .ref 1011, .int (u5.1 1011 (nx x1))]) dd141_61 rfl ?_
        obtain ⟨hi, h⟩ := ochk h
        refine cIA dd141_62 rfl rfl hi ?_
        rcases oite h with ⟨hc, h⟩ | ⟨hc, h⟩
        · refine zIF dd141_63 (kNeF hc) ?_
          refine zGo_s (pc' := 67) (st' := [.int (1 : Int32)]) dd141_66 rfl ?_
          refine zGo_s (pc' := 71) (st' := [.int (1 : Int32)]) dd141_67 rfl ?_
          obtain ⟨rfl, rfl⟩ := oret h
          exact zGo_ret dd141_71 rfl rfl
        · refine zIT dd141_63 rfl (kNeT hc) ?_
          refine zGo_s (pc' := 71) (st' := [.int (0 : Int32)]) dd141_70 rfl ?_
          obtain ⟨rfl, rfl⟩ := oret h
          exact zGo_ret dd141_71 rfl rfl
/-! PH.sema(I)I -/
theorem dd142_0 : decode cX11_sema 0 = .ok (.aload_n 0, 1) := by decide +kernel
theorem dd142_1 : decode cX11_sema 1 = .ok (.getfield 28, 3) := by decide +kernel
theorem dd142_4 : decode cX11_sema 4 = .ok (.getfield 67, 3) := by decide +kernel
theorem dd142_7 : decode cX11_sema 7 = .ok (.ifCond .ne 6, 3) := by decide +kernel
theorem dd142_10 : decode cX11_sema 10 = .ok (.bipush (-3), 2) := by decide +kernel
theorem dd142_12 : decode cX11_sema 12 = .ok (.ireturn, 1) := by decide +kernel
theorem dd142_13 : decode cX11_sema 13 = .ok (.aload_n 0, 1) := by decide +kernel
theorem dd142_14 : decode cX11_sema 14 = .ok (.getfield 35, 3) := by decide +kernel
theorem dd142_17 : decode cX11_sema 17 = .ok (.iconst 2, 1) := by decide +kernel
theorem dd142_18 : decode cX11_sema 18 = .ok (.iload_n 1, 1) := by decide +kernel
theorem dd142_19 : decode cX11_sema 19 = .ok (.invokevirtual 111, 3) := by decide +kernel
theorem dd142_22 : decode cX11_sema 22 = .ok (.ifCond .eq 18, 3) := by decide +kernel
theorem dd142_25 : decode cX11_sema 25 = .ok (.aload_n 0, 1) := by decide +kernel
theorem dd142_26 : decode cX11_sema 26 = .ok (.getfield 28, 3) := by decide +kernel
theorem dd142_29 : decode cX11_sema 29 = .ok (.getfield 118, 3) := by decide +kernel
theorem dd142_32 : decode cX11_sema 32 = .ok (.getfield 162, 3) := by decide +kernel
theorem dd142_35 : decode cX11_sema 35 = .ok (.iload_n 1, 1) := by decide +kernel
theorem dd142_36 : decode cX11_sema 36 = .ok (.iaload, 1) := by decide +kernel
theorem dd142_37 : decode cX11_sema 37 = .ok (.goto 4, 3) := by decide +kernel
theorem dd142_40 : decode cX11_sema 40 = .ok (.iconst (-1), 1) := by decide +kernel
theorem dd142_41 : decode cX11_sema 41 = .ok (.ireturn, 1) := by decide +kernel
def f142 (n : Nat) (x1 : Int32) (s : zσ) : Option (Int32 × zσ) :=
    if (s.1 1007 11) = (0 : Int32) then
    some ((-3 : Int32), s)
    else zrd 9 (s.2.2 1000 3) fun a1 =>
    yb1 (f134 n a1 (2 : Int32) x1 s) fun v3 u2 =>
    if v3 = (0 : Int32) then
    some ((-1 : Int32), u2)
    else if zin? x1 4 = true then
    some ((u2.1 1015 (nx x1)), u2)
    else none
set_option maxRecDepth 20000 in
theorem f142_ok {n d : Nat} {x1 : Int32} {s : zσ} {v : Int32} {s2 : zσ} (hd : 1 ≤ d) (h : f142 n x1 s = some (v, s2)) {w : zσ} {fz : Bool} {L : Nat} {xs : Nat → Int32} : zGo (zX fz L xs) d q_142 (0, [(0, .ref 1000), (1, .int x1)], [], zmk s w, 0, 0) (some (.int v), zmk s2 w, 0, 0) := by
  obtain ⟨d, rfl⟩ : ∃ d0, d = d0 + 1 := ⟨d - 1, by omega⟩
  unfold f142 at h
  refine zGo_s (pc' := 1) (st' := [.ref 1000]) dd142_0 rfl ?_
  refine cGF (e := 1007) dd142_1 rfl rfl rfl rfl rfl ?_
  refine cGI dd142_4 rfl rfl rfl rfl ?_
  rcases oite h with ⟨hc, h⟩ | ⟨hc, h⟩
  · refine zUF dd142_7 (kNeF hc) ?_
    refine zGo_s (pc' := 12) (st' := [.int (-3 : Int32)]) dd142_10 rfl ?_
    obtain ⟨rfl, rfl⟩ := oret h
    exact zGo_ret dd142_12 rfl rfl
  · refine zUT dd142_7 rfl (kNeT hc) ?_
    refine zGo_s (pc' := 14) (st' := [.ref 1000]) dd142_13 rfl ?_
    obtain ⟨a1, e_a1, c_a1, h⟩ := ordd h
    refine cGR dd142_14 rfl rfl rfl rfl e_a1 ?_
    refine zGo_s (pc' := 18) (st' := [.int (2 : Int32), .ref a1]) dd142_17 rfl ?_
    refine zGo_s (pc' := 19) (st' := [.int x1, .int (2 : Int32), .ref a1]) dd142_18 rfl ?_
    obtain ⟨v3, u2, hq, h⟩ := obnd h
    refine zCV1 (As := [.int (2 : Int32), .int x1]) (rest := []) (b := a1) (q' := q_134) dd142_19 rfl rfl (rcv_c (ck9_s c_a1).1 (ck9_s c_a1).2 (by decide)) rfl rfl rfl (f134_ok (d := d) (by omega) c_a1 hq) ?_
    rcases oite h with ⟨hc, h⟩ | ⟨hc, h⟩
    · refine zUT dd142_22 rfl (kEqT hc) ?_
      refine zGo_s (pc' := 41) (st' := [.int (-1 : Int32)]) dd142_40 rfl ?_
      obtain ⟨rfl, rfl⟩ := oret h
      exact zGo_ret dd142_41 rfl rfl
    · refine zUF dd142_22 (kEqF hc) ?_
      refine zGo_s (pc' := 26) (st' := [.ref 1000]) dd142_25 rfl ?_
      refine cGF (e := 1007) dd142_26 rfl rfl rfl rfl rfl ?_
      refine cGF (e := 1014) dd142_29 rfl rfl rfl rfl rfl ?_
      refine cGF (e := 1015) dd142_32 rfl rfl rfl rfl rfl ?_
      refine zGo_s (pc' := 36) (st' := [.int x1, .ref 1015]) dd142_35 rfl ?_
      obtain ⟨hi, h⟩ := ochk h
      refine cIA dd142_36 rfl rfl hi ?_
      refine zGo_s (pc' := 41) (st' := [.int (u2.1 1015 (nx x1))]) dd142_37 rfl ?_
      obtain ⟨rfl, rfl⟩ := oret h
      exact zGo_ret dd142_41 rfl rfl
/-! PH.bolt(II)I -/
theorem dd143_0 : decode cX11_bolt 0 = .ok (.aload_n 0, 1) := by decide +kernel
theorem dd143_1 : decode cX11_bolt 1 = .ok (.getfield 28, 3) := by decide +kernel
theorem dd143_4 : decode cX11_bolt 4 = .ok (.getfield 67, 3) := by decide +kernel
theorem dd143_7 : decode cX11_bolt 7 = .ok (.ifCond .ne 6, 3) := by decide +kernel
theorem dd143_10 : decode cX11_bolt 10 = .ok (.bipush (-3), 2) := by decide +kernel
theorem dd143_12 : decode cX11_bolt 12 = .ok (.ireturn, 1) := by decide +kernel
theorem dd143_13 : decode cX11_bolt 13 = .ok (.aload_n 0, 1) := by decide +kernel
theorem dd143_14 : decode cX11_bolt 14 = .ok (.getfield 35, 3) := by decide +kernel
theorem dd143_17 : decode cX11_bolt 17 = .ok (.iconst 3, 1) := by decide +kernel
theorem dd143_18 : decode cX11_bolt 18 = .ok (.iload_n 1, 1) := by decide +kernel
theorem dd143_19 : decode cX11_bolt 19 = .ok (.invokevirtual 111, 3) := by decide +kernel
theorem dd143_22 : decode cX11_bolt 22 = .ok (.ifCond .ne 5, 3) := by decide +kernel
theorem dd143_25 : decode cX11_bolt 25 = .ok (.iconst (-1), 1) := by decide +kernel
theorem dd143_26 : decode cX11_bolt 26 = .ok (.ireturn, 1) := by decide +kernel
theorem dd143_27 : decode cX11_bolt 27 = .ok (.iload_n 2, 1) := by decide +kernel
theorem dd143_28 : decode cX11_bolt 28 = .ok (.ifCond .ne 16, 3) := by decide +kernel
theorem dd143_31 : decode cX11_bolt 31 = .ok (.aload_n 0, 1) := by decide +kernel
theorem dd143_32 : decode cX11_bolt 32 = .ok (.getfield 28, 3) := by decide +kernel
theorem dd143_35 : decode cX11_bolt 35 = .ok (.getfield 118, 3) := by decide +kernel
theorem dd143_38 : decode cX11_bolt 38 = .ok (.getfield 165, 3) := by decide +kernel
theorem dd143_41 : decode cX11_bolt 41 = .ok (.iload_n 1, 1) := by decide +kernel
theorem dd143_42 : decode cX11_bolt 42 = .ok (.iaload, 1) := by decide +kernel
theorem dd143_43 : decode cX11_bolt 43 = .ok (.ireturn, 1) := by decide +kernel
theorem dd143_44 : decode cX11_bolt 44 = .ok (.iload_n 2, 1) := by decide +kernel
theorem dd143_45 : decode cX11_bolt 45 = .ok (.iconst 1, 1) := by decide +kernel
theorem dd143_46 : decode cX11_bolt 46 = .ok (.if_icmp .ne 15, 3) := by decide +kernel
theorem dd143_49 : decode cX11_bolt 49 = .ok (.aload_n 0, 1) := by decide +kernel
theorem dd143_50 : decode cX11_bolt 50 = .ok (.getfield 28, 3) := by decide +kernel
theorem dd143_53 : decode cX11_bolt 53 = .ok (.getfield 118, 3) := by decide +kernel
theorem dd143_56 : decode cX11_bolt 56 = .ok (.iload_n 1, 1) := by decide +kernel
theorem dd143_57 : decode cX11_bolt 57 = .ok (.invokevirtual 168, 3) := by decide +kernel
theorem dd143_60 : decode cX11_bolt 60 = .ok (.ireturn, 1) := by decide +kernel
theorem dd143_61 : decode cX11_bolt 61 = .ok (.iload_n 2, 1) := by decide +kernel
theorem dd143_62 : decode cX11_bolt 62 = .ok (.iconst 1, 1) := by decide +kernel
theorem dd143_63 : decode cX11_bolt 63 = .ok (.if_icmp .le 40, 3) := by decide +kernel
theorem dd143_66 : decode cX11_bolt 66 = .ok (.aload_n 0, 1) := by decide +kernel
theorem dd143_67 : decode cX11_bolt 67 = .ok (.getfield 35, 3) := by decide +kernel
theorem dd143_70 : decode cX11_bolt 70 = .ok (.bipush 8, 2) := by decide +kernel
theorem dd143_72 : decode cX11_bolt 72 = .ok (.iload_n 2, 1) := by decide +kernel
theorem dd143_73 : decode cX11_bolt 73 = .ok (.iconst 2, 1) := by decide +kernel
theorem dd143_74 : decode cX11_bolt 74 = .ok (.isub, 1) := by decide +kernel
theorem dd143_75 : decode cX11_bolt 75 = .ok (.invokevirtual 111, 3) := by decide +kernel
theorem dd143_78 : decode cX11_bolt 78 = .ok (.ifCond .eq 25, 3) := by decide +kernel
theorem dd143_81 : decode cX11_bolt 81 = .ok (.aload_n 0, 1) := by decide +kernel
theorem dd143_82 : decode cX11_bolt 82 = .ok (.getfield 28, 3) := by decide +kernel
theorem dd143_85 : decode cX11_bolt 85 = .ok (.getfield 118, 3) := by decide +kernel
theorem dd143_88 : decode cX11_bolt 88 = .ok (.getfield 171, 3) := by decide +kernel
theorem dd143_91 : decode cX11_bolt 91 = .ok (.iload_n 1, 1) := by decide +kernel
theorem dd143_92 : decode cX11_bolt 92 = .ok (.bipush 8, 2) := by decide +kernel
theorem dd143_94 : decode cX11_bolt 94 = .ok (.imul, 1) := by decide +kernel
theorem dd143_95 : decode cX11_bolt 95 = .ok (.iload_n 2, 1) := by decide +kernel
theorem dd143_96 : decode cX11_bolt 96 = .ok (.iadd, 1) := by decide +kernel
theorem dd143_97 : decode cX11_bolt 97 = .ok (.iconst 2, 1) := by decide +kernel
theorem dd143_98 : decode cX11_bolt 98 = .ok (.isub, 1) := by decide +kernel
theorem dd143_99 : decode cX11_bolt 99 = .ok (.iaload, 1) := by decide +kernel
theorem dd143_100 : decode cX11_bolt 100 = .ok (.goto 5, 3) := by decide +kernel
theorem dd143_103 : decode cX11_bolt 103 = .ok (.bipush (-2), 2) := by decide +kernel
theorem dd143_105 : decode cX11_bolt 105 = .ok (.ireturn, 1) := by decide +kernel
def f143 (n : Nat) (x1 : Int32) (x2 : Int32) (s : zσ) : Option (Int32 × zσ) :=
    if (s.1 1007 11) = (0 : Int32) then
    some ((-3 : Int32), s)
    else zrd 9 (s.2.2 1000 3) fun a1 =>
    yb1 (f134 n a1 (3 : Int32) x1 s) fun v3 u2 =>
    if v3 = (0 : Int32) then
    some ((-1 : Int32), u2)
    else if x2 = (0 : Int32) then
    if zin? x1 4 = true then
    some ((u2.1 1016 (nx x1)), u2)
    else none
    else if x2 = (1 : Int32) then
    yb1 (f110 n x1 u2) fun v8 u7 =>
    some (v8, u7)
    else if (1 : Int32) < x2 then
    zrd 9 (u2.2.2 1000 3) fun a4 =>
    yb1 (f134 n a4 (8 : Int32) (x2 - (2 : Int32)) u2) fun v6 u5 =>
    if v6 = (0 : Int32) then
    some ((-2 : Int32), u5)
    else if zin? (((x1 * (8 : Int32)) + x2) - (2 : Int32)) 32 = true then
    some ((u5.1 1017 (nx (((x1 * (8 : Int32)) + x2) - (2 : Int32)))), u5)
    else none
    else some ((-2 : Int32), u2)
set_option maxRecDepth 20000 in
theorem f143_ok {n d : Nat} {x1 : Int32} {x2 : Int32} {s : zσ} {v : Int32} {s2 : zσ} (hd : 1 ≤ d) (h : f143 n x1 x2 s = some (v, s2)) {w : zσ} {fz : Bool} {L : Nat} {xs : Nat → Int32} : zGo (zX fz L xs) d q_143 (0, [(0, .ref 1000), (1, .int x1), (2, .int x2)], [], zmk s w, 0, 0) (some (.int v), zmk s2 w, 0, 0) := by
  obtain ⟨d, rfl⟩ : ∃ d0, d = d0 + 1 := ⟨d - 1, by omega⟩
  unfold f143 at h
  refine zGo_s (pc' := 1) (st' := [.ref 1000]) dd143_0 rfl ?_
  refine cGF (e := 1007) dd143_1 rfl rfl rfl rfl rfl ?_
  refine cGI dd143_4 rfl rfl rfl rfl ?_
  rcases oite h with ⟨hc, h⟩ | ⟨hc, h⟩
  · refine zUF dd143_7 (kNeF hc) ?_
    refine zGo_s (pc' := 12) (st' := [.int (-3 : Int32)]) dd143_10 rfl ?_
    obtain ⟨rfl, rfl⟩ := oret h
    exact zGo_ret dd143_12 rfl rfl
  · refine zUT dd143_7 rfl (kNeT hc) ?_
    refine zGo_s (pc' := 14) (st' := [.ref 1000]) dd143_13 rfl ?_
    obtain ⟨a1, e_a1, c_a1, h⟩ := ordd h
    refine cGR dd143_14 rfl rfl rfl rfl e_a1 ?_
    refine zGo_s (pc' := 18) (st' := [.int (3 : Int32), .ref a1]) dd143_17 rfl ?_
    refine zGo_s (pc' := 19) (st' := [.int x1, .int (3 : Int32), .ref a1]) dd143_18 rfl ?_
    obtain ⟨v3, u2, hq, h⟩ := obnd h
    refine zCV1 (As := [.int (3 : Int32), .int x1]) (rest := []) (b := a1) (q' := q_134) dd143_19 rfl rfl (rcv_c (ck9_s c_a1).1 (ck9_s c_a1).2 (by decide)) rfl rfl rfl (f134_ok (d := d) (by omega) c_a1 hq) ?_
    rcases oite h with ⟨hc, h⟩ | ⟨hc, h⟩
    · refine zUF dd143_22 (kNeF hc) ?_
      refine zGo_s (pc' := 26) (st' := [.int (-1 : Int32)]) dd143_25 rfl ?_
      obtain ⟨rfl, rfl⟩ := oret h
      exact zGo_ret dd143_26 rfl rfl
    · refine zUT dd143_22 rfl (kNeT hc) ?_
      refine zGo_s (pc' := 28) (st' := [.int x2]) dd143_27 rfl ?_
      rcases oite h with ⟨hc, h⟩ | ⟨hc, h⟩
      · refine zUF dd143_28 (kNeF hc) ?_
        refine zGo_s (pc' := 32) (st' := [.ref 1000]) dd143_31 rfl ?_
        refine cGF (e := 1007) dd143_32 rfl rfl rfl rfl rfl ?_
        refine cGF (e := 1014) dd143_35 rfl rfl rfl rfl rfl ?_
        refine cGF (e := 1016) dd143_38 rfl rfl rfl rfl rfl ?_
        refine zGo_s (pc' := 42) (st' := [.int x1, .ref 1016]) dd143_41 rfl ?_
        obtain ⟨hi, h⟩ := ochk h
        refine cIA dd143_42 rfl rfl hi ?_
        obtain ⟨rfl, rfl⟩ := oret h
        exact zGo_ret dd143_43 rfl rfl
      · refine zUT dd143_28 rfl (kNeT hc) ?_
        refine zGo_s (pc' := 45) (st' := [.int x2]) dd143_44 rfl ?_
        refine zGo_s (pc' := 46) (st' := [.int (1 : Int32), .int x2]) dd143_45 rfl ?_
        rcases oite h with ⟨hc, h⟩ | ⟨hc, h⟩
        · refine zIF dd143_46 (kNeF hc) ?_
          refine zGo_s (pc' := 50) (st' := [.ref 1000]) dd143_49 rfl ?_
          refine cGF (e := 1007) dd143_50 rfl rfl rfl rfl rfl ?_
          refine cGF (e := 1014) dd143_53 rfl rfl rfl rfl rfl ?_
          refine zGo_s (pc' := 57) (st' := [.int x1, .ref 1014]) dd143_56 rfl ?_
          obtain ⟨v8, u7, hq, h⟩ := obnd h
          refine zCV1 (As := [.int x1]) (rest := []) (b := 1014) (q' := q_110) dd143_57 rfl rfl (rcv_c rfl rfl (by decide)) rfl rfl rfl (f110_ok (d := d) (by omega)  hq) ?_
          obtain ⟨rfl, rfl⟩ := oret h
          exact zGo_ret dd143_60 rfl rfl
        · refine zIT dd143_46 rfl (kNeT hc) ?_
          refine zGo_s (pc' := 62) (st' := [.int x2]) dd143_61 rfl ?_
          refine zGo_s (pc' := 63) (st' := [.int (1 : Int32), .int x2]) dd143_62 rfl ?_
          rcases oite h with ⟨hc, h⟩ | ⟨hc, h⟩
          · refine zIF dd143_63 (kLeF hc) ?_
            refine zGo_s (pc' := 67) (st' := [.ref 1000]) dd143_66 rfl ?_
            obtain ⟨a4, e_a4, c_a4, h⟩ := ordd h
            refine cGR dd143_67 rfl rfl rfl rfl e_a4 ?_
            refine zGo_s (pc' := 72) (st' := [.int (8 : Int32), .ref a4]) dd143_70 rfl ?_
            refine zGo_s (pc' := 73) (st' := [.int x2, .int (8 : Int32), .ref a4]) dd143_72 rfl ?_
            refine zGo_s (pc' := 74) (st' := [.int (2 : Int32), .int x2, .int (8 : Int32), .ref a4]) dd143_73 rfl ?_
            refine zGo_s (pc' := 75) (st' := [.int (x2 - (2 : Int32)), .int (8 : Int32), .ref a4]) dd143_74 rfl ?_
            obtain ⟨v6, u5, hq, h⟩ := obnd h
            refine zCV1 (As := [.int (8 : Int32), .int (x2 - (2 : Int32))]) (rest := []) (b := a4) (q' := q_134) dd143_75 rfl rfl (rcv_c (ck9_s c_a4).1 (ck9_s c_a4).2 (by decide)) rfl rfl rfl (f134_ok (d := d) (by omega) c_a4 hq) ?_
            rcases oite h with ⟨hc, h⟩ | ⟨hc, h⟩
            · refine zUT dd143_78 rfl (kEqT hc) ?_
              refine zGo_s (pc' := 105) (st' := [.int (-2 : Int32)]) dd143_103 rfl ?_
              obtain ⟨rfl, rfl⟩ := oret h
              exact zGo_ret dd143_105 rfl rfl
            · refine zUF dd143_78 (kEqF hc) ?_
              refine zGo_s (pc' := 82) (st' := [.ref 1000]) dd143_81 rfl ?_
              refine cGF (e := 1007) dd143_82 rfl rfl rfl rfl rfl ?_
              refine cGF (e := 1014) dd143_85 rfl rfl rfl rfl rfl ?_
              refine cGF (e := 1017) dd143_88 rfl rfl rfl rfl rfl ?_
              refine zGo_s (pc' := 92) (st' := [.int x1, .ref 1017]) dd143_91 rfl ?_
              refine zGo_s (pc' := 94) (st' := [.int (8 : Int32), .int x1, .ref 1017]) dd143_92 rfl ?_
              refine zGo_s (pc' := 95) (st' := [.int (x1 * (8 : Int32)), .ref 1017]) dd143_94 rfl ?_
              refine zGo_s (pc' := 96) (st' := [.int x2, .int (x1 * (8 : Int32)), .ref 1017]) dd143_95 rfl ?_
              refine zGo_s (pc' := 97) (st' := [.int ((x1 * (8 : Int32)) + x2), .ref 1017]) dd143_96 rfl ?_
              refine zGo_s (pc' := 98) (st' := [.int (2 : Int32), .int ((x1 * (8 : Int32)) + x2), .ref 1017]) dd143_97 rfl ?_
              refine zGo_s (pc' := 99) (st' := [.int (((x1 * (8 : Int32)) + x2) - (2 : Int32)), .ref 1017]) dd143_98 rfl ?_
              obtain ⟨hi, h⟩ := ochk h
              refine cIA dd143_99 rfl rfl hi ?_
              refine zGo_s (pc' := 105) (st' := [.int (u5.1 1017 (nx (((x1 * (8 : Int32)) + x2) - (2 : Int32))))]) dd143_100 rfl ?_
              obtain ⟨rfl, rfl⟩ := oret h
              exact zGo_ret dd143_105 rfl rfl
          · refine zIT dd143_63 rfl (kLeT hc) ?_
            refine zGo_s (pc' := 105) (st' := [.int (-2 : Int32)]) dd143_103 rfl ?_
            obtain ⟨rfl, rfl⟩ := oret h
            exact zGo_ret dd143_105 rfl rfl
