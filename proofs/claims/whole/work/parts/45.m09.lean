/-! PH$Machine.arrive(I)I -/
theorem dd121_0 : decode cX3_arrive 0 = .ok (.aload_n 0, 1) := by decide +kernel
theorem dd121_1 : decode cX3_arrive 1 = .ok (.getfield 34, 3) := by decide +kernel
theorem dd121_4 : decode cX3_arrive 4 = .ok (.getfield 308, 3) := by decide +kernel
theorem dd121_7 : decode cX3_arrive 7 = .ok (.iload_n 1, 1) := by decide +kernel
theorem dd121_8 : decode cX3_arrive 8 = .ok (.baload, 1) := by decide +kernel
theorem dd121_9 : decode cX3_arrive 9 = .ok (.ifCond .ne 15, 3) := by decide +kernel
theorem dd121_12 : decode cX3_arrive 12 = .ok (.aload_n 0, 1) := by decide +kernel
theorem dd121_13 : decode cX3_arrive 13 = .ok (.getfield 34, 3) := by decide +kernel
theorem dd121_16 : decode cX3_arrive 16 = .ok (.getfield 361, 3) := by decide +kernel
theorem dd121_19 : decode cX3_arrive 19 = .ok (.iload_n 1, 1) := by decide +kernel
theorem dd121_20 : decode cX3_arrive 20 = .ok (.iconst 1, 1) := by decide +kernel
theorem dd121_21 : decode cX3_arrive 21 = .ok (.bastore, 1) := by decide +kernel
theorem dd121_22 : decode cX3_arrive 22 = .ok (.iconst 0, 1) := by decide +kernel
theorem dd121_23 : decode cX3_arrive 23 = .ok (.ireturn, 1) := by decide +kernel
theorem dd121_24 : decode cX3_arrive 24 = .ok (.aload_n 0, 1) := by decide +kernel
theorem dd121_25 : decode cX3_arrive 25 = .ok (.getfield 34, 3) := by decide +kernel
theorem dd121_28 : decode cX3_arrive 28 = .ok (.getfield 363, 3) := by decide +kernel
theorem dd121_31 : decode cX3_arrive 31 = .ok (.iload_n 1, 1) := by decide +kernel
theorem dd121_32 : decode cX3_arrive 32 = .ok (.dup2, 1) := by decide +kernel
theorem dd121_33 : decode cX3_arrive 33 = .ok (.iaload, 1) := by decide +kernel
theorem dd121_34 : decode cX3_arrive 34 = .ok (.iconst 1, 1) := by decide +kernel
theorem dd121_35 : decode cX3_arrive 35 = .ok (.iadd, 1) := by decide +kernel
theorem dd121_36 : decode cX3_arrive 36 = .ok (.iastore, 1) := by decide +kernel
theorem dd121_37 : decode cX3_arrive 37 = .ok (.iconst 1, 1) := by decide +kernel
theorem dd121_38 : decode cX3_arrive 38 = .ok (.istore_n 2, 1) := by decide +kernel
theorem dd121_39 : decode cX3_arrive 39 = .ok (.iload_n 2, 1) := by decide +kernel
theorem dd121_40 : decode cX3_arrive 40 = .ok (.bipush 9, 2) := by decide +kernel
theorem dd121_42 : decode cX3_arrive 42 = .ok (.if_icmp .gt 108, 3) := by decide +kernel
theorem dd121_45 : decode cX3_arrive 45 = .ok (.iconst 0, 1) := by decide +kernel
theorem dd121_46 : decode cX3_arrive 46 = .ok (.istore_n 3, 1) := by decide +kernel
theorem dd121_47 : decode cX3_arrive 47 = .ok (.iload_n 3, 1) := by decide +kernel
theorem dd121_48 : decode cX3_arrive 48 = .ok (.iconst 2, 1) := by decide +kernel
theorem dd121_49 : decode cX3_arrive 49 = .ok (.aload_n 0, 1) := by decide +kernel
theorem dd121_50 : decode cX3_arrive 50 = .ok (.getfield 71, 3) := by decide +kernel
theorem dd121_53 : decode cX3_arrive 53 = .ok (.imul, 1) := by decide +kernel
theorem dd121_54 : decode cX3_arrive 54 = .ok (.if_icmp .ge 90, 3) := by decide +kernel
theorem dd121_57 : decode cX3_arrive 57 = .ok (.aload_n 0, 1) := by decide +kernel
theorem dd121_58 : decode cX3_arrive 58 = .ok (.getfield 11, 3) := by decide +kernel
theorem dd121_61 : decode cX3_arrive 61 = .ok (.iload_n 3, 1) := by decide +kernel
theorem dd121_62 : decode cX3_arrive 62 = .ok (.iconst 2, 1) := by decide +kernel
theorem dd121_63 : decode cX3_arrive 63 = .ok (.idiv, 1) := by decide +kernel
theorem dd121_64 : decode cX3_arrive 64 = .ok (.aaload, 1) := by decide +kernel
theorem dd121_65 : decode cX3_arrive 65 = .ok (.astore 4, 2) := by decide +kernel
theorem dd121_67 : decode cX3_arrive 67 = .ok (.aload 4, 2) := by decide +kernel
theorem dd121_69 : decode cX3_arrive 69 = .ok (.getfield 123, 3) := by decide +kernel
theorem dd121_72 : decode cX3_arrive 72 = .ok (.ifCond .ne 19, 3) := by decide +kernel
theorem dd121_75 : decode cX3_arrive 75 = .ok (.aload_n 0, 1) := by decide +kernel
theorem dd121_76 : decode cX3_arrive 76 = .ok (.getfield 55, 3) := by decide +kernel
theorem dd121_79 : decode cX3_arrive 79 = .ok (.getfield 359, 3) := by decide +kernel
theorem dd121_82 : decode cX3_arrive 82 = .ok (.aload 4, 2) := by decide +kernel
theorem dd121_84 : decode cX3_arrive 84 = .ok (.getfield 290, 3) := by decide +kernel
theorem dd121_87 : decode cX3_arrive 87 = .ok (.iaload, 1) := by decide +kernel
theorem dd121_88 : decode cX3_arrive 88 = .ok (.goto 8, 3) := by decide +kernel
theorem dd121_91 : decode cX3_arrive 91 = .ok (.aload 4, 2) := by decide +kernel
theorem dd121_93 : decode cX3_arrive 93 = .ok (.getfield 177, 3) := by decide +kernel
theorem dd121_96 : decode cX3_arrive 96 = .ok (.istore 5, 2) := by decide +kernel
theorem dd121_98 : decode cX3_arrive 98 = .ok (.iload 5, 2) := by decide +kernel
theorem dd121_100 : decode cX3_arrive 100 = .ok (.iload_n 2, 1) := by decide +kernel
theorem dd121_101 : decode cX3_arrive 101 = .ok (.if_icmp .ne 37, 3) := by decide +kernel
theorem dd121_104 : decode cX3_arrive 104 = .ok (.aload_n 0, 1) := by decide +kernel
theorem dd121_105 : decode cX3_arrive 105 = .ok (.getfield 34, 3) := by decide +kernel
theorem dd121_108 : decode cX3_arrive 108 = .ok (.getfield 163, 3) := by decide +kernel
theorem dd121_111 : decode cX3_arrive 111 = .ok (.iload_n 3, 1) := by decide +kernel
theorem dd121_112 : decode cX3_arrive 112 = .ok (.iaload, 1) := by decide +kernel
theorem dd121_113 : decode cX3_arrive 113 = .ok (.ldc_w 329, 3) := by decide +kernel
theorem dd121_116 : decode cX3_arrive 116 = .ok (.if_icmp .ne 22, 3) := by decide +kernel
theorem dd121_119 : decode cX3_arrive 119 = .ok (.aload_n 0, 1) := by decide +kernel
theorem dd121_120 : decode cX3_arrive 120 = .ok (.getfield 34, 3) := by decide +kernel
theorem dd121_123 : decode cX3_arrive 123 = .ok (.getfield 336, 3) := by decide +kernel
theorem dd121_126 : decode cX3_arrive 126 = .ok (.iload_n 3, 1) := by decide +kernel
theorem dd121_127 : decode cX3_arrive 127 = .ok (.iaload, 1) := by decide +kernel
theorem dd121_128 : decode cX3_arrive 128 = .ok (.iload_n 1, 1) := by decide +kernel
theorem dd121_129 : decode cX3_arrive 129 = .ok (.if_icmp .ne 9, 3) := by decide +kernel
theorem dd121_132 : decode cX3_arrive 132 = .ok (.aload_n 0, 1) := by decide +kernel
theorem dd121_133 : decode cX3_arrive 133 = .ok (.iload_n 3, 1) := by decide +kernel
theorem dd121_134 : decode cX3_arrive 134 = .ok (.invokevirtual 174, 3) := by decide +kernel
theorem dd121_137 : decode cX3_arrive 137 = .ok (.pop, 1) := by decide +kernel
theorem dd121_138 : decode cX3_arrive 138 = .ok (.iinc 3 1, 3) := by decide +kernel
theorem dd121_141 : decode cX3_arrive 141 = .ok (.goto (-94), 3) := by decide +kernel
theorem dd121_144 : decode cX3_arrive 144 = .ok (.iinc 2 1, 3) := by decide +kernel
theorem dd121_147 : decode cX3_arrive 147 = .ok (.goto (-108), 3) := by decide +kernel
theorem dd121_150 : decode cX3_arrive 150 = .ok (.iconst 1, 1) := by decide +kernel
theorem dd121_151 : decode cX3_arrive 151 = .ok (.ireturn, 1) := by decide +kernel
def f121_138 (n : Nat) (r39 : Int32 → Int32 → zσ → Option (Int32 × zσ)) (r47 : Int32 → Int32 → Int32 → zσ → Option (Int32 × zσ)) (x1 : Int32) (x2 : Int32) (x3 : Int32) (s : zσ) : Option (Int32 × zσ) :=
    r47 x1 x2 (x3 + (1 : Int32)) s
set_option maxRecDepth 20000 in
theorem f121_138_ok {n d : Nat} {r39 : Int32 → Int32 → zσ → Option (Int32 × zσ)} {r47 : Int32 → Int32 → Int32 → zσ → Option (Int32 × zσ)} {x1 : Int32} {x2 : Int32} {x3 : Int32} {s : zσ} {v : Int32} {s2 : zσ} (hd : 2 ≤ d) (hr39 : ∀ (x1 : Int32) (x2 : Int32) (s : zσ) (v : Int32) (s2 : zσ), r39 x1 x2 s = some (v, s2) → ∀ {w : zσ} {fz : Bool} {L : Nat} {xs : Nat → Int32}, zGo (zX fz L xs) d q_121 (39, [(0, .ref 1007), (1, .int x1), (2, .int x2)], [], zmk s w, 0, 0) (some (.int v), zmk s2 w, 0, 0)) (hr47 : ∀ (x1 : Int32) (x2 : Int32) (x3 : Int32) (s : zσ) (v : Int32) (s2 : zσ), r47 x1 x2 x3 s = some (v, s2) → ∀ {w : zσ} {fz : Bool} {L : Nat} {xs : Nat → Int32}, zGo (zX fz L xs) d q_121 (47, [(0, .ref 1007), (1, .int x1), (2, .int x2), (3, .int x3)], [], zmk s w, 0, 0) (some (.int v), zmk s2 w, 0, 0)) (h : f121_138 n r39 r47 x1 x2 x3 s = some (v, s2)) {w : zσ} {fz : Bool} {L : Nat} {xs : Nat → Int32} : zGo (zX fz L xs) d q_121 (138, [(0, .ref 1007), (1, .int x1), (2, .int x2), (3, .int x3)], [], zmk s w, 0, 0) (some (.int v), zmk s2 w, 0, 0) := by
  obtain ⟨d, rfl⟩ : ∃ d0, d = d0 + 1 := ⟨d - 1, by omega⟩
  unfold f121_138 at h
  refine zGo_s (pc' := 141) (st' := []) (lv' := [(3, .int (x3 + (1 : Int32))), (0, .ref 1007), (1, .int x1), (2, .int x2)]) dd121_138 rfl ?_
  refine zGo_s (pc' := 47) (st' := []) dd121_141 rfl ?_
  exact zGo_lv (lv := [(0, .ref 1007), (1, .int x1), (2, .int x2), (3, .int (x3 + (1 : Int32)))]) ⟨by simp, by simp, by simp⟩ (hr47 _ _ _ _ _ _ h)
def f121_96 (n : Nat) (r39 : Int32 → Int32 → zσ → Option (Int32 × zσ)) (r47 : Int32 → Int32 → Int32 → zσ → Option (Int32 × zσ)) (x1 : Int32) (x2 : Int32) (x3 : Int32) (y0 : Int32) (s : zσ) : Option (Int32 × zσ) :=
    if y0 = x2 then
    if zin? x3 16 = true then
    if (s.1 1023 (nx x3)) = (-2000000000 : Int32) then
    if zin? x3 16 = true then
    if (s.1 1026 (nx x3)) = x1 then
    yb1 (f87 n x3 s) fun v2 u1 =>
    f121_138 n r39 r47 x1 x2 x3 u1
    else f121_138 n r39 r47 x1 x2 x3 s
    else none
    else f121_138 n r39 r47 x1 x2 x3 s
    else none
    else f121_138 n r39 r47 x1 x2 x3 s
set_option maxRecDepth 20000 in
theorem f121_96_ok {n d : Nat} {r39 : Int32 → Int32 → zσ → Option (Int32 × zσ)} {r47 : Int32 → Int32 → Int32 → zσ → Option (Int32 × zσ)} {x1 : Int32} {x2 : Int32} {x3 : Int32} {y0 : Int32} {s : zσ} {v : Int32} {s2 : zσ} (hd : 2 ≤ d) (hr39 : ∀ (x1 : Int32) (x2 : Int32) (s : zσ) (v : Int32) (s2 : zσ), r39 x1 x2 s = some (v, s2) → ∀ {w : zσ} {fz : Bool} {L : Nat} {xs : Nat → Int32}, zGo (zX fz L xs) d q_121 (39, [(0, .ref 1007), (1, .int x1), (2, .int x2)], [], zmk s w, 0, 0) (some (.int v), zmk s2 w, 0, 0)) (hr47 : ∀ (x1 : Int32) (x2 : Int32) (x3 : Int32) (s : zσ) (v : Int32) (s2 : zσ), r47 x1 x2 x3 s = some (v, s2) → ∀ {w : zσ} {fz : Bool} {L : Nat} {xs : Nat → Int32}, zGo (zX fz L xs) d q_121 (47, [(0, .ref 1007), (1, .int x1), (2, .int x2), (3, .int x3)], [], zmk s w, 0, 0) (some (.int v), zmk s2 w, 0, 0)) (h : f121_96 n r39 r47 x1 x2 x3 y0 s = some (v, s2)) {w : zσ} {fz : Bool} {L : Nat} {xs : Nat → Int32} : zGo (zX fz L xs) d q_121 (96, [(0, .ref 1007), (1, .int x1), (2, .int x2), (3, .int x3)], [.int y0], zmk s w, 0, 0) (some (.int v), zmk s2 w, 0, 0) := by
  obtain ⟨d, rfl⟩ : ∃ d0, d = d0 + 1 := ⟨d - 1, by omega⟩
  unfold f121_96 at h
  refine zGo_s (pc' := 98) (st' := []) (lv' := [(5, .int y0), (0, .ref 1007), (1, .int x1), (2, .int x2), (3, .int x3)]) dd121_96 rfl ?_
  refine zGo_s (pc' := 100) (st' := [.int y0]) dd121_98 rfl ?_
  refine zGo_s (pc' := 101) (st' := [.int x2, .int y0]) dd121_100 rfl ?_
  rcases oite h with ⟨hc, h⟩ | ⟨hc, h⟩
  · refine zIF dd121_101 (kNeF hc) ?_
    refine zGo_s (pc' := 105) (st' := [.ref 1007]) dd121_104 rfl ?_
    refine cGF (e := 1022) dd121_105 rfl rfl rfl rfl rfl ?_
    refine cGF (e := 1023) dd121_108 rfl rfl rfl rfl rfl ?_
    refine zGo_s (pc' := 112) (st' := [.int x3, .ref 1023]) dd121_111 rfl ?_
    obtain ⟨hi, h⟩ := ochk h
    refine cIA dd121_112 rfl rfl hi ?_
    refine zGo_s (pc' := 116) (st' := [.int (-2000000000 : Int32), .int (s.1 1023 (nx x3))]) dd121_113 rfl ?_
    rcases oite h with ⟨hc, h⟩ | ⟨hc, h⟩
    · refine zIF dd121_116 (kNeF hc) ?_
      refine zGo_s (pc' := 120) (st' := [.ref 1007]) dd121_119 rfl ?_
      refine cGF (e := 1022) dd121_120 rfl rfl rfl rfl rfl ?_
      refine cGF (e := 1026) dd121_123 rfl rfl rfl rfl rfl ?_
      refine zGo_s (pc' := 127) (st' := [.int x3, .ref 1026]) dd121_126 rfl ?_
      obtain ⟨hi, h⟩ := ochk h
      refine cIA dd121_127 rfl rfl hi ?_
      refine zGo_s (pc' := 129) (st' := [.int x1, .int (s.1 1026 (nx x3))]) dd121_128 rfl ?_
      rcases oite h with ⟨hc, h⟩ | ⟨hc, h⟩
      · refine zIF dd121_129 (kNeF hc) ?_
        refine zGo_s (pc' := 133) (st' := [.ref 1007]) dd121_132 rfl ?_
        refine zGo_s (pc' := 134) (st' := [.int x3, .ref 1007]) dd121_133 rfl ?_
        obtain ⟨v2, u1, hq, h⟩ := obnd h
        refine zCV1 (As := [.int x3]) (rest := []) (b := 1007) (q' := q_87) dd121_134 rfl rfl (rcv_c rfl rfl (by decide)) rfl rfl rfl (f87_ok (d := d) (by omega)  hq) ?_
        refine zGo_s (pc' := 138) (st' := []) dd121_137 rfl ?_
        exact zGo_lv (lv := [(0, .ref 1007), (1, .int x1), (2, .int x2), (3, .int x3)]) ⟨by simp, by simp, by simp⟩ (f121_138_ok hd hr39 hr47 h)
      · refine zIT dd121_129 rfl (kNeT hc) ?_
        exact zGo_lv (lv := [(0, .ref 1007), (1, .int x1), (2, .int x2), (3, .int x3)]) ⟨by simp, by simp, by simp⟩ (f121_138_ok hd hr39 hr47 h)
    · refine zIT dd121_116 rfl (kNeT hc) ?_
      exact zGo_lv (lv := [(0, .ref 1007), (1, .int x1), (2, .int x2), (3, .int x3)]) ⟨by simp, by simp, by simp⟩ (f121_138_ok hd hr39 hr47 h)
  · refine zIT dd121_101 rfl (kNeT hc) ?_
    exact zGo_lv (lv := [(0, .ref 1007), (1, .int x1), (2, .int x2), (3, .int x3)]) ⟨by simp, by simp, by simp⟩ (f121_138_ok hd hr39 hr47 h)
def f121_47 (n : Nat) (r39 : Int32 → Int32 → zσ → Option (Int32 × zσ)) : Nat → Int32 → Int32 → Int32 → zσ → Option (Int32 × zσ)
  | 0, _, _, _, _ => none
  | j + 1, x1, x2, x3, s =>
    if x3 < ((2 : Int32) * (s.1 1007 12)) then
    if zin? (x3 / (2 : Int32)) 8 = true then
    zrd 8 (s.2.2 1008 (nx (x3 / (2 : Int32)))) fun a1 =>
    if (s.1 a1 3) = (0 : Int32) then
    zrd 9 (s.2.2 1007 8) fun a2 =>
    if zin? (s.1 a1 0) 8 = true then
    f121_96 n r39 (f121_47 n r39 j) x1 x2 x3 (s.1 (a2 + 14) (nx (s.1 a1 0))) s
    else none
    else f121_96 n r39 (f121_47 n r39 j) x1 x2 x3 (s.1 a1 4) s
    else none
    else r39 x1 (x2 + (1 : Int32)) s
set_option maxRecDepth 20000 in
theorem f121_47_ok {n d : Nat} {r39 : Int32 → Int32 → zσ → Option (Int32 × zσ)} (hd : 2 ≤ d) (hr39 : ∀ (x1 : Int32) (x2 : Int32) (s : zσ) (v : Int32) (s2 : zσ), r39 x1 x2 s = some (v, s2) → ∀ {w : zσ} {fz : Bool} {L : Nat} {xs : Nat → Int32}, zGo (zX fz L xs) d q_121 (39, [(0, .ref 1007), (1, .int x1), (2, .int x2)], [], zmk s w, 0, 0) (some (.int v), zmk s2 w, 0, 0)) : ∀ (j : Nat) (x1 : Int32) (x2 : Int32) (x3 : Int32) (s : zσ) (v : Int32) (s2 : zσ), f121_47 n r39 j x1 x2 x3 s = some (v, s2) → ∀ {w : zσ} {fz : Bool} {L : Nat} {xs : Nat → Int32}, zGo (zX fz L xs) d q_121 (47, [(0, .ref 1007), (1, .int x1), (2, .int x2), (3, .int x3)], [], zmk s w, 0, 0) (some (.int v), zmk s2 w, 0, 0) := by
  obtain ⟨d, rfl⟩ : ∃ d0, d = d0 + 1 := ⟨d - 1, by omega⟩
  intro j
  induction j with
  | zero => intro x1 x2 x3 s v s2 h; cases h
  | succ j ih =>
    intro x1 x2 x3 s v s2 h w fz L xs
    rw [f121_47] at h
    refine zGo_s (pc' := 48) (st' := [.int x3]) dd121_47 rfl ?_
    refine zGo_s (pc' := 49) (st' := [.int (2 : Int32), .int x3]) dd121_48 rfl ?_
    refine zGo_s (pc' := 50) (st' := [.ref 1007, .int (2 : Int32), .int x3]) dd121_49 rfl ?_
    refine cGI dd121_50 rfl rfl rfl rfl ?_
    refine zGo_s (pc' := 54) (st' := [.int ((2 : Int32) * (s.1 1007 12)), .int x3]) dd121_53 rfl ?_
    rcases oite h with ⟨hc, h⟩ | ⟨hc, h⟩
    · refine zIF dd121_54 (kGeF hc) ?_
      refine zGo_s (pc' := 58) (st' := [.ref 1007]) dd121_57 rfl ?_
      refine cGF (e := 1008) dd121_58 rfl rfl rfl rfl rfl ?_
      refine zGo_s (pc' := 62) (st' := [.int x3, .ref 1008]) dd121_61 rfl ?_
      refine zGo_s (pc' := 63) (st' := [.int (2 : Int32), .int x3, .ref 1008]) dd121_62 rfl ?_
      refine zGo_s (pc' := 64) (st' := [.int (x3 / (2 : Int32)), .ref 1008]) dd121_63 rfl ?_
      obtain ⟨hi, h⟩ := ochk h
      obtain ⟨a1, e_a1, c_a1, h⟩ := ordd h
      refine cAA dd121_64 rfl rfl (Or.inl rfl) hi e_a1 ?_
      refine zGo_s (pc' := 67) (st' := []) (lv' := [(4, .ref a1), (0, .ref 1007), (1, .int x1), (2, .int x2), (3, .int x3)]) dd121_65 rfl ?_
      refine zGo_s (pc' := 69) (st' := [.ref a1]) dd121_67 rfl ?_
      refine cGI dd121_69 rfl (ck8_s c_a1).1 (ck8_s c_a1).2 rfl ?_
      rcases oite h with ⟨hc, h⟩ | ⟨hc, h⟩
      · refine zUF dd121_72 (kNeF hc) ?_
        refine zGo_s (pc' := 76) (st' := [.ref 1007]) dd121_75 rfl ?_
        obtain ⟨a2, e_a2, c_a2, h⟩ := ordd h
        refine cGR dd121_76 rfl rfl rfl rfl e_a2 ?_
        refine cGF (e := (a2 + 14)) dd121_79 rfl (ck9_s c_a2).1 (ck9_s c_a2).2 rfl (cf9_4 c_a2).1 ?_
        refine zGo_s (pc' := 84) (st' := [.ref a1, .ref (a2 + 14)]) dd121_82 rfl ?_
        refine cGI dd121_84 rfl (ck8_s c_a1).1 (ck8_s c_a1).2 rfl ?_
        obtain ⟨hi, h⟩ := ochk h
        refine cIA dd121_87 (cf9_4 c_a2).2.1 (cf9_4 c_a2).2.2 hi ?_
        refine zGo_s (pc' := 96) (st' := [.int (s.1 (a2 + 14) (nx (s.1 a1 0)))]) dd121_88 rfl ?_
        exact zGo_lv (lv := [(0, .ref 1007), (1, .int x1), (2, .int x2), (3, .int x3)]) ⟨by simp, by simp, by simp⟩ (f121_96_ok hd hr39 ih h)
      · refine zUT dd121_72 rfl (kNeT hc) ?_
        refine zGo_s (pc' := 93) (st' := [.ref a1]) dd121_91 rfl ?_
        refine cGI dd121_93 rfl (ck8_s c_a1).1 (ck8_s c_a1).2 rfl ?_
        exact zGo_lv (lv := [(0, .ref 1007), (1, .int x1), (2, .int x2), (3, .int x3)]) ⟨by simp, by simp, by simp⟩ (f121_96_ok hd hr39 ih h)
    · refine zIT dd121_54 rfl (kGeT hc) ?_
      refine zGo_s (pc' := 147) (st' := []) (lv' := [(2, .int (x2 + (1 : Int32))), (0, .ref 1007), (1, .int x1), (3, .int x3)]) dd121_144 rfl ?_
      refine zGo_s (pc' := 39) (st' := []) dd121_147 rfl ?_
      exact zGo_lv (lv := [(0, .ref 1007), (1, .int x1), (2, .int (x2 + (1 : Int32)))]) ⟨by simp, by simp, by simp⟩ (hr39 _ _ _ _ _ h)
def f121_39 (n : Nat) : Nat → Int32 → Int32 → zσ → Option (Int32 × zσ)
  | 0, _, _, _ => none
  | j + 1, x1, x2, s =>
    if (9 : Int32) < x2 then
    some ((1 : Int32), s)
    else f121_47 n (f121_39 n j) n x1 x2 (0 : Int32) s
set_option maxRecDepth 20000 in
theorem f121_39_ok {n d : Nat} (hd : 2 ≤ d) : ∀ (j : Nat) (x1 : Int32) (x2 : Int32) (s : zσ) (v : Int32) (s2 : zσ), f121_39 n j x1 x2 s = some (v, s2) → ∀ {w : zσ} {fz : Bool} {L : Nat} {xs : Nat → Int32}, zGo (zX fz L xs) d q_121 (39, [(0, .ref 1007), (1, .int x1), (2, .int x2)], [], zmk s w, 0, 0) (some (.int v), zmk s2 w, 0, 0) := by
  obtain ⟨d, rfl⟩ : ∃ d0, d = d0 + 1 := ⟨d - 1, by omega⟩
  intro j
  induction j with
  | zero => intro x1 x2 s v s2 h; cases h
  | succ j ih =>
    intro x1 x2 s v s2 h w fz L xs
    rw [f121_39] at h
    refine zGo_s (pc' := 40) (st' := [.int x2]) dd121_39 rfl ?_
    refine zGo_s (pc' := 42) (st' := [.int (9 : Int32), .int x2]) dd121_40 rfl ?_
    rcases oite h with ⟨hc, h⟩ | ⟨hc, h⟩
    · refine zIT dd121_42 rfl (kGtT hc) ?_
      refine zGo_s (pc' := 151) (st' := [.int (1 : Int32)]) dd121_150 rfl ?_
      obtain ⟨rfl, rfl⟩ := oret h
      exact zGo_ret dd121_151 rfl rfl
    · refine zIF dd121_42 (kGtF hc) ?_
      refine zGo_s (pc' := 46) (st' := [.int (0 : Int32)]) dd121_45 rfl ?_
      refine zGo_s (pc' := 47) (st' := []) (lv' := [(3, .int (0 : Int32)), (0, .ref 1007), (1, .int x1), (2, .int x2)]) dd121_46 rfl ?_
      exact zGo_lv (lv := [(0, .ref 1007), (1, .int x1), (2, .int x2), (3, .int (0 : Int32))]) ⟨by simp, by simp, by simp⟩ (f121_47_ok hd ih _ _ _ _ _ _ _ h)
def f121 (n : Nat) (x1 : Int32) (s : zσ) : Option (Int32 × zσ) :=
    if zin? x1 4 = true then
    if (s.1 1027 (nx x1)) = (0 : Int32) then
    if zin? x1 4 = true then
    zlet (sI s 1028 (nx x1) (vp_nar .boolean (1 : Int32))) fun u2 =>
    some ((0 : Int32), u2)
    else none
    else if zin? x1 4 = true then
    if zin? x1 4 = true then
    zlet (sI s 1029 (nx x1) ((s.1 1029 (nx x1)) + (1 : Int32))) fun u1 =>
    f121_39 n n x1 (1 : Int32) u1
    else none
    else none
    else none
set_option maxRecDepth 20000 in
theorem f121_ok {n d : Nat} {x1 : Int32} {s : zσ} {v : Int32} {s2 : zσ} (hd : 2 ≤ d) (h : f121 n x1 s = some (v, s2)) {w : zσ} {fz : Bool} {L : Nat} {xs : Nat → Int32} : zGo (zX fz L xs) d q_121 (0, [(0, .ref 1007), (1, .int x1)], [], zmk s w, 0, 0) (some (.int v), zmk s2 w, 0, 0) := by
  obtain ⟨d, rfl⟩ : ∃ d0, d = d0 + 1 := ⟨d - 1, by omega⟩
  unfold f121 at h
  refine zGo_s (pc' := 1) (st' := [.ref 1007]) dd121_0 rfl ?_
  refine cGF (e := 1022) dd121_1 rfl rfl rfl rfl rfl ?_
  refine cGF (e := 1027) dd121_4 rfl rfl rfl rfl rfl ?_
  refine zGo_s (pc' := 8) (st' := [.int x1, .ref 1027]) dd121_7 rfl ?_
  obtain ⟨hi, h⟩ := ochk h
  refine cBA dd121_8 rfl rfl rfl hi ?_
  rcases oite h with ⟨hc, h⟩ | ⟨hc, h⟩
  · refine zUF dd121_9 (kNeF hc) ?_
    refine zGo_s (pc' := 13) (st' := [.ref 1007]) dd121_12 rfl ?_
    refine cGF (e := 1022) dd121_13 rfl rfl rfl rfl rfl ?_
    refine cGF (e := 1028) dd121_16 rfl rfl rfl rfl rfl ?_
    refine zGo_s (pc' := 20) (st' := [.int x1, .ref 1028]) dd121_19 rfl ?_
    refine zGo_s (pc' := 21) (st' := [.int (1 : Int32), .int x1, .ref 1028]) dd121_20 rfl ?_
    obtain ⟨hi, h⟩ := ochk h
    obtain ⟨u2, e_u2, h⟩ := olet h
    refine cBS dd121_21 rfl rfl rfl hi e_u2 ?_
    refine zGo_s (pc' := 23) (st' := [.int (0 : Int32)]) dd121_22 rfl ?_
    obtain ⟨rfl, rfl⟩ := oret h
    exact zGo_ret dd121_23 rfl rfl
  · refine zUT dd121_9 rfl (kNeT hc) ?_
    refine zGo_s (pc' := 25) (st' := [.ref 1007]) dd121_24 rfl ?_
    refine cGF (e := 1022) dd121_25 rfl rfl rfl rfl rfl ?_
    refine cGF (e := 1029) dd121_28 rfl rfl rfl rfl rfl ?_
    refine zGo_s (pc' := 32) (st' := [.int x1, .ref 1029]) dd121_31 rfl ?_
    refine zGo_s (pc' := 33) (st' := [.int x1, .ref 1029, .int x1, .ref 1029]) dd121_32 rfl ?_
    obtain ⟨hi, h⟩ := ochk h
    refine cIA dd121_33 rfl rfl hi ?_
    refine zGo_s (pc' := 35) (st' := [.int (1 : Int32), .int (s.1 1029 (nx x1)), .int x1, .ref 1029]) dd121_34 rfl ?_
    refine zGo_s (pc' := 36) (st' := [.int ((s.1 1029 (nx x1)) + (1 : Int32)), .int x1, .ref 1029]) dd121_35 rfl ?_
    obtain ⟨hi, h⟩ := ochk h
    obtain ⟨u1, e_u1, h⟩ := olet h
    refine cIS dd121_36 rfl rfl hi e_u1 ?_
    refine zGo_s (pc' := 38) (st' := [.int (1 : Int32)]) dd121_37 rfl ?_
    refine zGo_s (pc' := 39) (st' := []) (lv' := [(2, .int (1 : Int32)), (0, .ref 1007), (1, .int x1)]) dd121_38 rfl ?_
    exact zGo_lv (lv := [(0, .ref 1007), (1, .int x1), (2, .int (1 : Int32))]) ⟨by simp, by simp, by simp⟩ (f121_39_ok hd _ _ _ _ _ _ h)
/-! PH$Machine.enable(I)I -/
theorem dd122_0 : decode cX3_enable 0 = .ok (.aload_n 0, 1) := by decide +kernel
theorem dd122_1 : decode cX3_enable 1 = .ok (.getfield 34, 3) := by decide +kernel
theorem dd122_4 : decode cX3_enable 4 = .ok (.getfield 308, 3) := by decide +kernel
theorem dd122_7 : decode cX3_enable 7 = .ok (.iload_n 1, 1) := by decide +kernel
theorem dd122_8 : decode cX3_enable 8 = .ok (.iconst 1, 1) := by decide +kernel
theorem dd122_9 : decode cX3_enable 9 = .ok (.bastore, 1) := by decide +kernel
theorem dd122_10 : decode cX3_enable 10 = .ok (.aload_n 0, 1) := by decide +kernel
theorem dd122_11 : decode cX3_enable 11 = .ok (.getfield 34, 3) := by decide +kernel
theorem dd122_14 : decode cX3_enable 14 = .ok (.getfield 361, 3) := by decide +kernel
theorem dd122_17 : decode cX3_enable 17 = .ok (.iload_n 1, 1) := by decide +kernel
theorem dd122_18 : decode cX3_enable 18 = .ok (.baload, 1) := by decide +kernel
theorem dd122_19 : decode cX3_enable 19 = .ok (.ifCond .eq 19, 3) := by decide +kernel
theorem dd122_22 : decode cX3_enable 22 = .ok (.aload_n 0, 1) := by decide +kernel
theorem dd122_23 : decode cX3_enable 23 = .ok (.getfield 34, 3) := by decide +kernel
theorem dd122_26 : decode cX3_enable 26 = .ok (.getfield 361, 3) := by decide +kernel
theorem dd122_29 : decode cX3_enable 29 = .ok (.iload_n 1, 1) := by decide +kernel
theorem dd122_30 : decode cX3_enable 30 = .ok (.iconst 0, 1) := by decide +kernel
theorem dd122_31 : decode cX3_enable 31 = .ok (.bastore, 1) := by decide +kernel
theorem dd122_32 : decode cX3_enable 32 = .ok (.aload_n 0, 1) := by decide +kernel
theorem dd122_33 : decode cX3_enable 33 = .ok (.iload_n 1, 1) := by decide +kernel
theorem dd122_34 : decode cX3_enable 34 = .ok (.invokevirtual 302, 3) := by decide +kernel
theorem dd122_37 : decode cX3_enable 37 = .ok (.pop, 1) := by decide +kernel
theorem dd122_38 : decode cX3_enable 38 = .ok (.iconst 0, 1) := by decide +kernel
theorem dd122_39 : decode cX3_enable 39 = .ok (.ireturn, 1) := by decide +kernel
def f122 (n : Nat) (x1 : Int32) (s : zσ) : Option (Int32 × zσ) :=
    if zin? x1 4 = true then
    zlet (sI s 1027 (nx x1) (vp_nar .boolean (1 : Int32))) fun u1 =>
    if zin? x1 4 = true then
    if (u1.1 1028 (nx x1)) = (0 : Int32) then
    some ((0 : Int32), u1)
    else if zin? x1 4 = true then
    zlet (sI u1 1028 (nx x1) (vp_nar .boolean (0 : Int32))) fun u2 =>
    yb1 (f121 n x1 u2) fun v4 u3 =>
    some ((0 : Int32), u3)
    else none
    else none
    else none
set_option maxRecDepth 20000 in
theorem f122_ok {n d : Nat} {x1 : Int32} {s : zσ} {v : Int32} {s2 : zσ} (hd : 3 ≤ d) (h : f122 n x1 s = some (v, s2)) {w : zσ} {fz : Bool} {L : Nat} {xs : Nat → Int32} : zGo (zX fz L xs) d q_122 (0, [(0, .ref 1007), (1, .int x1)], [], zmk s w, 0, 0) (some (.int v), zmk s2 w, 0, 0) := by
  obtain ⟨d, rfl⟩ : ∃ d0, d = d0 + 1 := ⟨d - 1, by omega⟩
  unfold f122 at h
  refine zGo_s (pc' := 1) (st' := [.ref 1007]) dd122_0 rfl ?_
  refine cGF (e := 1022) dd122_1 rfl rfl rfl rfl rfl ?_
  refine cGF (e := 1027) dd122_4 rfl rfl rfl rfl rfl ?_
  refine zGo_s (pc' := 8) (st' := [.int x1, .ref 1027]) dd122_7 rfl ?_
  refine zGo_s (pc' := 9) (st' := [.int (1 : Int32), .int x1, .ref 1027]) dd122_8 rfl ?_
  obtain ⟨hi, h⟩ := ochk h
  obtain ⟨u1, e_u1, h⟩ := olet h
  refine cBS dd122_9 rfl rfl rfl hi e_u1 ?_
  refine zGo_s (pc' := 11) (st' := [.ref 1007]) dd122_10 rfl ?_
  refine cGF (e := 1022) dd122_11 rfl rfl rfl rfl rfl ?_
  refine cGF (e := 1028) dd122_14 rfl rfl rfl rfl rfl ?_
  refine zGo_s (pc' := 18) (st' := [.int x1, .ref 1028]) dd122_17 rfl ?_
  obtain ⟨hi, h⟩ := ochk h
  refine cBA dd122_18 rfl rfl rfl hi ?_
  rcases oite h with ⟨hc, h⟩ | ⟨hc, h⟩
  · refine zUT dd122_19 rfl (kEqT hc) ?_
    refine zGo_s (pc' := 39) (st' := [.int (0 : Int32)]) dd122_38 rfl ?_
    obtain ⟨rfl, rfl⟩ := oret h
    exact zGo_ret dd122_39 rfl rfl
  · refine zUF dd122_19 (kEqF hc) ?_
    refine zGo_s (pc' := 23) (st' := [.ref 1007]) dd122_22 rfl ?_
    refine cGF (e := 1022) dd122_23 rfl rfl rfl rfl rfl ?_
    refine cGF (e := 1028) dd122_26 rfl rfl rfl rfl rfl ?_
    refine zGo_s (pc' := 30) (st' := [.int x1, .ref 1028]) dd122_29 rfl ?_
    refine zGo_s (pc' := 31) (st' := [.int (0 : Int32), .int x1, .ref 1028]) dd122_30 rfl ?_
    obtain ⟨hi, h⟩ := ochk h
    obtain ⟨u2, e_u2, h⟩ := olet h
    refine cBS dd122_31 rfl rfl rfl hi e_u2 ?_
    refine zGo_s (pc' := 33) (st' := [.ref 1007]) dd122_32 rfl ?_
    refine zGo_s (pc' := 34) (st' := [.int x1, .ref 1007]) dd122_33 rfl ?_
    obtain ⟨v4, u3, hq, h⟩ := obnd h
    refine zCV1 (As := [.int x1]) (rest := []) (b := 1007) (q' := q_121) dd122_34 rfl rfl (rcv_c rfl rfl (by decide)) rfl rfl rfl (f121_ok (d := d) (by omega)  hq) ?_
    refine zGo_s (pc' := 38) (st' := []) dd122_37 rfl ?_
    refine zGo_s (pc' := 39) (st' := [.int (0 : Int32)]) dd122_38 rfl ?_
    obtain ⟨rfl, rfl⟩ := oret h
    exact zGo_ret dd122_39 rfl rfl
/-! PH$Timetable.size()I -/
theorem dd125_0 : decode cX10_size 0 = .ok (.iconst 0, 1) := by decide +kernel
theorem dd125_1 : decode cX10_size 1 = .ok (.istore_n 1, 1) := by decide +kernel
theorem dd125_2 : decode cX10_size 2 = .ok (.iconst 0, 1) := by decide +kernel
theorem dd125_3 : decode cX10_size 3 = .ok (.istore_n 2, 1) := by decide +kernel
theorem dd125_4 : decode cX10_size 4 = .ok (.iload_n 2, 1) := by decide +kernel
theorem dd125_5 : decode cX10_size 5 = .ok (.aload_n 0, 1) := by decide +kernel
theorem dd125_6 : decode cX10_size 6 = .ok (.getfield 9, 3) := by decide +kernel
theorem dd125_9 : decode cX10_size 9 = .ok (.arraylength, 1) := by decide +kernel
theorem dd125_10 : decode cX10_size 10 = .ok (.if_icmp .ge 22, 3) := by decide +kernel
theorem dd125_13 : decode cX10_size 13 = .ok (.aload_n 0, 1) := by decide +kernel
theorem dd125_14 : decode cX10_size 14 = .ok (.getfield 9, 3) := by decide +kernel
theorem dd125_17 : decode cX10_size 17 = .ok (.iload_n 2, 1) := by decide +kernel
theorem dd125_18 : decode cX10_size 18 = .ok (.iaload, 1) := by decide +kernel
theorem dd125_19 : decode cX10_size 19 = .ok (.iconst (-1), 1) := by decide +kernel
theorem dd125_20 : decode cX10_size 20 = .ok (.if_icmp .eq 6, 3) := by decide +kernel
theorem dd125_23 : decode cX10_size 23 = .ok (.iinc 1 1, 3) := by decide +kernel
theorem dd125_26 : decode cX10_size 26 = .ok (.iinc 2 1, 3) := by decide +kernel
theorem dd125_29 : decode cX10_size 29 = .ok (.goto (-25), 3) := by decide +kernel
theorem dd125_32 : decode cX10_size 32 = .ok (.iload_n 1, 1) := by decide +kernel
theorem dd125_33 : decode cX10_size 33 = .ok (.ireturn, 1) := by decide +kernel
def f125_26 (n : Nat) (r4 : Int32 → Int32 → zσ → Option (Int32 × zσ)) (x1 : Int32) (x2 : Int32) (s : zσ) : Option (Int32 × zσ) :=
    r4 x1 (x2 + (1 : Int32)) s
set_option maxRecDepth 20000 in
theorem f125_26_ok {n d : Nat} {r4 : Int32 → Int32 → zσ → Option (Int32 × zσ)} {x1 : Int32} {x2 : Int32} {s : zσ} {v : Int32} {s2 : zσ} (hd : 0 ≤ d) (hr4 : ∀ (x1 : Int32) (x2 : Int32) (s : zσ) (v : Int32) (s2 : zσ), r4 x1 x2 s = some (v, s2) → ∀ {w : zσ} {fz : Bool} {L : Nat} {xs : Nat → Int32}, zGo (zX fz L xs) d q_125 (4, [(0, .ref 1022), (1, .int x1), (2, .int x2)], [], zmk s w, 0, 0) (some (.int v), zmk s2 w, 0, 0)) (h : f125_26 n r4 x1 x2 s = some (v, s2)) {w : zσ} {fz : Bool} {L : Nat} {xs : Nat → Int32} : zGo (zX fz L xs) d q_125 (26, [(0, .ref 1022), (1, .int x1), (2, .int x2)], [], zmk s w, 0, 0) (some (.int v), zmk s2 w, 0, 0) := by
  unfold f125_26 at h
  refine zGo_s (pc' := 29) (st' := []) (lv' := [(2, .int (x2 + (1 : Int32))), (0, .ref 1022), (1, .int x1)]) dd125_26 rfl ?_
  refine zGo_s (pc' := 4) (st' := []) dd125_29 rfl ?_
  exact zGo_lv (lv := [(0, .ref 1022), (1, .int x1), (2, .int (x2 + (1 : Int32)))]) ⟨by simp, by simp, by simp⟩ (hr4 _ _ _ _ _ h)
def f125_4 (n : Nat) : Nat → Int32 → Int32 → zσ → Option (Int32 × zσ)
  | 0, _, _, _ => none
  | j + 1, x1, x2, s =>
    if x2 < (Int32.ofNat 16) then
    if zin? x2 16 = true then
    if (s.1 1023 (nx x2)) = (-1 : Int32) then
    f125_26 n (f125_4 n j) x1 x2 s
    else f125_26 n (f125_4 n j) (x1 + (1 : Int32)) x2 s
    else none
    else some (x1, s)
set_option maxRecDepth 20000 in
theorem f125_4_ok {n d : Nat} (hd : 0 ≤ d) : ∀ (j : Nat) (x1 : Int32) (x2 : Int32) (s : zσ) (v : Int32) (s2 : zσ), f125_4 n j x1 x2 s = some (v, s2) → ∀ {w : zσ} {fz : Bool} {L : Nat} {xs : Nat → Int32}, zGo (zX fz L xs) d q_125 (4, [(0, .ref 1022), (1, .int x1), (2, .int x2)], [], zmk s w, 0, 0) (some (.int v), zmk s2 w, 0, 0) := by
  intro j
  induction j with
  | zero => intro x1 x2 s v s2 h; cases h
  | succ j ih =>
    intro x1 x2 s v s2 h w fz L xs
    rw [f125_4] at h
    refine zGo_s (pc' := 5) (st' := [.int x2]) dd125_4 rfl ?_
    refine zGo_s (pc' := 6) (st' := [.ref 1022, .int x2]) dd125_5 rfl ?_
    refine cGF (e := 1023) dd125_6 rfl rfl rfl rfl rfl ?_
    refine cAL dd125_9 rfl rfl (by decide) ?_
    rcases oite h with ⟨hc, h⟩ | ⟨hc, h⟩
    · refine zIF dd125_10 (kGeF hc) ?_
      refine zGo_s (pc' := 14) (st' := [.ref 1022]) dd125_13 rfl ?_
      refine cGF (e := 1023) dd125_14 rfl rfl rfl rfl rfl ?_
      refine zGo_s (pc' := 18) (st' := [.int x2, .ref 1023]) dd125_17 rfl ?_
      obtain ⟨hi, h⟩ := ochk h
      refine cIA dd125_18 rfl rfl hi ?_
      refine zGo_s (pc' := 20) (st' := [.int (-1 : Int32), .int (s.1 1023 (nx x2))]) dd125_19 rfl ?_
      rcases oite h with ⟨hc, h⟩ | ⟨hc, h⟩
      · refine zIT dd125_20 rfl (kEqT hc) ?_
        exact f125_26_ok hd ih h
      · refine zIF dd125_20 (kEqF hc) ?_
        refine zGo_s (pc' := 26) (st' := []) (lv' := [(1, .int (x1 + (1 : Int32))), (0, .ref 1022), (2, .int x2)]) dd125_23 rfl ?_
        exact zGo_lv (lv := [(0, .ref 1022), (1, .int (x1 + (1 : Int32))), (2, .int x2)]) ⟨by simp, by simp, by simp⟩ (f125_26_ok hd ih h)
    · refine zIT dd125_10 rfl (kGeT hc) ?_
      refine zGo_s (pc' := 33) (st' := [.int x1]) dd125_32 rfl ?_
      obtain ⟨rfl, rfl⟩ := oret h
      exact zGo_ret dd125_33 rfl rfl
def f125 (n : Nat) (s : zσ) : Option (Int32 × zσ) :=
    f125_4 n n (0 : Int32) (0 : Int32) s
set_option maxRecDepth 20000 in
theorem f125_ok {n d : Nat} {s : zσ} {v : Int32} {s2 : zσ} (hd : 0 ≤ d) (h : f125 n s = some (v, s2)) {w : zσ} {fz : Bool} {L : Nat} {xs : Nat → Int32} : zGo (zX fz L xs) d q_125 (0, [(0, .ref 1022)], [], zmk s w, 0, 0) (some (.int v), zmk s2 w, 0, 0) := by
  unfold f125 at h
  refine zGo_s (pc' := 1) (st' := [.int (0 : Int32)]) dd125_0 rfl ?_
  refine zGo_s (pc' := 2) (st' := []) (lv' := [(1, .int (0 : Int32)), (0, .ref 1022)]) dd125_1 rfl ?_
  refine zGo_s (pc' := 3) (st' := [.int (0 : Int32)]) dd125_2 rfl ?_
  refine zGo_s (pc' := 4) (st' := []) (lv' := [(2, .int (0 : Int32)), (1, .int (0 : Int32)), (0, .ref 1022)]) dd125_3 rfl ?_
  exact zGo_lv (lv := [(0, .ref 1022), (1, .int (0 : Int32)), (2, .int (0 : Int32))]) ⟨by simp, by simp, by simp⟩ (f125_4_ok hd _ _ _ _ _ _ h)
/-! PH$Machine.plan(II)I -/
theorem dd124_0 : decode cX3_plan 0 = .ok (.iload_n 2, 1) := by decide +kernel
theorem dd124_1 : decode cX3_plan 1 = .ok (.sipush 141, 3) := by decide +kernel
theorem dd124_4 : decode cX3_plan 4 = .ok (.if_icmp .lt 7, 3) := by decide +kernel
theorem dd124_7 : decode cX3_plan 7 = .ok (.iconst 1, 1) := by decide +kernel
theorem dd124_8 : decode cX3_plan 8 = .ok (.goto 4, 3) := by decide +kernel
theorem dd124_11 : decode cX3_plan 11 = .ok (.iconst 0, 1) := by decide +kernel
theorem dd124_12 : decode cX3_plan 12 = .ok (.istore_n 3, 1) := by decide +kernel
theorem dd124_13 : decode cX3_plan 13 = .ok (.iload_n 2, 1) := by decide +kernel
theorem dd124_14 : decode cX3_plan 14 = .ok (.sipush 147, 3) := by decide +kernel
theorem dd124_17 : decode cX3_plan 17 = .ok (.if_icmp .eq 10, 3) := by decide +kernel
theorem dd124_20 : decode cX3_plan 20 = .ok (.iload_n 2, 1) := by decide +kernel
theorem dd124_21 : decode cX3_plan 21 = .ok (.sipush 141, 3) := by decide +kernel
theorem dd124_24 : decode cX3_plan 24 = .ok (.if_icmp .ne 7, 3) := by decide +kernel
theorem dd124_27 : decode cX3_plan 27 = .ok (.iconst 1, 1) := by decide +kernel
theorem dd124_28 : decode cX3_plan 28 = .ok (.goto 4, 3) := by decide +kernel
theorem dd124_31 : decode cX3_plan 31 = .ok (.iconst 0, 1) := by decide +kernel
theorem dd124_32 : decode cX3_plan 32 = .ok (.istore 4, 2) := by decide +kernel
theorem dd124_34 : decode cX3_plan 34 = .ok (.aload_n 0, 1) := by decide +kernel
theorem dd124_35 : decode cX3_plan 35 = .ok (.getfield 45, 3) := by decide +kernel
theorem dd124_38 : decode cX3_plan 38 = .ok (.iconst 0, 1) := by decide +kernel
theorem dd124_39 : decode cX3_plan 39 = .ok (.iaload, 1) := by decide +kernel
theorem dd124_40 : decode cX3_plan 40 = .ok (.istore 5, 2) := by decide +kernel
theorem dd124_42 : decode cX3_plan 42 = .ok (.iload_n 2, 1) := by decide +kernel
theorem dd124_43 : decode cX3_plan 43 = .ok (.sipush 145, 3) := by decide +kernel
theorem dd124_46 : decode cX3_plan 46 = .ok (.if_icmp .ne 9, 3) := by decide +kernel
theorem dd124_49 : decode cX3_plan 49 = .ok (.iload 5, 2) := by decide +kernel
theorem dd124_51 : decode cX3_plan 51 = .ok (.i2l, 1) := by decide +kernel
theorem dd124_52 : decode cX3_plan 52 = .ok (.goto 12, 3) := by decide +kernel
theorem dd124_55 : decode cX3_plan 55 = .ok (.aload_n 0, 1) := by decide +kernel
theorem dd124_56 : decode cX3_plan 56 = .ok (.getfield 78, 3) := by decide +kernel
theorem dd124_59 : decode cX3_plan 59 = .ok (.i2l, 1) := by decide +kernel
theorem dd124_60 : decode cX3_plan 60 = .ok (.iload 5, 2) := by decide +kernel
theorem dd124_62 : decode cX3_plan 62 = .ok (.i2l, 1) := by decide +kernel
theorem dd124_63 : decode cX3_plan 63 = .ok (.ladd, 1) := by decide +kernel
theorem dd124_64 : decode cX3_plan 64 = .ok (.lstore 6, 2) := by decide +kernel
theorem dd124_66 : decode cX3_plan 66 = .ok (.iload_n 2, 1) := by decide +kernel
theorem dd124_67 : decode cX3_plan 67 = .ok (.sipush 141, 3) := by decide +kernel
theorem dd124_70 : decode cX3_plan 70 = .ok (.if_icmp .ne 12, 3) := by decide +kernel
theorem dd124_73 : decode cX3_plan 73 = .ok (.aload_n 0, 1) := by decide +kernel
theorem dd124_74 : decode cX3_plan 74 = .ok (.getfield 45, 3) := by decide +kernel
theorem dd124_77 : decode cX3_plan 77 = .ok (.iconst 1, 1) := by decide +kernel
theorem dd124_78 : decode cX3_plan 78 = .ok (.iaload, 1) := by decide +kernel
theorem dd124_79 : decode cX3_plan 79 = .ok (.goto 6, 3) := by decide +kernel
theorem dd124_82 : decode cX3_plan 82 = .ok (.ldc_w 326, 3) := by decide +kernel
theorem dd124_85 : decode cX3_plan 85 = .ok (.istore 8, 2) := by decide +kernel
theorem dd124_87 : decode cX3_plan 87 = .ok (.iload_n 2, 1) := by decide +kernel
theorem dd124_88 : decode cX3_plan 88 = .ok (.sipush 145, 3) := by decide +kernel
theorem dd124_91 : decode cX3_plan 91 = .ok (.if_icmp .ne 20, 3) := by decide +kernel
theorem dd124_94 : decode cX3_plan 94 = .ok (.iload 5, 2) := by decide +kernel
theorem dd124_96 : decode cX3_plan 96 = .ok (.aload_n 0, 1) := by decide +kernel
theorem dd124_97 : decode cX3_plan 97 = .ok (.getfield 78, 3) := by decide +kernel
theorem dd124_100 : decode cX3_plan 100 = .ok (.if_icmp .ge 7, 3) := by decide +kernel
theorem dd124_103 : decode cX3_plan 103 = .ok (.iconst 1, 1) := by decide +kernel
theorem dd124_104 : decode cX3_plan 104 = .ok (.goto 18, 3) := by decide +kernel
theorem dd124_107 : decode cX3_plan 107 = .ok (.iconst 0, 1) := by decide +kernel
theorem dd124_108 : decode cX3_plan 108 = .ok (.goto 14, 3) := by decide +kernel
theorem dd124_111 : decode cX3_plan 111 = .ok (.iload 5, 2) := by decide +kernel
theorem dd124_113 : decode cX3_plan 113 = .ok (.iconst 1, 1) := by decide +kernel
theorem dd124_114 : decode cX3_plan 114 = .ok (.if_icmp .ge 7, 3) := by decide +kernel
theorem dd124_117 : decode cX3_plan 117 = .ok (.iconst 1, 1) := by decide +kernel
theorem dd124_118 : decode cX3_plan 118 = .ok (.goto 4, 3) := by decide +kernel
theorem dd124_121 : decode cX3_plan 121 = .ok (.iconst 0, 1) := by decide +kernel
theorem dd124_122 : decode cX3_plan 122 = .ok (.istore 9, 2) := by decide +kernel
theorem dd124_124 : decode cX3_plan 124 = .ok (.iload_n 3, 1) := by decide +kernel
theorem dd124_125 : decode cX3_plan 125 = .ok (.ifCond .eq 29, 3) := by decide +kernel
theorem dd124_128 : decode cX3_plan 128 = .ok (.iload 9, 2) := by decide +kernel
theorem dd124_130 : decode cX3_plan 130 = .ok (.ifCond .ne 21, 3) := by decide +kernel
theorem dd124_133 : decode cX3_plan 133 = .ok (.lload 6, 2) := by decide +kernel
theorem dd124_135 : decode cX3_plan 135 = .ok (.ldc2_w 327, 3) := by decide +kernel
theorem dd124_138 : decode cX3_plan 138 = .ok (.lcmp, 1) := by decide +kernel
theorem dd124_139 : decode cX3_plan 139 = .ok (.ifCond .gt 12, 3) := by decide +kernel
theorem dd124_142 : decode cX3_plan 142 = .ok (.iload 8, 2) := by decide +kernel
theorem dd124_144 : decode cX3_plan 144 = .ok (.i2l, 1) := by decide +kernel
theorem dd124_145 : decode cX3_plan 145 = .ok (.lload 6, 2) := by decide +kernel
theorem dd124_147 : decode cX3_plan 147 = .ok (.lcmp, 1) := by decide +kernel
theorem dd124_148 : decode cX3_plan 148 = .ok (.ifCond .ge 6, 3) := by decide +kernel
theorem dd124_151 : decode cX3_plan 151 = .ok (.bipush 9, 2) := by decide +kernel
theorem dd124_153 : decode cX3_plan 153 = .ok (.ireturn, 1) := by decide +kernel
theorem dd124_154 : decode cX3_plan 154 = .ok (.aload_n 0, 1) := by decide +kernel
theorem dd124_155 : decode cX3_plan 155 = .ok (.getfield 34, 3) := by decide +kernel
theorem dd124_158 : decode cX3_plan 158 = .ok (.getfield 163, 3) := by decide +kernel
theorem dd124_161 : decode cX3_plan 161 = .ok (.iload_n 1, 1) := by decide +kernel
theorem dd124_162 : decode cX3_plan 162 = .ok (.iaload, 1) := by decide +kernel
theorem dd124_163 : decode cX3_plan 163 = .ok (.iconst (-1), 1) := by decide +kernel
theorem dd124_164 : decode cX3_plan 164 = .ok (.if_icmp .ne 18, 3) := by decide +kernel
theorem dd124_167 : decode cX3_plan 167 = .ok (.aload_n 0, 1) := by decide +kernel
theorem dd124_168 : decode cX3_plan 168 = .ok (.getfield 34, 3) := by decide +kernel
theorem dd124_171 : decode cX3_plan 171 = .ok (.invokevirtual 140, 3) := by decide +kernel
theorem dd124_174 : decode cX3_plan 174 = .ok (.bipush 12, 2) := by decide +kernel
theorem dd124_176 : decode cX3_plan 176 = .ok (.if_icmp .lt 6, 3) := by decide +kernel
theorem dd124_179 : decode cX3_plan 179 = .ok (.bipush 7, 2) := by decide +kernel
theorem dd124_181 : decode cX3_plan 181 = .ok (.ireturn, 1) := by decide +kernel
theorem dd124_182 : decode cX3_plan 182 = .ok (.aload_n 0, 1) := by decide +kernel
theorem dd124_183 : decode cX3_plan 183 = .ok (.getfield 34, 3) := by decide +kernel
theorem dd124_186 : decode cX3_plan 186 = .ok (.getfield 163, 3) := by decide +kernel
theorem dd124_189 : decode cX3_plan 189 = .ok (.iload_n 1, 1) := by decide +kernel
theorem dd124_190 : decode cX3_plan 190 = .ok (.iload_n 3, 1) := by decide +kernel
theorem dd124_191 : decode cX3_plan 191 = .ok (.ifCond .eq 9, 3) := by decide +kernel
theorem dd124_194 : decode cX3_plan 194 = .ok (.lload 6, 2) := by decide +kernel
theorem dd124_196 : decode cX3_plan 196 = .ok (.l2i, 1) := by decide +kernel
theorem dd124_197 : decode cX3_plan 197 = .ok (.goto 6, 3) := by decide +kernel
theorem dd124_200 : decode cX3_plan 200 = .ok (.ldc_w 329, 3) := by decide +kernel
theorem dd124_203 : decode cX3_plan 203 = .ok (.iastore, 1) := by decide +kernel
theorem dd124_204 : decode cX3_plan 204 = .ok (.aload_n 0, 1) := by decide +kernel
theorem dd124_205 : decode cX3_plan 205 = .ok (.getfield 34, 3) := by decide +kernel
theorem dd124_208 : decode cX3_plan 208 = .ok (.getfield 330, 3) := by decide +kernel
theorem dd124_211 : decode cX3_plan 211 = .ok (.iload_n 1, 1) := by decide +kernel
theorem dd124_212 : decode cX3_plan 212 = .ok (.iload 4, 2) := by decide +kernel
theorem dd124_214 : decode cX3_plan 214 = .ok (.ifCond .eq 8, 3) := by decide +kernel
theorem dd124_217 : decode cX3_plan 217 = .ok (.iload 5, 2) := by decide +kernel
theorem dd124_219 : decode cX3_plan 219 = .ok (.goto 4, 3) := by decide +kernel
theorem dd124_222 : decode cX3_plan 222 = .ok (.iconst 0, 1) := by decide +kernel
theorem dd124_223 : decode cX3_plan 223 = .ok (.iastore, 1) := by decide +kernel
theorem dd124_224 : decode cX3_plan 224 = .ok (.aload_n 0, 1) := by decide +kernel
theorem dd124_225 : decode cX3_plan 225 = .ok (.getfield 34, 3) := by decide +kernel
theorem dd124_228 : decode cX3_plan 228 = .ok (.getfield 333, 3) := by decide +kernel
theorem dd124_231 : decode cX3_plan 231 = .ok (.iload_n 1, 1) := by decide +kernel
theorem dd124_232 : decode cX3_plan 232 = .ok (.iload 8, 2) := by decide +kernel
theorem dd124_234 : decode cX3_plan 234 = .ok (.iastore, 1) := by decide +kernel
theorem dd124_235 : decode cX3_plan 235 = .ok (.aload_n 0, 1) := by decide +kernel
theorem dd124_236 : decode cX3_plan 236 = .ok (.getfield 34, 3) := by decide +kernel
theorem dd124_239 : decode cX3_plan 239 = .ok (.getfield 336, 3) := by decide +kernel
theorem dd124_242 : decode cX3_plan 242 = .ok (.iload_n 1, 1) := by decide +kernel
theorem dd124_243 : decode cX3_plan 243 = .ok (.iload_n 3, 1) := by decide +kernel
theorem dd124_244 : decode cX3_plan 244 = .ok (.ifCond .eq 7, 3) := by decide +kernel
theorem dd124_247 : decode cX3_plan 247 = .ok (.iconst (-1), 1) := by decide +kernel
theorem dd124_248 : decode cX3_plan 248 = .ok (.goto 4, 3) := by decide +kernel
theorem dd124_251 : decode cX3_plan 251 = .ok (.iload_n 2, 1) := by decide +kernel
theorem dd124_252 : decode cX3_plan 252 = .ok (.iastore, 1) := by decide +kernel
theorem dd124_253 : decode cX3_plan 253 = .ok (.iconst 0, 1) := by decide +kernel
theorem dd124_254 : decode cX3_plan 254 = .ok (.ireturn, 1) := by decide +kernel
def f124_252 (n : Nat) (y0 : Int32) (y1 : Int32) (s : zσ) : Option (Int32 × zσ) :=
    if zin? y1 16 = true then
    zlet (sI s 1026 (nx y1) y0) fun u1 =>
    some ((0 : Int32), u1)
    else none
set_option maxRecDepth 20000 in
theorem f124_252_ok {n d : Nat} {y0 : Int32} {y1 : Int32} {s : zσ} {v : Int32} {s2 : zσ} (hd : 1 ≤ d) (h : f124_252 n y0 y1 s = some (v, s2)) {w : zσ} {fz : Bool} {L : Nat} {xs : Nat → Int32} : zGo (zX fz L xs) d q_124 (252, [], [.int y0, .int y1, .ref 1026], zmk s w, 0, 0) (some (.int v), zmk s2 w, 0, 0) := by
  obtain ⟨d, rfl⟩ : ∃ d0, d = d0 + 1 := ⟨d - 1, by omega⟩
  unfold f124_252 at h
  obtain ⟨hi, h⟩ := ochk h
  obtain ⟨u1, e_u1, h⟩ := olet h
  refine cIS dd124_252 rfl rfl hi e_u1 ?_
  refine zGo_s (pc' := 254) (st' := [.int (0 : Int32)]) dd124_253 rfl ?_
  obtain ⟨rfl, rfl⟩ := oret h
  exact zGo_ret dd124_254 rfl rfl
def f124_223 (n : Nat) (x1 : Int32) (x2 : Int32) (x3 : Int32) (x8 : Int32) (y0 : Int32) (y1 : Int32) (s : zσ) : Option (Int32 × zσ) :=
    if zin? y1 16 = true then
    zlet (sI s 1024 (nx y1) y0) fun u1 =>
    if zin? x1 16 = true then
    zlet (sI u1 1025 (nx x1) x8) fun u2 =>
    if x3 = (0 : Int32) then
    f124_252 n x2 x1 u2
    else f124_252 n (-1 : Int32) x1 u2
    else none
    else none
set_option maxRecDepth 20000 in
theorem f124_223_ok {n d : Nat} {x1 : Int32} {x2 : Int32} {x3 : Int32} {x8 : Int32} {y0 : Int32} {y1 : Int32} {s : zσ} {v : Int32} {s2 : zσ} (hd : 1 ≤ d) (h : f124_223 n x1 x2 x3 x8 y0 y1 s = some (v, s2)) {w : zσ} {fz : Bool} {L : Nat} {xs : Nat → Int32} : zGo (zX fz L xs) d q_124 (223, [(0, .ref 1007), (1, .int x1), (2, .int x2), (3, .int x3), (8, .int x8)], [.int y0, .int y1, .ref 1024], zmk s w, 0, 0) (some (.int v), zmk s2 w, 0, 0) := by
  obtain ⟨d, rfl⟩ : ∃ d0, d = d0 + 1 := ⟨d - 1, by omega⟩
  unfold f124_223 at h
  obtain ⟨hi, h⟩ := ochk h
  obtain ⟨u1, e_u1, h⟩ := olet h
  refine cIS dd124_223 rfl rfl hi e_u1 ?_
  refine zGo_s (pc' := 225) (st' := [.ref 1007]) dd124_224 rfl ?_
  refine cGF (e := 1022) dd124_225 rfl rfl rfl rfl rfl ?_
  refine cGF (e := 1025) dd124_228 rfl rfl rfl rfl rfl ?_
  refine zGo_s (pc' := 232) (st' := [.int x1, .ref 1025]) dd124_231 rfl ?_
  refine zGo_s (pc' := 234) (st' := [.int x8, .int x1, .ref 1025]) dd124_232 rfl ?_
  obtain ⟨hi, h⟩ := ochk h
  obtain ⟨u2, e_u2, h⟩ := olet h
  refine cIS dd124_234 rfl rfl hi e_u2 ?_
  refine zGo_s (pc' := 236) (st' := [.ref 1007]) dd124_235 rfl ?_
  refine cGF (e := 1022) dd124_236 rfl rfl rfl rfl rfl ?_
  refine cGF (e := 1026) dd124_239 rfl rfl rfl rfl rfl ?_
  refine zGo_s (pc' := 243) (st' := [.int x1, .ref 1026]) dd124_242 rfl ?_
  refine zGo_s (pc' := 244) (st' := [.int x3, .int x1, .ref 1026]) dd124_243 rfl ?_
  rcases oite h with ⟨hc, h⟩ | ⟨hc, h⟩
  · refine zUT dd124_244 rfl (kEqT hc) ?_
    refine zGo_s (pc' := 252) (st' := [.int x2, .int x1, .ref 1026]) dd124_251 rfl ?_
    exact zGo_lv (lv := []) ⟨by simp, by simp, by simp⟩ (f124_252_ok hd h)
  · refine zUF dd124_244 (kEqF hc) ?_
    refine zGo_s (pc' := 248) (st' := [.int (-1 : Int32), .int x1, .ref 1026]) dd124_247 rfl ?_
    refine zGo_s (pc' := 252) (st' := [.int (-1 : Int32), .int x1, .ref 1026]) dd124_248 rfl ?_
    exact zGo_lv (lv := []) ⟨by simp, by simp, by simp⟩ (f124_252_ok hd h)
def f124_203 (n : Nat) (x1 : Int32) (x2 : Int32) (x3 : Int32) (x4 : Int32) (x5 : Int32) (x8 : Int32) (y0 : Int32) (y1 : Int32) (s : zσ) : Option (Int32 × zσ) :=
    if zin? y1 16 = true then
    zlet (sI s 1023 (nx y1) y0) fun u1 =>
    if x4 = (0 : Int32) then
    f124_223 n x1 x2 x3 x8 (0 : Int32) x1 u1
    else f124_223 n x1 x2 x3 x8 x5 x1 u1
    else none
set_option maxRecDepth 20000 in
theorem f124_203_ok {n d : Nat} {x1 : Int32} {x2 : Int32} {x3 : Int32} {x4 : Int32} {x5 : Int32} {x8 : Int32} {y0 : Int32} {y1 : Int32} {s : zσ} {v : Int32} {s2 : zσ} (hd : 1 ≤ d) (h : f124_203 n x1 x2 x3 x4 x5 x8 y0 y1 s = some (v, s2)) {w : zσ} {fz : Bool} {L : Nat} {xs : Nat → Int32} : zGo (zX fz L xs) d q_124 (203, [(0, .ref 1007), (1, .int x1), (2, .int x2), (3, .int x3), (4, .int x4), (5, .int x5), (8, .int x8)], [.int y0, .int y1, .ref 1023], zmk s w, 0, 0) (some (.int v), zmk s2 w, 0, 0) := by
  obtain ⟨d, rfl⟩ : ∃ d0, d = d0 + 1 := ⟨d - 1, by omega⟩
  unfold f124_203 at h
  obtain ⟨hi, h⟩ := ochk h
  obtain ⟨u1, e_u1, h⟩ := olet h
  refine cIS dd124_203 rfl rfl hi e_u1 ?_
  refine zGo_s (pc' := 205) (st' := [.ref 1007]) dd124_204 rfl ?_
  refine cGF (e := 1022) dd124_205 rfl rfl rfl rfl rfl ?_
  refine cGF (e := 1024) dd124_208 rfl rfl rfl rfl rfl ?_
  refine zGo_s (pc' := 212) (st' := [.int x1, .ref 1024]) dd124_211 rfl ?_
  refine zGo_s (pc' := 214) (st' := [.int x4, .int x1, .ref 1024]) dd124_212 rfl ?_
  rcases oite h with ⟨hc, h⟩ | ⟨hc, h⟩
  · refine zUT dd124_214 rfl (kEqT hc) ?_
    refine zGo_s (pc' := 223) (st' := [.int (0 : Int32), .int x1, .ref 1024]) dd124_222 rfl ?_
    exact zGo_lv (lv := [(0, .ref 1007), (1, .int x1), (2, .int x2), (3, .int x3), (8, .int x8)]) ⟨by simp, by simp, by simp⟩ (f124_223_ok hd h)
  · refine zUF dd124_214 (kEqF hc) ?_
    refine zGo_s (pc' := 219) (st' := [.int x5, .int x1, .ref 1024]) dd124_217 rfl ?_
    refine zGo_s (pc' := 223) (st' := [.int x5, .int x1, .ref 1024]) dd124_219 rfl ?_
    exact zGo_lv (lv := [(0, .ref 1007), (1, .int x1), (2, .int x2), (3, .int x3), (8, .int x8)]) ⟨by simp, by simp, by simp⟩ (f124_223_ok hd h)
def f124_182 (n : Nat) (x1 : Int32) (x2 : Int32) (x3 : Int32) (x4 : Int32) (x5 : Int32) (x6 : Int64) (x8 : Int32) (s : zσ) : Option (Int32 × zσ) :=
    if x3 = (0 : Int32) then
    f124_203 n x1 x2 x3 x4 x5 x8 (-2000000000 : Int32) x1 s
    else f124_203 n x1 x2 x3 x4 x5 x8 (x6.toInt32) x1 s
set_option maxRecDepth 20000 in
theorem f124_182_ok {n d : Nat} {x1 : Int32} {x2 : Int32} {x3 : Int32} {x4 : Int32} {x5 : Int32} {x6 : Int64} {x8 : Int32} {s : zσ} {v : Int32} {s2 : zσ} (hd : 1 ≤ d) (h : f124_182 n x1 x2 x3 x4 x5 x6 x8 s = some (v, s2)) {w : zσ} {fz : Bool} {L : Nat} {xs : Nat → Int32} : zGo (zX fz L xs) d q_124 (182, [(0, .ref 1007), (1, .int x1), (2, .int x2), (3, .int x3), (4, .int x4), (5, .int x5), (6, .long x6), (8, .int x8)], [], zmk s w, 0, 0) (some (.int v), zmk s2 w, 0, 0) := by
  obtain ⟨d, rfl⟩ : ∃ d0, d = d0 + 1 := ⟨d - 1, by omega⟩
  unfold f124_182 at h
  refine zGo_s (pc' := 183) (st' := [.ref 1007]) dd124_182 rfl ?_
  refine cGF (e := 1022) dd124_183 rfl rfl rfl rfl rfl ?_
  refine cGF (e := 1023) dd124_186 rfl rfl rfl rfl rfl ?_
  refine zGo_s (pc' := 190) (st' := [.int x1, .ref 1023]) dd124_189 rfl ?_
  refine zGo_s (pc' := 191) (st' := [.int x3, .int x1, .ref 1023]) dd124_190 rfl ?_
  rcases oite h with ⟨hc, h⟩ | ⟨hc, h⟩
  · refine zUT dd124_191 rfl (kEqT hc) ?_
    refine zGo_s (pc' := 203) (st' := [.int (-2000000000 : Int32), .int x1, .ref 1023]) dd124_200 rfl ?_
    exact zGo_lv (lv := [(0, .ref 1007), (1, .int x1), (2, .int x2), (3, .int x3), (4, .int x4), (5, .int x5), (8, .int x8)]) ⟨by simp, by simp, by simp⟩ (f124_203_ok hd h)
  · refine zUF dd124_191 (kEqF hc) ?_
    refine zGo_s (pc' := 196) (st' := [.long x6, .int x1, .ref 1023]) dd124_194 rfl ?_
    refine zGo_s (pc' := 197) (st' := [.int (x6.toInt32), .int x1, .ref 1023]) dd124_196 rfl ?_
    refine zGo_s (pc' := 203) (st' := [.int (x6.toInt32), .int x1, .ref 1023]) dd124_197 rfl ?_
    exact zGo_lv (lv := [(0, .ref 1007), (1, .int x1), (2, .int x2), (3, .int x3), (4, .int x4), (5, .int x5), (8, .int x8)]) ⟨by simp, by simp, by simp⟩ (f124_203_ok hd h)
def f124_154 (n : Nat) (x1 : Int32) (x2 : Int32) (x3 : Int32) (x4 : Int32) (x5 : Int32) (x6 : Int64) (x8 : Int32) (s : zσ) : Option (Int32 × zσ) :=
    if zin? x1 16 = true then
    if (s.1 1023 (nx x1)) = (-1 : Int32) then
    yb1 (f125 n s) fun v2 u1 =>
    if v2 < (12 : Int32) then
    f124_182 n x1 x2 x3 x4 x5 x6 x8 u1
    else some ((7 : Int32), u1)
    else f124_182 n x1 x2 x3 x4 x5 x6 x8 s
    else none
set_option maxRecDepth 20000 in
theorem f124_154_ok {n d : Nat} {x1 : Int32} {x2 : Int32} {x3 : Int32} {x4 : Int32} {x5 : Int32} {x6 : Int64} {x8 : Int32} {s : zσ} {v : Int32} {s2 : zσ} (hd : 1 ≤ d) (h : f124_154 n x1 x2 x3 x4 x5 x6 x8 s = some (v, s2)) {w : zσ} {fz : Bool} {L : Nat} {xs : Nat → Int32} : zGo (zX fz L xs) d q_124 (154, [(0, .ref 1007), (1, .int x1), (2, .int x2), (3, .int x3), (4, .int x4), (5, .int x5), (6, .long x6), (8, .int x8)], [], zmk s w, 0, 0) (some (.int v), zmk s2 w, 0, 0) := by
  obtain ⟨d, rfl⟩ : ∃ d0, d = d0 + 1 := ⟨d - 1, by omega⟩
  unfold f124_154 at h
  refine zGo_s (pc' := 155) (st' := [.ref 1007]) dd124_154 rfl ?_
  refine cGF (e := 1022) dd124_155 rfl rfl rfl rfl rfl ?_
  refine cGF (e := 1023) dd124_158 rfl rfl rfl rfl rfl ?_
  refine zGo_s (pc' := 162) (st' := [.int x1, .ref 1023]) dd124_161 rfl ?_
  obtain ⟨hi, h⟩ := ochk h
  refine cIA dd124_162 rfl rfl hi ?_
  refine zGo_s (pc' := 164) (st' := [.int (-1 : Int32), .int (s.1 1023 (nx x1))]) dd124_163 rfl ?_
  rcases oite h with ⟨hc, h⟩ | ⟨hc, h⟩
  · refine zIF dd124_164 (kNeF hc) ?_
    refine zGo_s (pc' := 168) (st' := [.ref 1007]) dd124_167 rfl ?_
    refine cGF (e := 1022) dd124_168 rfl rfl rfl rfl rfl ?_
    obtain ⟨v2, u1, hq, h⟩ := obnd h
    refine zCV1 (As := []) (rest := []) (b := 1022) (q' := q_125) dd124_171 rfl rfl (rcv_c rfl rfl (by decide)) rfl rfl rfl (f125_ok (d := d) (by omega)  hq) ?_
    refine zGo_s (pc' := 176) (st' := [.int (12 : Int32), .int v2]) dd124_174 rfl ?_
    rcases oite h with ⟨hc, h⟩ | ⟨hc, h⟩
    · refine zIT dd124_176 rfl (kLtT hc) ?_
      exact f124_182_ok hd h
    · refine zIF dd124_176 (kLtF hc) ?_
      refine zGo_s (pc' := 181) (st' := [.int (7 : Int32)]) dd124_179 rfl ?_
      obtain ⟨rfl, rfl⟩ := oret h
      exact zGo_ret dd124_181 rfl rfl
  · refine zIT dd124_164 rfl (kNeT hc) ?_
    exact f124_182_ok hd h
def f124_122 (n : Nat) (x1 : Int32) (x2 : Int32) (x3 : Int32) (x4 : Int32) (x5 : Int32) (x6 : Int64) (x8 : Int32) (y0 : Int32) (s : zσ) : Option (Int32 × zσ) :=
    if x3 = (0 : Int32) then
    f124_154 n x1 x2 x3 x4 x5 x6 x8 s
    else if y0 = (0 : Int32) then
    if (1000000000 : Int64) < x6 then
    some ((9 : Int32), s)
    else if (x8.toInt64) < x6 then
    some ((9 : Int32), s)
    else f124_154 n x1 x2 x3 x4 x5 x6 x8 s
    else some ((9 : Int32), s)
set_option maxRecDepth 20000 in
theorem f124_122_ok {n d : Nat} {x1 : Int32} {x2 : Int32} {x3 : Int32} {x4 : Int32} {x5 : Int32} {x6 : Int64} {x8 : Int32} {y0 : Int32} {s : zσ} {v : Int32} {s2 : zσ} (hd : 1 ≤ d) (h : f124_122 n x1 x2 x3 x4 x5 x6 x8 y0 s = some (v, s2)) {w : zσ} {fz : Bool} {L : Nat} {xs : Nat → Int32} : zGo (zX fz L xs) d q_124 (122, [(0, .ref 1007), (1, .int x1), (2, .int x2), (3, .int x3), (4, .int x4), (5, .int x5), (6, .long x6), (8, .int x8)], [.int y0], zmk s w, 0, 0) (some (.int v), zmk s2 w, 0, 0) := by
  obtain ⟨d, rfl⟩ : ∃ d0, d = d0 + 1 := ⟨d - 1, by omega⟩
  unfold f124_122 at h
  refine zGo_s (pc' := 124) (st' := []) (lv' := [(9, .int y0), (0, .ref 1007), (1, .int x1), (2, .int x2), (3, .int x3), (4, .int x4), (5, .int x5), (6, .long x6), (8, .int x8)]) dd124_122 rfl ?_
  refine zGo_s (pc' := 125) (st' := [.int x3]) dd124_124 rfl ?_
  rcases oite h with ⟨hc, h⟩ | ⟨hc, h⟩
  · refine zUT dd124_125 rfl (kEqT hc) ?_
    exact zGo_lv (lv := [(0, .ref 1007), (1, .int x1), (2, .int x2), (3, .int x3), (4, .int x4), (5, .int x5), (6, .long x6), (8, .int x8)]) ⟨by simp, by simp, by simp⟩ (f124_154_ok hd h)
  · refine zUF dd124_125 (kEqF hc) ?_
    refine zGo_s (pc' := 130) (st' := [.int y0]) dd124_128 rfl ?_
    rcases oite h with ⟨hc, h⟩ | ⟨hc, h⟩
    · refine zUF dd124_130 (kNeF hc) ?_
      refine zGo_s (pc' := 135) (st' := [.long x6]) dd124_133 rfl ?_
      refine zGo_s (pc' := 138) (st' := [.long (1000000000 : Int64), .long x6]) dd124_135 rfl ?_
      refine zGo_s (pc' := 139) (st' := [.int (lg_cmp x6 (1000000000 : Int64))]) dd124_138 rfl ?_
      rcases oite h with ⟨hc, h⟩ | ⟨hc, h⟩
      · refine zUT dd124_139 rfl (kcGtT hc) ?_
        refine zGo_s (pc' := 153) (st' := [.int (9 : Int32)]) dd124_151 rfl ?_
        obtain ⟨rfl, rfl⟩ := oret h
        exact zGo_ret dd124_153 rfl rfl
      · refine zUF dd124_139 (kcGtF hc) ?_
        refine zGo_s (pc' := 144) (st' := [.int x8]) dd124_142 rfl ?_
        refine zGo_s (pc' := 145) (st' := [.long (x8.toInt64)]) dd124_144 rfl ?_
        refine zGo_s (pc' := 147) (st' := [.long x6, .long (x8.toInt64)]) dd124_145 rfl ?_
        refine zGo_s (pc' := 148) (st' := [.int (lg_cmp (x8.toInt64) x6)]) dd124_147 rfl ?_
        rcases oite h with ⟨hc, h⟩ | ⟨hc, h⟩
        · refine zUF dd124_148 (kcGeF hc) ?_
          refine zGo_s (pc' := 153) (st' := [.int (9 : Int32)]) dd124_151 rfl ?_
          obtain ⟨rfl, rfl⟩ := oret h
          exact zGo_ret dd124_153 rfl rfl
        · refine zUT dd124_148 rfl (kcGeT hc) ?_
          exact zGo_lv (lv := [(0, .ref 1007), (1, .int x1), (2, .int x2), (3, .int x3), (4, .int x4), (5, .int x5), (6, .long x6), (8, .int x8)]) ⟨by simp, by simp, by simp⟩ (f124_154_ok hd h)
    · refine zUT dd124_130 rfl (kNeT hc) ?_
      refine zGo_s (pc' := 153) (st' := [.int (9 : Int32)]) dd124_151 rfl ?_
      obtain ⟨rfl, rfl⟩ := oret h
      exact zGo_ret dd124_153 rfl rfl
def f124_85 (n : Nat) (x1 : Int32) (x2 : Int32) (x3 : Int32) (x4 : Int32) (x5 : Int32) (x6 : Int64) (y0 : Int32) (s : zσ) : Option (Int32 × zσ) :=
    if x2 = (145 : Int32) then
    if x5 < (s.1 1007 14) then
    f124_122 n x1 x2 x3 x4 x5 x6 y0 (1 : Int32) s
    else f124_122 n x1 x2 x3 x4 x5 x6 y0 (0 : Int32) s
    else if x5 < (1 : Int32) then
    f124_122 n x1 x2 x3 x4 x5 x6 y0 (1 : Int32) s
    else f124_122 n x1 x2 x3 x4 x5 x6 y0 (0 : Int32) s
set_option maxRecDepth 20000 in
theorem f124_85_ok {n d : Nat} {x1 : Int32} {x2 : Int32} {x3 : Int32} {x4 : Int32} {x5 : Int32} {x6 : Int64} {y0 : Int32} {s : zσ} {v : Int32} {s2 : zσ} (hd : 1 ≤ d) (h : f124_85 n x1 x2 x3 x4 x5 x6 y0 s = some (v, s2)) {w : zσ} {fz : Bool} {L : Nat} {xs : Nat → Int32} : zGo (zX fz L xs) d q_124 (85, [(0, .ref 1007), (1, .int x1), (2, .int x2), (3, .int x3), (4, .int x4), (5, .int x5), (6, .long x6)], [.int y0], zmk s w, 0, 0) (some (.int v), zmk s2 w, 0, 0) := by
  obtain ⟨d, rfl⟩ : ∃ d0, d = d0 + 1 := ⟨d - 1, by omega⟩
  unfold f124_85 at h
  refine zGo_s (pc' := 87) (st' := []) (lv' := [(8, .int y0), (0, .ref 1007), (1, .int x1), (2, .int x2), (3, .int x3), (4, .int x4), (5, .int x5), (6, .long x6)]) dd124_85 rfl ?_
  refine zGo_s (pc' := 88) (st' := [.int x2]) dd124_87 rfl ?_
  refine zGo_s (pc' := 91) (st' := [.int (145 : Int32), .int x2]) dd124_88 rfl ?_
  rcases oite h with ⟨hc, h⟩ | ⟨hc, h⟩
  · refine zIF dd124_91 (kNeF hc) ?_
    refine zGo_s (pc' := 96) (st' := [.int x5]) dd124_94 rfl ?_
    refine zGo_s (pc' := 97) (st' := [.ref 1007, .int x5]) dd124_96 rfl ?_
    refine cGI dd124_97 rfl rfl rfl rfl ?_
    rcases oite h with ⟨hc, h⟩ | ⟨hc, h⟩
    · refine zIF dd124_100 (kGeF hc) ?_
      refine zGo_s (pc' := 104) (st' := [.int (1 : Int32)]) dd124_103 rfl ?_
      refine zGo_s (pc' := 122) (st' := [.int (1 : Int32)]) dd124_104 rfl ?_
      exact zGo_lv (lv := [(0, .ref 1007), (1, .int x1), (2, .int x2), (3, .int x3), (4, .int x4), (5, .int x5), (6, .long x6), (8, .int y0)]) ⟨by simp, by simp, by simp⟩ (f124_122_ok hd h)
    · refine zIT dd124_100 rfl (kGeT hc) ?_
      refine zGo_s (pc' := 108) (st' := [.int (0 : Int32)]) dd124_107 rfl ?_
      refine zGo_s (pc' := 122) (st' := [.int (0 : Int32)]) dd124_108 rfl ?_
      exact zGo_lv (lv := [(0, .ref 1007), (1, .int x1), (2, .int x2), (3, .int x3), (4, .int x4), (5, .int x5), (6, .long x6), (8, .int y0)]) ⟨by simp, by simp, by simp⟩ (f124_122_ok hd h)
  · refine zIT dd124_91 rfl (kNeT hc) ?_
    refine zGo_s (pc' := 113) (st' := [.int x5]) dd124_111 rfl ?_
    refine zGo_s (pc' := 114) (st' := [.int (1 : Int32), .int x5]) dd124_113 rfl ?_
    rcases oite h with ⟨hc, h⟩ | ⟨hc, h⟩
    · refine zIF dd124_114 (kGeF hc) ?_
      refine zGo_s (pc' := 118) (st' := [.int (1 : Int32)]) dd124_117 rfl ?_
      refine zGo_s (pc' := 122) (st' := [.int (1 : Int32)]) dd124_118 rfl ?_
      exact zGo_lv (lv := [(0, .ref 1007), (1, .int x1), (2, .int x2), (3, .int x3), (4, .int x4), (5, .int x5), (6, .long x6), (8, .int y0)]) ⟨by simp, by simp, by simp⟩ (f124_122_ok hd h)
    · refine zIT dd124_114 rfl (kGeT hc) ?_
      refine zGo_s (pc' := 122) (st' := [.int (0 : Int32)]) dd124_121 rfl ?_
      exact zGo_lv (lv := [(0, .ref 1007), (1, .int x1), (2, .int x2), (3, .int x3), (4, .int x4), (5, .int x5), (6, .long x6), (8, .int y0)]) ⟨by simp, by simp, by simp⟩ (f124_122_ok hd h)
def f124_64 (n : Nat) (x1 : Int32) (x2 : Int32) (x3 : Int32) (x4 : Int32) (x5 : Int32) (y0 : Int64) (s : zσ) : Option (Int32 × zσ) :=
    if x2 = (141 : Int32) then
    if zin? (1 : Int32) 64 = true then
    f124_85 n x1 x2 x3 x4 x5 y0 (s.1 1033 (nx (1 : Int32))) s
    else none
    else f124_85 n x1 x2 x3 x4 x5 y0 (2147483647 : Int32) s
set_option maxRecDepth 20000 in
theorem f124_64_ok {n d : Nat} {x1 : Int32} {x2 : Int32} {x3 : Int32} {x4 : Int32} {x5 : Int32} {y0 : Int64} {s : zσ} {v : Int32} {s2 : zσ} (hd : 1 ≤ d) (h : f124_64 n x1 x2 x3 x4 x5 y0 s = some (v, s2)) {w : zσ} {fz : Bool} {L : Nat} {xs : Nat → Int32} : zGo (zX fz L xs) d q_124 (64, [(0, .ref 1007), (1, .int x1), (2, .int x2), (3, .int x3), (4, .int x4), (5, .int x5)], [.long y0], zmk s w, 0, 0) (some (.int v), zmk s2 w, 0, 0) := by
  obtain ⟨d, rfl⟩ : ∃ d0, d = d0 + 1 := ⟨d - 1, by omega⟩
  unfold f124_64 at h
  refine zGo_s (pc' := 66) (st' := []) (lv' := [(6, .long y0), (0, .ref 1007), (1, .int x1), (2, .int x2), (3, .int x3), (4, .int x4), (5, .int x5)]) dd124_64 rfl ?_
  refine zGo_s (pc' := 67) (st' := [.int x2]) dd124_66 rfl ?_
  refine zGo_s (pc' := 70) (st' := [.int (141 : Int32), .int x2]) dd124_67 rfl ?_
  rcases oite h with ⟨hc, h⟩ | ⟨hc, h⟩
  · refine zIF dd124_70 (kNeF hc) ?_
    refine zGo_s (pc' := 74) (st' := [.ref 1007]) dd124_73 rfl ?_
    refine cGF (e := 1033) dd124_74 rfl rfl rfl rfl rfl ?_
    refine zGo_s (pc' := 78) (st' := [.int (1 : Int32), .ref 1033]) dd124_77 rfl ?_
    obtain ⟨hi, h⟩ := ochk h
    refine cIA dd124_78 rfl rfl hi ?_
    refine zGo_s (pc' := 85) (st' := [.int (s.1 1033 (nx (1 : Int32)))]) dd124_79 rfl ?_
    exact zGo_lv (lv := [(0, .ref 1007), (1, .int x1), (2, .int x2), (3, .int x3), (4, .int x4), (5, .int x5), (6, .long y0)]) ⟨by simp, by simp, by simp⟩ (f124_85_ok hd h)
  · refine zIT dd124_70 rfl (kNeT hc) ?_
    refine zGo_s (pc' := 85) (st' := [.int (2147483647 : Int32)]) dd124_82 rfl ?_
    exact zGo_lv (lv := [(0, .ref 1007), (1, .int x1), (2, .int x2), (3, .int x3), (4, .int x4), (5, .int x5), (6, .long y0)]) ⟨by simp, by simp, by simp⟩ (f124_85_ok hd h)
def f124_32 (n : Nat) (x1 : Int32) (x2 : Int32) (x3 : Int32) (y0 : Int32) (s : zσ) : Option (Int32 × zσ) :=
    if zin? (0 : Int32) 64 = true then
    zlet ((s.1 1033 (nx (0 : Int32)))) fun v1 =>
    if x2 = (145 : Int32) then
    f124_64 n x1 x2 x3 y0 v1 (v1.toInt64) s
    else f124_64 n x1 x2 x3 y0 v1 (((s.1 1007 14).toInt64) + (v1.toInt64)) s
    else none
set_option maxRecDepth 20000 in
theorem f124_32_ok {n d : Nat} {x1 : Int32} {x2 : Int32} {x3 : Int32} {y0 : Int32} {s : zσ} {v : Int32} {s2 : zσ} (hd : 1 ≤ d) (h : f124_32 n x1 x2 x3 y0 s = some (v, s2)) {w : zσ} {fz : Bool} {L : Nat} {xs : Nat → Int32} : zGo (zX fz L xs) d q_124 (32, [(0, .ref 1007), (1, .int x1), (2, .int x2), (3, .int x3)], [.int y0], zmk s w, 0, 0) (some (.int v), zmk s2 w, 0, 0) := by
  obtain ⟨d, rfl⟩ : ∃ d0, d = d0 + 1 := ⟨d - 1, by omega⟩
  unfold f124_32 at h
  refine zGo_s (pc' := 34) (st' := []) (lv' := [(4, .int y0), (0, .ref 1007), (1, .int x1), (2, .int x2), (3, .int x3)]) dd124_32 rfl ?_
  refine zGo_s (pc' := 35) (st' := [.ref 1007]) dd124_34 rfl ?_
  refine cGF (e := 1033) dd124_35 rfl rfl rfl rfl rfl ?_
  refine zGo_s (pc' := 39) (st' := [.int (0 : Int32), .ref 1033]) dd124_38 rfl ?_
  obtain ⟨hi, h⟩ := ochk h
  refine cIA dd124_39 rfl rfl hi ?_
  obtain ⟨v1, e_v1, h⟩ := olet h
  refine zGo_is1 e_v1 dd124_40 (x' := (42, [(5, .int v1), (4, .int y0), (0, .ref 1007), (1, .int x1), (2, .int x2), (3, .int x3)], [], _, _, _)) rfl ?_
  refine zGo_s (pc' := 43) (st' := [.int x2]) dd124_42 rfl ?_
  refine zGo_s (pc' := 46) (st' := [.int (145 : Int32), .int x2]) dd124_43 rfl ?_
  rcases oite h with ⟨hc, h⟩ | ⟨hc, h⟩
  · refine zIF dd124_46 (kNeF hc) ?_
    refine zGo_s (pc' := 51) (st' := [.int v1]) dd124_49 rfl ?_
    refine zGo_s (pc' := 52) (st' := [.long (v1.toInt64)]) dd124_51 rfl ?_
    refine zGo_s (pc' := 64) (st' := [.long (v1.toInt64)]) dd124_52 rfl ?_
    exact zGo_lv (lv := [(0, .ref 1007), (1, .int x1), (2, .int x2), (3, .int x3), (4, .int y0), (5, .int v1)]) ⟨by simp, by simp, by simp⟩ (f124_64_ok hd h)
  · refine zIT dd124_46 rfl (kNeT hc) ?_
    refine zGo_s (pc' := 56) (st' := [.ref 1007]) dd124_55 rfl ?_
    refine cGI dd124_56 rfl rfl rfl rfl ?_
    refine zGo_s (pc' := 60) (st' := [.long ((s.1 1007 14).toInt64)]) dd124_59 rfl ?_
    refine zGo_s (pc' := 62) (st' := [.int v1, .long ((s.1 1007 14).toInt64)]) dd124_60 rfl ?_
    refine zGo_s (pc' := 63) (st' := [.long (v1.toInt64), .long ((s.1 1007 14).toInt64)]) dd124_62 rfl ?_
    refine zGo_s (pc' := 64) (st' := [.long (((s.1 1007 14).toInt64) + (v1.toInt64))]) dd124_63 rfl ?_
    exact zGo_lv (lv := [(0, .ref 1007), (1, .int x1), (2, .int x2), (3, .int x3), (4, .int y0), (5, .int v1)]) ⟨by simp, by simp, by simp⟩ (f124_64_ok hd h)
def f124_27 (n : Nat) (x1 : Int32) (x2 : Int32) (x3 : Int32) (s : zσ) : Option (Int32 × zσ) :=
    f124_32 n x1 x2 x3 (1 : Int32) s
set_option maxRecDepth 20000 in
theorem f124_27_ok {n d : Nat} {x1 : Int32} {x2 : Int32} {x3 : Int32} {s : zσ} {v : Int32} {s2 : zσ} (hd : 1 ≤ d) (h : f124_27 n x1 x2 x3 s = some (v, s2)) {w : zσ} {fz : Bool} {L : Nat} {xs : Nat → Int32} : zGo (zX fz L xs) d q_124 (27, [(0, .ref 1007), (1, .int x1), (2, .int x2), (3, .int x3)], [], zmk s w, 0, 0) (some (.int v), zmk s2 w, 0, 0) := by
  obtain ⟨d, rfl⟩ : ∃ d0, d = d0 + 1 := ⟨d - 1, by omega⟩
  unfold f124_27 at h
  refine zGo_s (pc' := 28) (st' := [.int (1 : Int32)]) dd124_27 rfl ?_
  refine zGo_s (pc' := 32) (st' := [.int (1 : Int32)]) dd124_28 rfl ?_
  exact f124_32_ok hd h
def f124_12 (n : Nat) (x1 : Int32) (x2 : Int32) (y0 : Int32) (s : zσ) : Option (Int32 × zσ) :=
    if x2 = (147 : Int32) then
    f124_27 n x1 x2 y0 s
    else if x2 = (141 : Int32) then
    f124_27 n x1 x2 y0 s
    else f124_32 n x1 x2 y0 (0 : Int32) s
set_option maxRecDepth 20000 in
theorem f124_12_ok {n d : Nat} {x1 : Int32} {x2 : Int32} {y0 : Int32} {s : zσ} {v : Int32} {s2 : zσ} (hd : 1 ≤ d) (h : f124_12 n x1 x2 y0 s = some (v, s2)) {w : zσ} {fz : Bool} {L : Nat} {xs : Nat → Int32} : zGo (zX fz L xs) d q_124 (12, [(0, .ref 1007), (1, .int x1), (2, .int x2)], [.int y0], zmk s w, 0, 0) (some (.int v), zmk s2 w, 0, 0) := by
  obtain ⟨d, rfl⟩ : ∃ d0, d = d0 + 1 := ⟨d - 1, by omega⟩
  unfold f124_12 at h
  refine zGo_s (pc' := 13) (st' := []) (lv' := [(3, .int y0), (0, .ref 1007), (1, .int x1), (2, .int x2)]) dd124_12 rfl ?_
  refine zGo_s (pc' := 14) (st' := [.int x2]) dd124_13 rfl ?_
  refine zGo_s (pc' := 17) (st' := [.int (147 : Int32), .int x2]) dd124_14 rfl ?_
  rcases oite h with ⟨hc, h⟩ | ⟨hc, h⟩
  · refine zIT dd124_17 rfl (kEqT hc) ?_
    exact zGo_lv (lv := [(0, .ref 1007), (1, .int x1), (2, .int x2), (3, .int y0)]) ⟨by simp, by simp, by simp⟩ (f124_27_ok hd h)
  · refine zIF dd124_17 (kEqF hc) ?_
    refine zGo_s (pc' := 21) (st' := [.int x2]) dd124_20 rfl ?_
    refine zGo_s (pc' := 24) (st' := [.int (141 : Int32), .int x2]) dd124_21 rfl ?_
    rcases oite h with ⟨hc, h⟩ | ⟨hc, h⟩
    · refine zIF dd124_24 (kNeF hc) ?_
      exact zGo_lv (lv := [(0, .ref 1007), (1, .int x1), (2, .int x2), (3, .int y0)]) ⟨by simp, by simp, by simp⟩ (f124_27_ok hd h)
    · refine zIT dd124_24 rfl (kNeT hc) ?_
      refine zGo_s (pc' := 32) (st' := [.int (0 : Int32)]) dd124_31 rfl ?_
      exact zGo_lv (lv := [(0, .ref 1007), (1, .int x1), (2, .int x2), (3, .int y0)]) ⟨by simp, by simp, by simp⟩ (f124_32_ok hd h)
def f124 (n : Nat) (x1 : Int32) (x2 : Int32) (s : zσ) : Option (Int32 × zσ) :=
    if x2 < (141 : Int32) then
    f124_12 n x1 x2 (0 : Int32) s
    else f124_12 n x1 x2 (1 : Int32) s
set_option maxRecDepth 20000 in
theorem f124_ok {n d : Nat} {x1 : Int32} {x2 : Int32} {s : zσ} {v : Int32} {s2 : zσ} (hd : 1 ≤ d) (h : f124 n x1 x2 s = some (v, s2)) {w : zσ} {fz : Bool} {L : Nat} {xs : Nat → Int32} : zGo (zX fz L xs) d q_124 (0, [(0, .ref 1007), (1, .int x1), (2, .int x2)], [], zmk s w, 0, 0) (some (.int v), zmk s2 w, 0, 0) := by
  obtain ⟨d, rfl⟩ : ∃ d0, d = d0 + 1 := ⟨d - 1, by omega⟩
  unfold f124 at h
  refine zGo_s (pc' := 1) (st' := [.int x2]) dd124_0 rfl ?_
  refine zGo_s (pc' := 4) (st' := [.int (141 : Int32), .int x2]) dd124_1 rfl ?_
  rcases oite h with ⟨hc, h⟩ | ⟨hc, h⟩
  · refine zIT dd124_4 rfl (kLtT hc) ?_
    refine zGo_s (pc' := 12) (st' := [.int (0 : Int32)]) dd124_11 rfl ?_
    exact f124_12_ok hd h
  · refine zIF dd124_4 (kLtF hc) ?_
    refine zGo_s (pc' := 8) (st' := [.int (1 : Int32)]) dd124_7 rfl ?_
    refine zGo_s (pc' := 12) (st' := [.int (1 : Int32)]) dd124_8 rfl ?_
    exact f124_12_ok hd h
/-! PH$Machine.finish(LPH$Task;)V -/
theorem dd126_0 : decode cX3_finish 0 = .ok (.aload_n 1, 1) := by decide +kernel
theorem dd126_1 : decode cX3_finish 1 = .ok (.dup, 1) := by decide +kernel
theorem dd126_2 : decode cX3_finish 2 = .ok (.getfield 356, 3) := by decide +kernel
theorem dd126_5 : decode cX3_finish 5 = .ok (.iconst 1, 1) := by decide +kernel
theorem dd126_6 : decode cX3_finish 6 = .ok (.iadd, 1) := by decide +kernel
theorem dd126_7 : decode cX3_finish 7 = .ok (.putfield 356, 3) := by decide +kernel
theorem dd126_10 : decode cX3_finish 10 = .ok (.aload_n 0, 1) := by decide +kernel
theorem dd126_11 : decode cX3_finish 11 = .ok (.getfield 41, 3) := by decide +kernel
theorem dd126_14 : decode cX3_finish 14 = .ok (.dup, 1) := by decide +kernel
theorem dd126_15 : decode cX3_finish 15 = .ok (.getfield 151, 3) := by decide +kernel
theorem dd126_18 : decode cX3_finish 18 = .ok (.aload_n 1, 1) := by decide +kernel
theorem dd126_19 : decode cX3_finish 19 = .ok (.getfield 186, 3) := by decide +kernel
theorem dd126_22 : decode cX3_finish 22 = .ok (.iadd, 1) := by decide +kernel
theorem dd126_23 : decode cX3_finish 23 = .ok (.putfield 151, 3) := by decide +kernel
theorem dd126_26 : decode cX3_finish 26 = .ok (.aload_n 1, 1) := by decide +kernel
theorem dd126_27 : decode cX3_finish 27 = .ok (.iconst 0, 1) := by decide +kernel
theorem dd126_28 : decode cX3_finish 28 = .ok (.putfield 186, 3) := by decide +kernel
theorem dd126_31 : decode cX3_finish 31 = .ok (.aload_n 1, 1) := by decide +kernel
theorem dd126_32 : decode cX3_finish 32 = .ok (.iconst 0, 1) := by decide +kernel
theorem dd126_33 : decode cX3_finish 33 = .ok (.putfield 123, 3) := by decide +kernel
theorem dd126_36 : decode cX3_finish 36 = .ok (.aload_n 0, 1) := by decide +kernel
theorem dd126_37 : decode cX3_finish 37 = .ok (.getfield 34, 3) := by decide +kernel
theorem dd126_40 : decode cX3_finish 40 = .ok (.getfield 163, 3) := by decide +kernel
theorem dd126_43 : decode cX3_finish 43 = .ok (.iconst 2, 1) := by decide +kernel
theorem dd126_44 : decode cX3_finish 44 = .ok (.aload_n 1, 1) := by decide +kernel
theorem dd126_45 : decode cX3_finish 45 = .ok (.getfield 290, 3) := by decide +kernel
theorem dd126_48 : decode cX3_finish 48 = .ok (.imul, 1) := by decide +kernel
theorem dd126_49 : decode cX3_finish 49 = .ok (.iconst 1, 1) := by decide +kernel
theorem dd126_50 : decode cX3_finish 50 = .ok (.iadd, 1) := by decide +kernel
theorem dd126_51 : decode cX3_finish 51 = .ok (.iconst (-1), 1) := by decide +kernel
theorem dd126_52 : decode cX3_finish 52 = .ok (.iastore, 1) := by decide +kernel
theorem dd126_53 : decode cX3_finish 53 = .ok (.aload_n 1, 1) := by decide +kernel
theorem dd126_54 : decode cX3_finish 54 = .ok (.getfield 339, 3) := by decide +kernel
theorem dd126_57 : decode cX3_finish 57 = .ok (.ifCond .le 18, 3) := by decide +kernel
theorem dd126_60 : decode cX3_finish 60 = .ok (.aload_n 1, 1) := by decide +kernel
theorem dd126_61 : decode cX3_finish 61 = .ok (.dup, 1) := by decide +kernel
theorem dd126_62 : decode cX3_finish 62 = .ok (.getfield 339, 3) := by decide +kernel
theorem dd126_65 : decode cX3_finish 65 = .ok (.iconst 1, 1) := by decide +kernel
theorem dd126_66 : decode cX3_finish 66 = .ok (.isub, 1) := by decide +kernel
theorem dd126_67 : decode cX3_finish 67 = .ok (.putfield 339, 3) := by decide +kernel
theorem dd126_70 : decode cX3_finish 70 = .ok (.aload_n 0, 1) := by decide +kernel
theorem dd126_71 : decode cX3_finish 71 = .ok (.aload_n 1, 1) := by decide +kernel
theorem dd126_72 : decode cX3_finish 72 = .ok (.invokevirtual 119, 3) := by decide +kernel
theorem dd126_75 : decode cX3_finish 75 = .ok (.return_, 1) := by decide +kernel
def f126 (n : Nat) (x1 : Nat) (s : zσ) : Option zσ :=
    zlet (sI s x1 8 ((s.1 x1 8) + (1 : Int32))) fun u1 =>
    zlet (sI u1 1030 9 ((u1.1 1030 9) + (u1.1 x1 10))) fun u2 =>
    zlet (sI u2 x1 10 (0 : Int32)) fun u3 =>
    zlet (sI u3 x1 3 (0 : Int32)) fun u4 =>
    if zin? (((2 : Int32) * (u4.1 x1 0)) + (1 : Int32)) 16 = true then
    zlet (sI u4 1023 (nx (((2 : Int32) * (u4.1 x1 0)) + (1 : Int32))) (-1 : Int32)) fun u5 =>
    if (0 : Int32) < (u5.1 x1 5) then
    zlet (sI u5 x1 5 ((u5.1 x1 5) - (1 : Int32))) fun u6 =>
    yb0 (f80 n x1 u6) fun u7 =>
    some u7
    else some u5
    else none
set_option maxRecDepth 20000 in
theorem f126_ok {n d : Nat} {x1 : Nat} {s : zσ} {s2 : zσ} (hd : 1 ≤ d) (hx1 : zck 8 x1 = true) (h : f126 n x1 s = some s2) {w : zσ} {fz : Bool} {L : Nat} {xs : Nat → Int32} : zGo (zX fz L xs) d q_126 (0, [(0, .ref 1007), (1, .ref x1)], [], zmk s w, 0, 0) (none, zmk s2 w, 0, 0) := by
  obtain ⟨d, rfl⟩ : ∃ d0, d = d0 + 1 := ⟨d - 1, by omega⟩
  unfold f126 at h
  refine zGo_s (pc' := 1) (st' := [.ref x1]) dd126_0 rfl ?_
  refine zGo_s (pc' := 2) (st' := [.ref x1, .ref x1]) dd126_1 rfl ?_
  refine cGI dd126_2 rfl (ck8_s hx1).1 (ck8_s hx1).2 rfl ?_
  refine zGo_s (pc' := 6) (st' := [.int (1 : Int32), .int (s.1 x1 8), .ref x1]) dd126_5 rfl ?_
  refine zGo_s (pc' := 7) (st' := [.int ((s.1 x1 8) + (1 : Int32)), .ref x1]) dd126_6 rfl ?_
  obtain ⟨u1, e_u1, h⟩ := olet h
  refine cPI dd126_7 rfl (ck8_s hx1).1 (ck8_s hx1).2 rfl rfl rfl e_u1 ?_
  refine zGo_s (pc' := 11) (st' := [.ref 1007]) dd126_10 rfl ?_
  refine cGF (e := 1030) dd126_11 rfl rfl rfl rfl rfl ?_
  refine zGo_s (pc' := 15) (st' := [.ref 1030, .ref 1030]) dd126_14 rfl ?_
  refine cGI dd126_15 rfl rfl rfl rfl ?_
  refine zGo_s (pc' := 19) (st' := [.ref x1, .int (u1.1 1030 9), .ref 1030]) dd126_18 rfl ?_
  refine cGI dd126_19 rfl (ck8_s hx1).1 (ck8_s hx1).2 rfl ?_
  refine zGo_s (pc' := 23) (st' := [.int ((u1.1 1030 9) + (u1.1 x1 10)), .ref 1030]) dd126_22 rfl ?_
  obtain ⟨u2, e_u2, h⟩ := olet h
  refine cPI dd126_23 rfl rfl rfl rfl rfl rfl e_u2 ?_
  refine zGo_s (pc' := 27) (st' := [.ref x1]) dd126_26 rfl ?_
  refine zGo_s (pc' := 28) (st' := [.int (0 : Int32), .ref x1]) dd126_27 rfl ?_
  obtain ⟨u3, e_u3, h⟩ := olet h
  refine cPI dd126_28 rfl (ck8_s hx1).1 (ck8_s hx1).2 rfl rfl rfl e_u3 ?_
  refine zGo_s (pc' := 32) (st' := [.ref x1]) dd126_31 rfl ?_
  refine zGo_s (pc' := 33) (st' := [.int (0 : Int32), .ref x1]) dd126_32 rfl ?_
  obtain ⟨u4, e_u4, h⟩ := olet h
  refine cPI dd126_33 rfl (ck8_s hx1).1 (ck8_s hx1).2 rfl rfl rfl e_u4 ?_
  refine zGo_s (pc' := 37) (st' := [.ref 1007]) dd126_36 rfl ?_
  refine cGF (e := 1022) dd126_37 rfl rfl rfl rfl rfl ?_
  refine cGF (e := 1023) dd126_40 rfl rfl rfl rfl rfl ?_
  refine zGo_s (pc' := 44) (st' := [.int (2 : Int32), .ref 1023]) dd126_43 rfl ?_
  refine zGo_s (pc' := 45) (st' := [.ref x1, .int (2 : Int32), .ref 1023]) dd126_44 rfl ?_
  refine cGI dd126_45 rfl (ck8_s hx1).1 (ck8_s hx1).2 rfl ?_
  refine zGo_s (pc' := 49) (st' := [.int ((2 : Int32) * (u4.1 x1 0)), .ref 1023]) dd126_48 rfl ?_
  refine zGo_s (pc' := 50) (st' := [.int (1 : Int32), .int ((2 : Int32) * (u4.1 x1 0)), .ref 1023]) dd126_49 rfl ?_
  refine zGo_s (pc' := 51) (st' := [.int (((2 : Int32) * (u4.1 x1 0)) + (1 : Int32)), .ref 1023]) dd126_50 rfl ?_
  refine zGo_s (pc' := 52) (st' := [.int (-1 : Int32), .int (((2 : Int32) * (u4.1 x1 0)) + (1 : Int32)), .ref 1023]) dd126_51 rfl ?_
  obtain ⟨hi, h⟩ := ochk h
  obtain ⟨u5, e_u5, h⟩ := olet h
  refine cIS dd126_52 rfl rfl hi e_u5 ?_
  refine zGo_s (pc' := 54) (st' := [.ref x1]) dd126_53 rfl ?_
  refine cGI dd126_54 rfl (ck8_s hx1).1 (ck8_s hx1).2 rfl ?_
  rcases oite h with ⟨hc, h⟩ | ⟨hc, h⟩
  · refine zUF dd126_57 (kLeF hc) ?_
    refine zGo_s (pc' := 61) (st' := [.ref x1]) dd126_60 rfl ?_
    refine zGo_s (pc' := 62) (st' := [.ref x1, .ref x1]) dd126_61 rfl ?_
    refine cGI dd126_62 rfl (ck8_s hx1).1 (ck8_s hx1).2 rfl ?_
    refine zGo_s (pc' := 66) (st' := [.int (1 : Int32), .int (u5.1 x1 5), .ref x1]) dd126_65 rfl ?_
    refine zGo_s (pc' := 67) (st' := [.int ((u5.1 x1 5) - (1 : Int32)), .ref x1]) dd126_66 rfl ?_
    obtain ⟨u6, e_u6, h⟩ := olet h
    refine cPI dd126_67 rfl (ck8_s hx1).1 (ck8_s hx1).2 rfl rfl rfl e_u6 ?_
    refine zGo_s (pc' := 71) (st' := [.ref 1007]) dd126_70 rfl ?_
    refine zGo_s (pc' := 72) (st' := [.ref x1, .ref 1007]) dd126_71 rfl ?_
    obtain ⟨u7, hq, h⟩ := obn0 h
    refine zCV0 (As := [.ref x1]) (rest := []) (b := 1007) (q' := q_80) dd126_72 rfl rfl (rcv_c rfl rfl (by decide)) rfl rfl rfl (f80_ok (d := d) (by omega) hx1 hq) ?_
    obtain rfl := ore0 h
    exact zGo_ret dd126_75 rfl rfl
  · refine zUT dd126_57 rfl (kLeT hc) ?_
    obtain rfl := ore0 h
    exact zGo_ret dd126_75 rfl rfl
